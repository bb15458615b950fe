theorem nOk_nI {x : Int32} (h : nOk x) : x = nI x.toNatClampNeg := by
  have h1 := h.1
  have h2 := h.2
  exact Int32.toInt_inj.mp (by rw [nI_toInt (by rw [clampInt]; omega), clampInt]; omega)
theorem in_nI {k n : Nat} (h : k < n) (hn : n ≤ 40) : vp_in (nI k) 40 := vp_in_nI (by omega) (by omega)
/-- the first one from k on, r to be looked at -/
def m_first (o : MO) (a : MS) (kind : Int32) : Nat → Nat → Int32
  | 0, _ => -1
  | r + 1, k => if a.2 0 k = 0 then (if kind = 2 then nI k else if o.2 0 k = kind then nI k else m_first o a kind r (k + 1)) else m_first o a kind r (k + 1)
def r_X3_first (o : MO) (a : MS) (kind : Int32) : Int32 := m_first o a kind (o.1 1).toNatClampNeg 0
/-- how many of the first k -/
def m_cnt (o : MO) (a : MS) (wh kind : Int32) : Nat → Int32
  | 0 => 0
  | k + 1 => m_cnt o a wh kind k + (if a.2 0 k = wh then (if kind = 2 then 1 else if o.2 0 k = kind then 1 else 0) else 0)
def r_X3_are (o : MO) (a : MS) (wh kind : Int32) : Int32 := m_cnt o a wh kind (o.1 1).toNatClampNeg
def m_sum (w : Nat → Int32) : Nat → Int32
  | 0 => 0
  | k + 1 => m_sum w k + w k
def r_X3_sumWaited (o : MO) (a : MS) : Int32 := m_sum (a.2 1) (o.1 1).toNatClampNeg
/-- the waited minutes of the first k, one more for those that wait -/
def m_wt (k : Nat) (w i : Nat → Int32) : Nat → Int32 := fun j => if j < k then (if i j = 0 then w j + 1 else w j + 0) else w j
theorem m_wt_0 (w i : Nat → Int32) : m_wt 0 w i = w := by
  funext j
  unfold m_wt
  rw [if_neg (Nat.not_lt_zero j)]
theorem m_wt_at (k : Nat) (w i : Nat → Int32) : m_wt k w i k = w k := by
  unfold m_wt
  rw [if_neg (Nat.lt_irrefl k)]
theorem m_wt_y {k : Nat} {w i : Nat → Int32} (h : i k = 0) : upd (m_wt k w i) k ((m_wt k w i k) + (1 : Int32)) = m_wt (k + 1) w i := by
  rw [m_wt_at]
  funext j
  unfold upd m_wt
  by_cases hj : j = k
  · subst hj
    rw [if_pos rfl, if_pos (Nat.lt_succ_self j), if_pos h]
  · rw [if_neg hj]
    by_cases hl : j < k
    · rw [if_pos hl, if_pos (show j < k + 1 by omega)]
    · rw [if_neg hl, if_neg (show ¬ j < k + 1 by omega)]
theorem m_wt_n {k : Nat} {w i : Nat → Int32} (h : ¬ i k = 0) : upd (m_wt k w i) k ((m_wt k w i k) + (0 : Int32)) = m_wt (k + 1) w i := by
  rw [m_wt_at]
  funext j
  unfold upd m_wt
  by_cases hj : j = k
  · subst hj
    rw [if_pos rfl, if_pos (Nat.lt_succ_self j), if_neg h]
  · rw [if_neg hj]
    by_cases hl : j < k
    · rw [if_pos hl, if_pos (show j < k + 1 by omega)]
    · rw [if_neg hl, if_neg (show ¬ j < k + 1 by omega)]
def pOk (x : Int32) : Prop := x = -1 ∨ vp_in x 40
theorem first_in (o : MO) (a : MS) (kind : Int32) : ∀ (r k : Nat), r + k ≤ 40 → pOk (m_first o a kind r k)
  | 0, _, _ => Or.inl rfl
  | r + 1, k, h => by
    have h1 : vp_in (nI k) 40 := vp_in_nI (by omega) (by omega)
    have ih := first_in o a kind r (k + 1) (by omega)
    rw [m_first]
    repeat' split
    all_goals first | exact Or.inr h1 | exact ih
theorem firstOk {o : MO} {a : MS} {kind : Int32} (hn : nOk (o.1 1)) : pOk (r_X3_first o a kind) := first_in o a kind _ 0 (by have := nOk_le hn; omega)

def r_X3_speed (o : MO) (a : MS) (up : Int32) : Int32 :=
  if up = 0 then
    if (5 : Int32) ≤ (a.1 3) then
      (imx (1 : Int32) (((6 : Int32) - ((a.1 2) / (6 : Int32))) / (2 : Int32)))
    else
      ((6 : Int32) - ((a.1 2) / (6 : Int32)))
  else
    if (5 : Int32) ≤ (a.1 3) then
      (imx (1 : Int32) (((1 : Int32) + ((a.1 2) / (6 : Int32))) / (2 : Int32)))
    else
      ((1 : Int32) + ((a.1 2) / (6 : Int32)))
set_option maxHeartbeats 800000 in
set_option maxRecDepth 100000 in
theorem c_X3_speed (l : Launch) (D : va_G) (I : ClassId) (qo : Nat → Nat) (ps pa : Nat) (qs : Nat → Nat) (sz : Nat) (o : MO) (a : MS) (up : Int32)  : xMi l D [(I, .int)] yX3_speed wsX3_speed { frames := 1, cells := 0, slots := 0, locals := 13 } [.ref (qs 0), .int up] sz (wO I qo ps pa o ++ wS I qo qs a) (r_X3_speed o a up) (wO I qo ps pa o ++ wS I qo qs a) 0 0 := by
  refine xk_start (cc := cX3_speed) (maxL := 3) (ret := (some .int)) (Qf := fun A => xQi D [(I, .int)] A (r_X3_speed o a up) (wO I qo ps pa o ++ wS I qo qs a)) (by decide) rfl (Nat.le_of_ble_eq_true rfl) ?_
  intro p e s m below meth c A H ls hst hAe hsz hl
  obtain ⟨hx, hb, hr, hts, hown, hlocks, hml, hin, hN, hK, hP, hD, hA, hS⟩ := hst
  have hl : lv_has ls 3 [(0, .ref (qs 0)), (1, .int up)] := hl
  have hP : va_P D vwCl (wO I qo ps pa o ++ wS I qo qs a) H := hP
  have hinX3 : ∀ w ∈ u_ws RX3 TX3 12, w ∈ wsX3_speed := by decide +kernel
  have w_1 := hts (.fieldLink RX3 15 "BridgeBellsModel$State" "poise" "I") (by decide +kernel)
  have w_2 := hts (.fieldLink RX3 47 "BridgeBellsModel$State" "ice" "I") (by decide +kernel)
  have w_3 := hts (.methodLink RX3 60 Lib.Math.max.name) (by decide +kernel)
  have w_4 := hts (.static Lib.Math.max.name) (by decide +kernel)
  have w_5 := hts (.initialized "java/lang/Math") (by decide +kernel)
  have w_6 := hts (.code Lib.Math.max.name Lib.Math.max.code 2 (some .int)) (by decide +kernel)
  refine lv_iload_n hx hb dX3_speed_0 rfl (lv_at hl 1 rfl) ?_
  refine lv_if_eq (tgt := 16) hx hb dX3_speed_1 (by decide) (fun c_1 => ?_) (fun c_1 => ?_)
  · refine lv_bipush (v := (6 : Int32)) hx hb dX3_speed_16 (by decide) ?_
    refine lv_aload_n hx hb dX3_speed_18 rfl (lv_at hl 0 rfl) ?_
    refine va_get (D := D) (ci := 3) (v := .int (a.1 2)) (C := RX3) (T := TX3) (N := 12) hx hb hts hinX3 hown hK hP 5 rfl rfl 2 (by decide) w_1 (fun _ h9 => h9) rfl dX3_speed_19 ?_
    refine lv_bipush (v := (6 : Int32)) hx hb dX3_speed_22 (by decide) ?_
    refine lv_idiv hx hb dX3_speed_24 (by decide) ?_
    refine lv_isub hx hb dX3_speed_25 ?_
    refine lv_istore_n (lv' := [(2, .int ((6 : Int32) - ((a.1 2) / (6 : Int32)))), (0, .ref (qs 0)), (1, .int up)]) hx hb dX3_speed_26 rfl hl (by decide) rfl (fun ls hl => ?_)
    refine lv_aload_n hx hb dX3_speed_27 rfl (lv_at hl 1 rfl) ?_
    refine va_get (D := D) (ci := 3) (v := .int (a.1 3)) (C := RX3) (T := TX3) (N := 12) hx hb hts hinX3 hown hK hP 5 rfl rfl 3 (by decide) w_2 (fun _ h9 => h9) rfl dX3_speed_28 ?_
    refine lv_iconst (v := (5 : Int32)) hx hb dX3_speed_31 (by decide) ?_
    refine lv_icmp_ge (tgt := 39) hx hb dX3_speed_32 (by decide) (fun c_2 => ?_) (fun c_2 => ?_)
    · refine lv_iconst (v := (1 : Int32)) hx hb dX3_speed_39 (by decide) ?_
      refine lv_iload_n hx hb dX3_speed_40 rfl (lv_at hl 0 rfl) ?_
      refine lv_iconst (v := (2 : Int32)) hx hb dX3_speed_41 (by decide) ?_
      refine lv_idiv hx hb dX3_speed_42 (by decide) ?_
      refine va_mmax hx hb (hml.trans hl.1.symm) hown w_3 w_4 w_5 w_6 (Nat.le_of_ble_eq_true rfl) (Nat.le_of_ble_eq_true rfl) (Nat.le_of_ble_eq_true rfl) (Nat.le_of_ble_eq_true rfl) dX3_speed_43 ?_
      refine W.eq (g2 := F0 m 46 ls [.int (imx (1 : Int32) (((6 : Int32) - ((a.1 2) / (6 : Int32))) / (2 : Int32)))]) rfl ?_
      exact xk_iret (wf := fun z : MO × MS => wO I qo ps pa z.1 ++ wS I qo qs z.2) (u := (o, a)) (u1 := (o, a)) hx hb hr rfl hlocks hP hK hD hS (by unfold r_X3_speed; rw [if_pos c_1, if_pos c_2]) rfl dX3_speed_46
    · refine lv_iload_n hx hb dX3_speed_35 rfl (lv_at hl 0 rfl) ?_
      refine lv_goto (tgt := 46) hx hb dX3_speed_36 (by decide) ?_
      exact xk_iret (wf := fun z : MO × MS => wO I qo ps pa z.1 ++ wS I qo qs z.2) (u := (o, a)) (u1 := (o, a)) hx hb hr rfl hlocks hP hK hD hS (by unfold r_X3_speed; rw [if_pos c_1, if_neg c_2]) rfl dX3_speed_46
  · refine lv_iconst (v := (1 : Int32)) hx hb dX3_speed_4 (by decide) ?_
    refine lv_aload_n hx hb dX3_speed_5 rfl (lv_at hl 0 rfl) ?_
    refine va_get (D := D) (ci := 3) (v := .int (a.1 2)) (C := RX3) (T := TX3) (N := 12) hx hb hts hinX3 hown hK hP 5 rfl rfl 2 (by decide) w_1 (fun _ h9 => h9) rfl dX3_speed_6 ?_
    refine lv_bipush (v := (6 : Int32)) hx hb dX3_speed_9 (by decide) ?_
    refine lv_idiv hx hb dX3_speed_11 (by decide) ?_
    refine lv_iadd hx hb dX3_speed_12 ?_
    refine lv_goto (tgt := 26) hx hb dX3_speed_13 (by decide) ?_
    refine lv_istore_n (lv' := [(2, .int ((1 : Int32) + ((a.1 2) / (6 : Int32)))), (0, .ref (qs 0)), (1, .int up)]) hx hb dX3_speed_26 rfl hl (by decide) rfl (fun ls hl => ?_)
    refine lv_aload_n hx hb dX3_speed_27 rfl (lv_at hl 1 rfl) ?_
    refine va_get (D := D) (ci := 3) (v := .int (a.1 3)) (C := RX3) (T := TX3) (N := 12) hx hb hts hinX3 hown hK hP 5 rfl rfl 3 (by decide) w_2 (fun _ h9 => h9) rfl dX3_speed_28 ?_
    refine lv_iconst (v := (5 : Int32)) hx hb dX3_speed_31 (by decide) ?_
    refine lv_icmp_ge (tgt := 39) hx hb dX3_speed_32 (by decide) (fun c_3 => ?_) (fun c_3 => ?_)
    · refine lv_iconst (v := (1 : Int32)) hx hb dX3_speed_39 (by decide) ?_
      refine lv_iload_n hx hb dX3_speed_40 rfl (lv_at hl 0 rfl) ?_
      refine lv_iconst (v := (2 : Int32)) hx hb dX3_speed_41 (by decide) ?_
      refine lv_idiv hx hb dX3_speed_42 (by decide) ?_
      refine va_mmax hx hb (hml.trans hl.1.symm) hown w_3 w_4 w_5 w_6 (Nat.le_of_ble_eq_true rfl) (Nat.le_of_ble_eq_true rfl) (Nat.le_of_ble_eq_true rfl) (Nat.le_of_ble_eq_true rfl) dX3_speed_43 ?_
      refine W.eq (g2 := F0 m 46 ls [.int (imx (1 : Int32) (((1 : Int32) + ((a.1 2) / (6 : Int32))) / (2 : Int32)))]) rfl ?_
      exact xk_iret (wf := fun z : MO × MS => wO I qo ps pa z.1 ++ wS I qo qs z.2) (u := (o, a)) (u1 := (o, a)) hx hb hr rfl hlocks hP hK hD hS (by unfold r_X3_speed; rw [if_neg c_1, if_pos c_3]) rfl dX3_speed_46
    · refine lv_iload_n hx hb dX3_speed_35 rfl (lv_at hl 0 rfl) ?_
      refine lv_goto (tgt := 46) hx hb dX3_speed_36 (by decide) ?_
      exact xk_iret (wf := fun z : MO × MS => wO I qo ps pa z.1 ++ wS I qo qs z.2) (u := (o, a)) (u1 := (o, a)) hx hb hr rfl hlocks hP hK hD hS (by unfold r_X3_speed; rw [if_neg c_1, if_neg c_3]) rfl dX3_speed_46

set_option maxHeartbeats 800000 in
set_option maxRecDepth 100000 in
theorem c_X3_first (l : Launch) (D : va_G) (I : ClassId) (qo : Nat → Nat) (ps pa : Nat) (qs : Nat → Nat) (sz : Nat) (o : MO) (a : MS) (kind : Int32) (hn : nOk (o.1 1)) : xMi l D [(I, .int)] yX3_first wsX3_first { frames := 0, cells := 0, slots := 0, locals := 0 } [.ref (qs 0), .int kind] sz (wO I qo ps pa o ++ wS I qo qs a) (r_X3_first o a kind) (wO I qo ps pa o ++ wS I qo qs a) 0 0 := by
  refine xk_start (cc := cX3_first) (maxL := 3) (ret := (some .int)) (Qf := fun A => xQi D [(I, .int)] A (r_X3_first o a kind) (wO I qo ps pa o ++ wS I qo qs a)) (by decide) rfl (Nat.le_of_ble_eq_true rfl) ?_
  intro p e s m below meth c A H ls hst hAe hsz hl
  obtain ⟨hx, hb, hr, hts, hown, hlocks, hml, hin, hN, hK, hP, hD, hA, hS⟩ := hst
  have hl : lv_has ls 3 [(0, .ref (qs 0)), (1, .int kind)] := hl
  have hP : va_P D vwCl (wO I qo ps pa o ++ wS I qo qs a) H := hP
  have hinX3 : ∀ w ∈ u_ws RX3 TX3 12, w ∈ wsX3_first := by decide +kernel
  have hinX4 : ∀ w ∈ u_ws RX4 TX4 8, w ∈ wsX3_first := by decide +kernel
  have w_1 := hts (.fieldLink RX3 3 "BridgeBellsModel$State" "this$0" "LBridgeBellsModel;") (by decide +kernel)
  have w_2 := hts (.fieldLink RX3 22 "BridgeBellsModel$State" "is" "[I") (by decide +kernel)
  have hN1 : o.1 1 = nI (o.1 1).toNatClampNeg := nOk_nI hn
  have hN40 : (o.1 1).toNatClampNeg ≤ 40 := nOk_le hn
  refine lv_iconst (v := (0 : Int32)) hx hb dX3_first_0 (by decide) ?_
  refine lv_istore_n (lv' := [(2, .int (0 : Int32)), (0, .ref (qs 0)), (1, .int kind)]) hx hb dX3_first_1 rfl hl (by decide) rfl (fun ls hl => ?_)
  have loop : ∀ (r k : Nat), r + k = (o.1 1).toNatClampNeg → ∀ ls, lv_has ls 3 [(2, .int (nI k)), (0, .ref (qs 0)), (1, .int kind)] → W p l e { frames := 0, cells := 0, slots := 0, locals := 0 } s m #[.ref (qs 0), .int kind] below meth c H [] 0 0 (MQ below (xQi D [(I, .int)] A (m_first o a kind r k) (wO I qo ps pa o ++ wS I qo qs a)) #[.ref (qs 0), .int kind] s 0 0 A) (F0 m 2 ls []) := by
    intro r
    induction r with
    | zero =>
      intro k hk ls hl
      refine lv_iload_n hx hb dX3_first_2 rfl (lv_at hl 0 rfl) ?_
      refine lv_aload_n hx hb dX3_first_3 rfl (lv_at hl 1 rfl) ?_
      refine va_get (D := D) (ci := 3) (v := .ref (qo 0)) (C := RX3) (T := TX3) (N := 12) hx hb hts hinX3 hown hK hP 5 rfl rfl 11 (by decide) w_1 (fun _ h9 => h9) rfl dX3_first_4 ?_
      refine va_getN (D := D) (ci := 4) (v := .int (o.1 1)) (C := RX4) (T := TX4) (N := 8) hx hb hts hinX4 hown hK hP 0 rfl rfl 1 (by decide) (hN.use 12 rfl) (fun _ h9 => h9) rfl dX3_first_7 ?_
      refine lv_icmp_ge (tgt := 48) hx hb dX3_first_10 (by decide) (fun c_1 => ?_) (fun c_1 => ?_)
      · refine lv_iconst (v := (-1 : Int32)) hx hb dX3_first_48 (by decide) ?_
        exact xk_iret (wf := fun z : MO × MS => wO I qo ps pa z.1 ++ wS I qo qs z.2) (u := (o, a)) (u1 := (o, a)) hx hb hr rfl hlocks hP hK hD hS rfl rfl dX3_first_49
      · exact absurd (by rw [hN1]; exact nI_le (by omega) (by omega)) c_1
    | succ r ih =>
      intro k hk ls hl
      refine lv_iload_n hx hb dX3_first_2 rfl (lv_at hl 0 rfl) ?_
      refine lv_aload_n hx hb dX3_first_3 rfl (lv_at hl 1 rfl) ?_
      refine va_get (D := D) (ci := 3) (v := .ref (qo 0)) (C := RX3) (T := TX3) (N := 12) hx hb hts hinX3 hown hK hP 5 rfl rfl 11 (by decide) w_1 (fun _ h9 => h9) rfl dX3_first_4 ?_
      refine va_getN (D := D) (ci := 4) (v := .int (o.1 1)) (C := RX4) (T := TX4) (N := 8) hx hb hts hinX4 hown hK hP 0 rfl rfl 1 (by decide) (hN.use 12 rfl) (fun _ h9 => h9) rfl dX3_first_7 ?_
      refine lv_icmp_ge (tgt := 48) hx hb dX3_first_10 (by decide) (fun c_2 => ?_) (fun c_2 => ?_)
      · exact absurd c_2 (by rw [hN1]; exact nI_ge (by omega) (by omega))
      · refine lv_aload_n hx hb dX3_first_13 rfl (lv_at hl 1 rfl) ?_
        refine va_get (D := D) (ci := 3) (v := .ref (qs 1)) (C := RX3) (T := TX3) (N := 12) hx hb hts hinX3 hown hK hP 5 rfl rfl 7 (by decide) w_2 (fun _ h9 => h9) rfl dX3_first_14 ?_
        refine lv_iload_n hx hb dX3_first_17 rfl (lv_at hl 0 rfl) ?_
        refine va_iald (f := (a.2 0)) hx hb hK hP 6 0 rfl rfl (show vp_in (nI k) 40 from (in_nI (k := k) (by omega) hN40)) dX3_first_18 ?_
        refine W.eq (congrArg (fun z => F0 m 19 ls (.int ((a.2 0) z) :: [])) (nI_clamp (n := k) (by omega))) ?_
        refine lv_if_ne (tgt := 42) hx hb dX3_first_19 (by decide) (fun c_3 => ?_) (fun c_3 => ?_)
        · refine lv_iinc (v := (nI (k + 1))) (lv' := [(2, .int (nI (k + 1))), (0, .ref (qs 0)), (1, .int kind)]) hx hb dX3_first_42 hl (k := 0) rfl (nI_succ k).symm (by decide) rfl (fun ls hl => ?_)
          refine lv_goto (tgt := 2) hx hb dX3_first_45 (by decide) ?_
          have e9 : m_first o a kind (r + 1) k = m_first o a kind r (k + 1) := by rw [m_first, if_neg c_3]
          rw [e9]
          exact ih (k + 1) (by omega) ls hl
        · refine lv_iload_n hx hb dX3_first_22 rfl (lv_at hl 2 rfl) ?_
          refine lv_iconst (v := (2 : Int32)) hx hb dX3_first_23 (by decide) ?_
          refine lv_icmp_eq (tgt := 40) hx hb dX3_first_24 (by decide) (fun c_4 => ?_) (fun c_4 => ?_)
          · refine lv_iload_n hx hb dX3_first_40 rfl (lv_at hl 0 rfl) ?_
            exact xk_iret (wf := fun z : MO × MS => wO I qo ps pa z.1 ++ wS I qo qs z.2) (u := (o, a)) (u1 := (o, a)) hx hb hr rfl hlocks hP hK hD hS (by rw [m_first, if_pos c_3, if_pos c_4]) rfl dX3_first_41
          · refine lv_aload_n hx hb dX3_first_27 rfl (lv_at hl 1 rfl) ?_
            refine va_get (D := D) (ci := 3) (v := .ref (qo 0)) (C := RX3) (T := TX3) (N := 12) hx hb hts hinX3 hown hK hP 5 rfl rfl 11 (by decide) w_1 (fun _ h9 => h9) rfl dX3_first_28 ?_
            refine va_getN (D := D) (ci := 4) (v := .ref (qo 1)) (C := RX4) (T := TX4) (N := 8) hx hb hts hinX4 hown hK hP 0 rfl rfl 2 (by decide) (hN.use 13 rfl) (fun _ h9 => h9) rfl dX3_first_31 ?_
            refine lv_iload_n hx hb dX3_first_34 rfl (lv_at hl 0 rfl) ?_
            refine va_iald (f := (o.2 0)) hx hb hK hP 1 0 rfl rfl (show vp_in (nI k) 40 from (in_nI (k := k) (by omega) hN40)) dX3_first_35 ?_
            refine W.eq (congrArg (fun z => F0 m 36 ls (.int ((o.2 0) z) :: [])) (nI_clamp (n := k) (by omega))) ?_
            refine lv_iload_n hx hb dX3_first_36 rfl (lv_at hl 2 rfl) ?_
            refine lv_icmp_ne (tgt := 42) hx hb dX3_first_37 (by decide) (fun c_5 => ?_) (fun c_5 => ?_)
            · refine lv_iinc (v := (nI (k + 1))) (lv' := [(2, .int (nI (k + 1))), (0, .ref (qs 0)), (1, .int kind)]) hx hb dX3_first_42 hl (k := 0) rfl (nI_succ k).symm (by decide) rfl (fun ls hl => ?_)
              refine lv_goto (tgt := 2) hx hb dX3_first_45 (by decide) ?_
              have e9 : m_first o a kind (r + 1) k = m_first o a kind r (k + 1) := by rw [m_first, if_pos c_3, if_neg c_4, if_neg c_5]
              rw [e9]
              exact ih (k + 1) (by omega) ls hl
            · refine lv_iload_n hx hb dX3_first_40 rfl (lv_at hl 0 rfl) ?_
              exact xk_iret (wf := fun z : MO × MS => wO I qo ps pa z.1 ++ wS I qo qs z.2) (u := (o, a)) (u1 := (o, a)) hx hb hr rfl hlocks hP hK hD hS (by rw [m_first, if_pos c_3, if_neg c_4, if_pos c_5]) rfl dX3_first_41
  exact loop _ 0 (by omega) ls hl

set_option maxHeartbeats 800000 in
set_option maxRecDepth 100000 in
theorem c_X3_are (l : Launch) (D : va_G) (I : ClassId) (qo : Nat → Nat) (ps pa : Nat) (qs : Nat → Nat) (sz : Nat) (o : MO) (a : MS) (wh : Int32) (kind : Int32) (hn : nOk (o.1 1)) : xMi l D [(I, .int)] yX3_are wsX3_are { frames := 0, cells := 0, slots := 0, locals := 0 } [.ref (qs 0), .int wh, .int kind] sz (wO I qo ps pa o ++ wS I qo qs a) (r_X3_are o a wh kind) (wO I qo ps pa o ++ wS I qo qs a) 0 0 := by
  refine xk_start (cc := cX3_are) (maxL := 5) (ret := (some .int)) (Qf := fun A => xQi D [(I, .int)] A (r_X3_are o a wh kind) (wO I qo ps pa o ++ wS I qo qs a)) (by decide) rfl (Nat.le_of_ble_eq_true rfl) ?_
  intro p e s m below meth c A H ls hst hAe hsz hl
  obtain ⟨hx, hb, hr, hts, hown, hlocks, hml, hin, hN, hK, hP, hD, hA, hS⟩ := hst
  have hl : lv_has ls 5 [(0, .ref (qs 0)), (1, .int wh), (2, .int kind)] := hl
  have hP : va_P D vwCl (wO I qo ps pa o ++ wS I qo qs a) H := hP
  have hinX3 : ∀ w ∈ u_ws RX3 TX3 12, w ∈ wsX3_are := by decide +kernel
  have hinX4 : ∀ w ∈ u_ws RX4 TX4 8, w ∈ wsX3_are := by decide +kernel
  have w_1 := hts (.fieldLink RX3 3 "BridgeBellsModel$State" "this$0" "LBridgeBellsModel;") (by decide +kernel)
  have w_2 := hts (.fieldLink RX3 22 "BridgeBellsModel$State" "is" "[I") (by decide +kernel)
  have hN1 : o.1 1 = nI (o.1 1).toNatClampNeg := nOk_nI hn
  have hN40 : (o.1 1).toNatClampNeg ≤ 40 := nOk_le hn
  refine lv_iconst (v := (0 : Int32)) hx hb dX3_are_0 (by decide) ?_
  refine lv_istore_n (lv' := [(3, .int (0 : Int32)), (0, .ref (qs 0)), (1, .int wh), (2, .int kind)]) hx hb dX3_are_1 rfl hl (by decide) rfl (fun ls hl => ?_)
  refine lv_iconst (v := (0 : Int32)) hx hb dX3_are_2 (by decide) ?_
  refine lv_istore (lv' := [(4, .int (0 : Int32)), (3, .int (0 : Int32)), (0, .ref (qs 0)), (1, .int wh), (2, .int kind)]) hx hb dX3_are_3 hl (by decide) rfl (fun ls hl => ?_)
  have loop : ∀ (r k : Nat), r + k = (o.1 1).toNatClampNeg → ∀ ls, lv_has ls 5 [(4, .int (nI k)), (3, .int (m_cnt o a wh kind k)), (0, .ref (qs 0)), (1, .int wh), (2, .int kind)] → W p l e { frames := 0, cells := 0, slots := 0, locals := 0 } s m #[.ref (qs 0), .int wh, .int kind] below meth c H [] 0 0 (MQ below (xQi D [(I, .int)] A (m_cnt o a wh kind (r + k)) (wO I qo ps pa o ++ wS I qo qs a)) #[.ref (qs 0), .int wh, .int kind] s 0 0 A) (F0 m 5 ls []) := by
    intro r
    induction r with
    | zero =>
      intro k hk ls hl
      refine lv_iload hx hb dX3_are_5 (lv_at hl 0 rfl) ?_
      refine lv_aload_n hx hb dX3_are_7 rfl (lv_at hl 2 rfl) ?_
      refine va_get (D := D) (ci := 3) (v := .ref (qo 0)) (C := RX3) (T := TX3) (N := 12) hx hb hts hinX3 hown hK hP 5 rfl rfl 11 (by decide) w_1 (fun _ h9 => h9) rfl dX3_are_8 ?_
      refine va_getN (D := D) (ci := 4) (v := .int (o.1 1)) (C := RX4) (T := TX4) (N := 8) hx hb hts hinX4 hown hK hP 0 rfl rfl 1 (by decide) (hN.use 12 rfl) (fun _ h9 => h9) rfl dX3_are_11 ?_
      refine lv_icmp_ge (tgt := 61) hx hb dX3_are_14 (by decide) (fun c_1 => ?_) (fun c_1 => ?_)
      · refine lv_iload_n hx hb dX3_are_61 rfl (lv_at hl 1 rfl) ?_
        exact xk_iret (wf := fun z : MO × MS => wO I qo ps pa z.1 ++ wS I qo qs z.2) (u := (o, a)) (u1 := (o, a)) hx hb hr rfl hlocks hP hK hD hS (by rw [Nat.zero_add]) rfl dX3_are_62
      · exact absurd (by rw [hN1]; exact nI_le (by omega) (by omega)) c_1
    | succ r ih =>
      intro k hk ls hl
      refine lv_iload hx hb dX3_are_5 (lv_at hl 0 rfl) ?_
      refine lv_aload_n hx hb dX3_are_7 rfl (lv_at hl 2 rfl) ?_
      refine va_get (D := D) (ci := 3) (v := .ref (qo 0)) (C := RX3) (T := TX3) (N := 12) hx hb hts hinX3 hown hK hP 5 rfl rfl 11 (by decide) w_1 (fun _ h9 => h9) rfl dX3_are_8 ?_
      refine va_getN (D := D) (ci := 4) (v := .int (o.1 1)) (C := RX4) (T := TX4) (N := 8) hx hb hts hinX4 hown hK hP 0 rfl rfl 1 (by decide) (hN.use 12 rfl) (fun _ h9 => h9) rfl dX3_are_11 ?_
      refine lv_icmp_ge (tgt := 61) hx hb dX3_are_14 (by decide) (fun c_2 => ?_) (fun c_2 => ?_)
      · exact absurd c_2 (by rw [hN1]; exact nI_ge (by omega) (by omega))
      · refine lv_iload_n hx hb dX3_are_17 rfl (lv_at hl 1 rfl) ?_
        refine lv_aload_n hx hb dX3_are_18 rfl (lv_at hl 2 rfl) ?_
        refine va_get (D := D) (ci := 3) (v := .ref (qs 1)) (C := RX3) (T := TX3) (N := 12) hx hb hts hinX3 hown hK hP 5 rfl rfl 7 (by decide) w_2 (fun _ h9 => h9) rfl dX3_are_19 ?_
        refine lv_iload hx hb dX3_are_22 (lv_at hl 0 rfl) ?_
        refine va_iald (f := (a.2 0)) hx hb hK hP 6 0 rfl rfl (show vp_in (nI k) 40 from (in_nI (k := k) (by omega) hN40)) dX3_are_24 ?_
        refine W.eq (congrArg (fun z => F0 m 25 ls (.int ((a.2 0) z) :: [.int (m_cnt o a wh kind k)])) (nI_clamp (n := k) (by omega))) ?_
        refine lv_iload_n hx hb dX3_are_25 rfl (lv_at hl 3 rfl) ?_
        refine lv_icmp_ne (tgt := 52) hx hb dX3_are_26 (by decide) (fun c_3 => ?_) (fun c_3 => ?_)
        · refine lv_iconst (v := (0 : Int32)) hx hb dX3_are_52 (by decide) ?_
          refine lv_iadd hx hb dX3_are_53 ?_
          refine lv_istore_n (lv' := [(3, .int ((m_cnt o a wh kind k) + (0 : Int32))), (4, .int (nI k)), (0, .ref (qs 0)), (1, .int wh), (2, .int kind)]) hx hb dX3_are_54 rfl hl (by decide) rfl (fun ls hl => ?_)
          refine lv_iinc (v := (nI (k + 1))) (lv' := [(4, .int (nI (k + 1))), (3, .int ((m_cnt o a wh kind k) + (0 : Int32))), (0, .ref (qs 0)), (1, .int wh), (2, .int kind)]) hx hb dX3_are_55 hl (k := 1) rfl (nI_succ k).symm (by decide) rfl (fun ls hl => ?_)
          refine lv_goto (tgt := 5) hx hb dX3_are_58 (by decide) ?_
          have e9 : m_cnt o a wh kind (k + 1) = ((m_cnt o a wh kind k) + (0 : Int32)) := by rw [m_cnt, if_neg c_3]
          rw [← e9] at hl
          rw [show r + 1 + k = r + (k + 1) by omega]
          exact ih (k + 1) (by omega) ls (lv_sub hl [0, 1, 2, 3, 4] rfl)
        · refine lv_iload_n hx hb dX3_are_29 rfl (lv_at hl 4 rfl) ?_
          refine lv_iconst (v := (2 : Int32)) hx hb dX3_are_30 (by decide) ?_
          refine lv_icmp_eq (tgt := 48) hx hb dX3_are_31 (by decide) (fun c_4 => ?_) (fun c_4 => ?_)
          · refine lv_iconst (v := (1 : Int32)) hx hb dX3_are_48 (by decide) ?_
            refine lv_goto (tgt := 53) hx hb dX3_are_49 (by decide) ?_
            refine lv_iadd hx hb dX3_are_53 ?_
            refine lv_istore_n (lv' := [(3, .int ((m_cnt o a wh kind k) + (1 : Int32))), (4, .int (nI k)), (0, .ref (qs 0)), (1, .int wh), (2, .int kind)]) hx hb dX3_are_54 rfl hl (by decide) rfl (fun ls hl => ?_)
            refine lv_iinc (v := (nI (k + 1))) (lv' := [(4, .int (nI (k + 1))), (3, .int ((m_cnt o a wh kind k) + (1 : Int32))), (0, .ref (qs 0)), (1, .int wh), (2, .int kind)]) hx hb dX3_are_55 hl (k := 1) rfl (nI_succ k).symm (by decide) rfl (fun ls hl => ?_)
            refine lv_goto (tgt := 5) hx hb dX3_are_58 (by decide) ?_
            have e9 : m_cnt o a wh kind (k + 1) = ((m_cnt o a wh kind k) + (1 : Int32)) := by rw [m_cnt, if_pos c_3, if_pos c_4]
            rw [← e9] at hl
            rw [show r + 1 + k = r + (k + 1) by omega]
            exact ih (k + 1) (by omega) ls (lv_sub hl [0, 1, 2, 3, 4] rfl)
          · refine lv_aload_n hx hb dX3_are_34 rfl (lv_at hl 2 rfl) ?_
            refine va_get (D := D) (ci := 3) (v := .ref (qo 0)) (C := RX3) (T := TX3) (N := 12) hx hb hts hinX3 hown hK hP 5 rfl rfl 11 (by decide) w_1 (fun _ h9 => h9) rfl dX3_are_35 ?_
            refine va_getN (D := D) (ci := 4) (v := .ref (qo 1)) (C := RX4) (T := TX4) (N := 8) hx hb hts hinX4 hown hK hP 0 rfl rfl 2 (by decide) (hN.use 13 rfl) (fun _ h9 => h9) rfl dX3_are_38 ?_
            refine lv_iload hx hb dX3_are_41 (lv_at hl 0 rfl) ?_
            refine va_iald (f := (o.2 0)) hx hb hK hP 1 0 rfl rfl (show vp_in (nI k) 40 from (in_nI (k := k) (by omega) hN40)) dX3_are_43 ?_
            refine W.eq (congrArg (fun z => F0 m 44 ls (.int ((o.2 0) z) :: [.int (m_cnt o a wh kind k)])) (nI_clamp (n := k) (by omega))) ?_
            refine lv_iload_n hx hb dX3_are_44 rfl (lv_at hl 4 rfl) ?_
            refine lv_icmp_ne (tgt := 52) hx hb dX3_are_45 (by decide) (fun c_5 => ?_) (fun c_5 => ?_)
            · refine lv_iconst (v := (0 : Int32)) hx hb dX3_are_52 (by decide) ?_
              refine lv_iadd hx hb dX3_are_53 ?_
              refine lv_istore_n (lv' := [(3, .int ((m_cnt o a wh kind k) + (0 : Int32))), (4, .int (nI k)), (0, .ref (qs 0)), (1, .int wh), (2, .int kind)]) hx hb dX3_are_54 rfl hl (by decide) rfl (fun ls hl => ?_)
              refine lv_iinc (v := (nI (k + 1))) (lv' := [(4, .int (nI (k + 1))), (3, .int ((m_cnt o a wh kind k) + (0 : Int32))), (0, .ref (qs 0)), (1, .int wh), (2, .int kind)]) hx hb dX3_are_55 hl (k := 1) rfl (nI_succ k).symm (by decide) rfl (fun ls hl => ?_)
              refine lv_goto (tgt := 5) hx hb dX3_are_58 (by decide) ?_
              have e9 : m_cnt o a wh kind (k + 1) = ((m_cnt o a wh kind k) + (0 : Int32)) := by rw [m_cnt, if_pos c_3, if_neg c_4, if_neg c_5]
              rw [← e9] at hl
              rw [show r + 1 + k = r + (k + 1) by omega]
              exact ih (k + 1) (by omega) ls (lv_sub hl [0, 1, 2, 3, 4] rfl)
            · refine lv_iconst (v := (1 : Int32)) hx hb dX3_are_48 (by decide) ?_
              refine lv_goto (tgt := 53) hx hb dX3_are_49 (by decide) ?_
              refine lv_iadd hx hb dX3_are_53 ?_
              refine lv_istore_n (lv' := [(3, .int ((m_cnt o a wh kind k) + (1 : Int32))), (4, .int (nI k)), (0, .ref (qs 0)), (1, .int wh), (2, .int kind)]) hx hb dX3_are_54 rfl hl (by decide) rfl (fun ls hl => ?_)
              refine lv_iinc (v := (nI (k + 1))) (lv' := [(4, .int (nI (k + 1))), (3, .int ((m_cnt o a wh kind k) + (1 : Int32))), (0, .ref (qs 0)), (1, .int wh), (2, .int kind)]) hx hb dX3_are_55 hl (k := 1) rfl (nI_succ k).symm (by decide) rfl (fun ls hl => ?_)
              refine lv_goto (tgt := 5) hx hb dX3_are_58 (by decide) ?_
              have e9 : m_cnt o a wh kind (k + 1) = ((m_cnt o a wh kind k) + (1 : Int32)) := by rw [m_cnt, if_pos c_3, if_neg c_4, if_pos c_5]
              rw [← e9] at hl
              rw [show r + 1 + k = r + (k + 1) by omega]
              exact ih (k + 1) (by omega) ls (lv_sub hl [0, 1, 2, 3, 4] rfl)
  exact loop (o.1 1).toNatClampNeg 0 (by omega) ls hl

set_option maxHeartbeats 800000 in
set_option maxRecDepth 100000 in
theorem c_X3_sumWaited (l : Launch) (D : va_G) (I : ClassId) (qo : Nat → Nat) (ps pa : Nat) (qs : Nat → Nat) (sz : Nat) (o : MO) (a : MS) (hn : nOk (o.1 1)) : xMi l D [(I, .int)] yX3_sumWaited wsX3_sumWaited { frames := 0, cells := 0, slots := 0, locals := 0 } [.ref (qs 0)] sz (wO I qo ps pa o ++ wS I qo qs a) (r_X3_sumWaited o a) (wO I qo ps pa o ++ wS I qo qs a) 0 0 := by
  refine xk_start (cc := cX3_sumWaited) (maxL := 3) (ret := (some .int)) (Qf := fun A => xQi D [(I, .int)] A (r_X3_sumWaited o a) (wO I qo ps pa o ++ wS I qo qs a)) (by decide) rfl (Nat.le_of_ble_eq_true rfl) ?_
  intro p e s m below meth c A H ls hst hAe hsz hl
  obtain ⟨hx, hb, hr, hts, hown, hlocks, hml, hin, hN, hK, hP, hD, hA, hS⟩ := hst
  have hl : lv_has ls 3 [(0, .ref (qs 0))] := hl
  have hP : va_P D vwCl (wO I qo ps pa o ++ wS I qo qs a) H := hP
  have hinX3 : ∀ w ∈ u_ws RX3 TX3 12, w ∈ wsX3_sumWaited := by decide +kernel
  have hinX4 : ∀ w ∈ u_ws RX4 TX4 8, w ∈ wsX3_sumWaited := by decide +kernel
  have w_1 := hts (.fieldLink RX3 3 "BridgeBellsModel$State" "this$0" "LBridgeBellsModel;") (by decide +kernel)
  have w_2 := hts (.fieldLink RX3 26 "BridgeBellsModel$State" "waited" "[I") (by decide +kernel)
  have hN1 : o.1 1 = nI (o.1 1).toNatClampNeg := nOk_nI hn
  have hN40 : (o.1 1).toNatClampNeg ≤ 40 := nOk_le hn
  refine lv_iconst (v := (0 : Int32)) hx hb dX3_sumWaited_0 (by decide) ?_
  refine lv_istore_n (lv' := [(1, .int (0 : Int32)), (0, .ref (qs 0))]) hx hb dX3_sumWaited_1 rfl hl (by decide) rfl (fun ls hl => ?_)
  refine lv_iconst (v := (0 : Int32)) hx hb dX3_sumWaited_2 (by decide) ?_
  refine lv_istore_n (lv' := [(2, .int (0 : Int32)), (1, .int (0 : Int32)), (0, .ref (qs 0))]) hx hb dX3_sumWaited_3 rfl hl (by decide) rfl (fun ls hl => ?_)
  have loop : ∀ (r k : Nat), r + k = (o.1 1).toNatClampNeg → ∀ ls, lv_has ls 3 [(2, .int (nI k)), (1, .int (m_sum (a.2 1) k)), (0, .ref (qs 0))] → W p l e { frames := 0, cells := 0, slots := 0, locals := 0 } s m #[.ref (qs 0)] below meth c H [] 0 0 (MQ below (xQi D [(I, .int)] A (m_sum (a.2 1) (r + k)) (wO I qo ps pa o ++ wS I qo qs a)) #[.ref (qs 0)] s 0 0 A) (F0 m 4 ls []) := by
    intro r
    induction r with
    | zero =>
      intro k hk ls hl
      refine lv_iload_n hx hb dX3_sumWaited_4 rfl (lv_at hl 0 rfl) ?_
      refine lv_aload_n hx hb dX3_sumWaited_5 rfl (lv_at hl 2 rfl) ?_
      refine va_get (D := D) (ci := 3) (v := .ref (qo 0)) (C := RX3) (T := TX3) (N := 12) hx hb hts hinX3 hown hK hP 5 rfl rfl 11 (by decide) w_1 (fun _ h9 => h9) rfl dX3_sumWaited_6 ?_
      refine va_getN (D := D) (ci := 4) (v := .int (o.1 1)) (C := RX4) (T := TX4) (N := 8) hx hb hts hinX4 hown hK hP 0 rfl rfl 1 (by decide) (hN.use 12 rfl) (fun _ h9 => h9) rfl dX3_sumWaited_9 ?_
      refine lv_icmp_ge (tgt := 30) hx hb dX3_sumWaited_12 (by decide) (fun c_1 => ?_) (fun c_1 => ?_)
      · refine lv_iload_n hx hb dX3_sumWaited_30 rfl (lv_at hl 1 rfl) ?_
        exact xk_iret (wf := fun z : MO × MS => wO I qo ps pa z.1 ++ wS I qo qs z.2) (u := (o, a)) (u1 := (o, a)) hx hb hr rfl hlocks hP hK hD hS (by rw [Nat.zero_add]) rfl dX3_sumWaited_31
      · exact absurd (by rw [hN1]; exact nI_le (by omega) (by omega)) c_1
    | succ r ih =>
      intro k hk ls hl
      refine lv_iload_n hx hb dX3_sumWaited_4 rfl (lv_at hl 0 rfl) ?_
      refine lv_aload_n hx hb dX3_sumWaited_5 rfl (lv_at hl 2 rfl) ?_
      refine va_get (D := D) (ci := 3) (v := .ref (qo 0)) (C := RX3) (T := TX3) (N := 12) hx hb hts hinX3 hown hK hP 5 rfl rfl 11 (by decide) w_1 (fun _ h9 => h9) rfl dX3_sumWaited_6 ?_
      refine va_getN (D := D) (ci := 4) (v := .int (o.1 1)) (C := RX4) (T := TX4) (N := 8) hx hb hts hinX4 hown hK hP 0 rfl rfl 1 (by decide) (hN.use 12 rfl) (fun _ h9 => h9) rfl dX3_sumWaited_9 ?_
      refine lv_icmp_ge (tgt := 30) hx hb dX3_sumWaited_12 (by decide) (fun c_2 => ?_) (fun c_2 => ?_)
      · exact absurd c_2 (by rw [hN1]; exact nI_ge (by omega) (by omega))
      · refine lv_iload_n hx hb dX3_sumWaited_15 rfl (lv_at hl 1 rfl) ?_
        refine lv_aload_n hx hb dX3_sumWaited_16 rfl (lv_at hl 2 rfl) ?_
        refine va_get (D := D) (ci := 3) (v := .ref (qs 2)) (C := RX3) (T := TX3) (N := 12) hx hb hts hinX3 hown hK hP 5 rfl rfl 8 (by decide) w_2 (fun _ h9 => h9) rfl dX3_sumWaited_17 ?_
        refine lv_iload_n hx hb dX3_sumWaited_20 rfl (lv_at hl 0 rfl) ?_
        refine va_iald (f := (a.2 1)) hx hb hK hP 7 0 rfl rfl (show vp_in (nI k) 40 from (in_nI (k := k) (by omega) hN40)) dX3_sumWaited_21 ?_
        refine W.eq (congrArg (fun z => F0 m 22 ls (.int ((a.2 1) z) :: [.int (m_sum (a.2 1) k)])) (nI_clamp (n := k) (by omega))) ?_
        refine lv_iadd hx hb dX3_sumWaited_22 ?_
        refine lv_istore_n (lv' := [(1, .int ((m_sum (a.2 1) k) + ((a.2 1) k))), (2, .int (nI k)), (0, .ref (qs 0))]) hx hb dX3_sumWaited_23 rfl hl (by decide) rfl (fun ls hl => ?_)
        refine lv_iinc (v := (nI (k + 1))) (lv' := [(2, .int (nI (k + 1))), (1, .int ((m_sum (a.2 1) k) + ((a.2 1) k))), (0, .ref (qs 0))]) hx hb dX3_sumWaited_24 hl (k := 1) rfl (nI_succ k).symm (by decide) rfl (fun ls hl => ?_)
        refine lv_goto (tgt := 4) hx hb dX3_sumWaited_27 (by decide) ?_
        have e9 : m_sum (a.2 1) (k + 1) = ((m_sum (a.2 1) k) + ((a.2 1) k)) := rfl
        rw [← e9] at hl
        rw [show r + 1 + k = r + (k + 1) by omega]
        exact ih (k + 1) (by omega) ls (lv_sub hl [0, 1, 2] rfl)
  exact loop (o.1 1).toNatClampNeg 0 (by omega) ls hl

def r_X3_next (o : MO) (a : MS) : Int32 :=
  if (a.1 5) = (-1 : Int32) then
    if (a.1 4) = (4 : Int32) then
      (-1 : Int32)
    else
      if (a.1 4) = 0 then
        (r_X3_first o a (2 : Int32))
      else
        if (a.1 4) = (1 : Int32) then
          if (r_X3_first o a (1 : Int32)) = (-1 : Int32) then
            (r_X3_first o a (0 : Int32))
          else
            (r_X3_first o a (1 : Int32))
        else
          if (a.1 4) = (3 : Int32) then
            if (a.1 6) = 0 then
              if (r_X3_first o a (1 : Int32)) = (-1 : Int32) then
                (r_X3_first o a (0 : Int32))
              else
                (r_X3_first o a (1 : Int32))
            else
              if (r_X3_first o a (0 : Int32)) = (-1 : Int32) then
                (r_X3_first o a (1 : Int32))
              else
                (r_X3_first o a (0 : Int32))
          else
            if (r_X3_first o a (0 : Int32)) = (-1 : Int32) then
              (r_X3_first o a (1 : Int32))
            else
              (r_X3_first o a (0 : Int32))
  else
    (-1 : Int32)
set_option maxHeartbeats 800000 in
set_option maxRecDepth 100000 in
theorem c_X3_next (l : Launch) (D : va_G) (I : ClassId) (qo : Nat → Nat) (ps pa : Nat) (qs : Nat → Nat) (sz : Nat) (o : MO) (a : MS) (hn : nOk (o.1 1)) : xMi l D [(I, .int)] yX3_next wsX3_next { frames := 1, cells := 0, slots := 0, locals := 22 } [.ref (qs 0)] sz (wO I qo ps pa o ++ wS I qo qs a) (r_X3_next o a) (wO I qo ps pa o ++ wS I qo qs a) 0 0 := by
  refine xk_start (cc := cX3_next) (maxL := 2) (ret := (some .int)) (Qf := fun A => xQi D [(I, .int)] A (r_X3_next o a) (wO I qo ps pa o ++ wS I qo qs a)) (by decide) rfl (Nat.le_of_ble_eq_true rfl) ?_
  intro p e s m below meth c A H ls hst hAe hsz hl
  obtain ⟨hx, hb, hr, hts, hown, hlocks, hml, hin, hN, hK, hP, hD, hA, hS⟩ := hst
  have hl : lv_has ls 2 [(0, .ref (qs 0))] := hl
  have hP : va_P D vwCl (wO I qo ps pa o ++ wS I qo qs a) H := hP
  have hinX3 : ∀ w ∈ u_ws RX3 TX3 12, w ∈ wsX3_next := by decide +kernel
  have w_1 := hts (.fieldLink RX3 19 "BridgeBellsModel$State" "passer" "I") (by decide +kernel)
  have w_2 := hts (.fieldLink RX3 50 "BridgeBellsModel$State" "code" "I") (by decide +kernel)
  have w_3 := hts (.fieldLink RX3 53 "BridgeBellsModel$State" "latest" "I") (by decide +kernel)
  refine lv_aload_n hx hb dX3_next_0 rfl (lv_at hl 0 rfl) ?_
  refine va_get (D := D) (ci := 3) (v := .int (a.1 5)) (C := RX3) (T := TX3) (N := 12) hx hb hts hinX3 hown hK hP 5 rfl rfl 5 (by decide) w_1 (fun _ h9 => h9) rfl dX3_next_1 ?_
  refine lv_iconst (v := (-1 : Int32)) hx hb dX3_next_4 (by decide) ?_
  refine lv_icmp_ne (tgt := 16) hx hb dX3_next_5 (by decide) (fun c_1 => ?_) (fun c_1 => ?_)
  · refine lv_iconst (v := (-1 : Int32)) hx hb dX3_next_16 (by decide) ?_
    exact xk_iret (wf := fun z : MO × MS => wO I qo ps pa z.1 ++ wS I qo qs z.2) (u := (o, a)) (u1 := (o, a)) hx hb hr rfl hlocks hP hK hD hS (by unfold r_X3_next; rw [if_neg c_1]) rfl dX3_next_17
  · refine lv_aload_n hx hb dX3_next_8 rfl (lv_at hl 0 rfl) ?_
    refine va_get (D := D) (ci := 3) (v := .int (a.1 4)) (C := RX3) (T := TX3) (N := 12) hx hb hts hinX3 hown hK hP 5 rfl rfl 4 (by decide) w_2 (fun _ h9 => h9) rfl dX3_next_9 ?_
    refine lv_iconst (v := (4 : Int32)) hx hb dX3_next_12 (by decide) ?_
    refine lv_icmp_ne (tgt := 18) hx hb dX3_next_13 (by decide) (fun c_2 => ?_) (fun c_2 => ?_)
    · refine lv_aload_n hx hb dX3_next_18 rfl (lv_at hl 0 rfl) ?_
      refine va_get (D := D) (ci := 3) (v := .int (a.1 4)) (C := RX3) (T := TX3) (N := 12) hx hb hts hinX3 hown hK hP 5 rfl rfl 4 (by decide) w_2 (fun _ h9 => h9) rfl dX3_next_19 ?_
      refine lv_if_ne (tgt := 31) hx hb dX3_next_22 (by decide) (fun c_3 => ?_) (fun c_3 => ?_)
      · refine lv_aload_n hx hb dX3_next_31 rfl (lv_at hl 0 rfl) ?_
        refine va_get (D := D) (ci := 3) (v := .int (a.1 4)) (C := RX3) (T := TX3) (N := 12) hx hb hts hinX3 hown hK hP 5 rfl rfl 4 (by decide) w_2 (fun _ h9 => h9) rfl dX3_next_32 ?_
        refine lv_iconst (v := (1 : Int32)) hx hb dX3_next_35 (by decide) ?_
        refine lv_icmp_eq (tgt := 54) hx hb dX3_next_36 (by decide) (fun c_4 => ?_) (fun c_4 => ?_)
        · refine lv_iconst (v := (1 : Int32)) hx hb dX3_next_54 (by decide) ?_
          refine lv_goto (tgt := 59) hx hb dX3_next_55 (by decide) ?_
          refine lv_istore_n (lv' := [(1, .int (1 : Int32)), (0, .ref (qs 0))]) hx hb dX3_next_59 rfl hl (by decide) rfl (fun ls hl => ?_)
          refine lv_aload_n hx hb dX3_next_60 rfl (lv_at hl 1 rfl) ?_
          refine lv_iload_n hx hb dX3_next_61 rfl (lv_at hl 0 rfl) ?_
          refine xk_calli ([]) (wO I qo ps pa o ++ wS I qo qs a) [0, 1, 2, 3, 4, 5, 6, 7, 8, 9] [] [0, 1, 2, 3, 4, 5, 6, 7, 8, 9] hP hD hS hA (va_runV (As := [.int (1 : Int32)]) (rest := []) ⟨hx, hb, hml, hown, hts⟩ (c_X3_first l D I qo ps pa qs H.size o a (1 : Int32) hn) (cwV 1 hts gX3_next_X3_first rfl rfl rfl (by decide +kernel) ⟨Nat.le_of_ble_eq_true rfl, Nat.le_of_ble_eq_true rfl⟩) (xk_preV (wc := wO I qo ps pa o ++ wS I qo qs a) (q0 := 5) (ci := 3) hN hP hK hD [0, 1, 2, 3, 4, 5, 6, 7, 8, 9] rfl rfl rfl rfl) rfl rfl hl.1 rfl (lv_room (Nat.le_of_ble_eq_true rfl)) dX3_next_62 ⟨Nat.le_of_ble_eq_true rfl, Nat.le_of_ble_eq_true rfl⟩) rfl rfl rfl (by decide) rfl rfl (fun H locs hP hD hS => ?_)
          refine lv_iconst (v := (-1 : Int32)) hx hb dX3_next_65 (by decide) ?_
          refine lv_icmp_ne (tgt := 79) hx hb dX3_next_66 (by decide) (fun c_5 => ?_) (fun c_5 => ?_)
          · refine lv_aload_n hx hb dX3_next_79 rfl (lv_at hl 1 rfl) ?_
            refine lv_iload_n hx hb dX3_next_80 rfl (lv_at hl 0 rfl) ?_
            refine xk_calli ([]) (wO I qo ps pa o ++ wS I qo qs a) [0, 1, 2, 3, 4, 5, 6, 7, 8, 9] [] [0, 1, 2, 3, 4, 5, 6, 7, 8, 9] hP hD hS hA (va_runV (As := [.int (1 : Int32)]) (rest := []) ⟨hx, hb, hml, hown, hts⟩ (c_X3_first l D I qo ps pa qs H.size o a (1 : Int32) hn) (cwV 1 hts gX3_next_X3_first rfl rfl rfl (by decide +kernel) ⟨Nat.le_of_ble_eq_true rfl, Nat.le_of_ble_eq_true rfl⟩) (xk_preV (wc := wO I qo ps pa o ++ wS I qo qs a) (q0 := 5) (ci := 3) hN hP hK hD [0, 1, 2, 3, 4, 5, 6, 7, 8, 9] rfl rfl rfl rfl) rfl rfl hl.1 rfl (lv_room (Nat.le_of_ble_eq_true rfl)) dX3_next_81 ⟨Nat.le_of_ble_eq_true rfl, Nat.le_of_ble_eq_true rfl⟩) rfl rfl rfl (by decide) rfl rfl (fun H locs hP hD hS => ?_)
            exact xk_iret (wf := fun z : MO × MS => wO I qo ps pa z.1 ++ wS I qo qs z.2) (u := (o, a)) (u1 := (o, a)) hx hb hr rfl hlocks hP hK hD hS (by unfold r_X3_next; rw [if_pos c_1, if_neg c_2, if_neg c_3, if_pos c_4, if_neg c_5]) rfl dX3_next_84
          · refine lv_aload_n hx hb dX3_next_69 rfl (lv_at hl 1 rfl) ?_
            refine lv_iconst (v := (1 : Int32)) hx hb dX3_next_70 (by decide) ?_
            refine lv_iload_n hx hb dX3_next_71 rfl (lv_at hl 0 rfl) ?_
            refine lv_isub hx hb dX3_next_72 ?_
            refine W.eq (g2 := F0 m 73 ls [.int (0 : Int32), .ref (qs 0)]) (by rfl) ?_
            refine xk_calli ([]) (wO I qo ps pa o ++ wS I qo qs a) [0, 1, 2, 3, 4, 5, 6, 7, 8, 9] [] [0, 1, 2, 3, 4, 5, 6, 7, 8, 9] hP hD hS hA (va_runV (As := [.int (0 : Int32)]) (rest := []) ⟨hx, hb, hml, hown, hts⟩ (c_X3_first l D I qo ps pa qs H.size o a (0 : Int32) hn) (cwV 1 hts gX3_next_X3_first rfl rfl rfl (by decide +kernel) ⟨Nat.le_of_ble_eq_true rfl, Nat.le_of_ble_eq_true rfl⟩) (xk_preV (wc := wO I qo ps pa o ++ wS I qo qs a) (q0 := 5) (ci := 3) hN hP hK hD [0, 1, 2, 3, 4, 5, 6, 7, 8, 9] rfl rfl rfl rfl) rfl rfl hl.1 rfl (lv_room (Nat.le_of_ble_eq_true rfl)) dX3_next_73 ⟨Nat.le_of_ble_eq_true rfl, Nat.le_of_ble_eq_true rfl⟩) rfl rfl rfl (by decide) rfl rfl (fun H locs hP hD hS => ?_)
            refine lv_goto (tgt := 84) hx hb dX3_next_76 (by decide) ?_
            exact xk_iret (wf := fun z : MO × MS => wO I qo ps pa z.1 ++ wS I qo qs z.2) (u := (o, a)) (u1 := (o, a)) hx hb hr rfl hlocks hP hK hD hS (by unfold r_X3_next; rw [if_pos c_1, if_neg c_2, if_neg c_3, if_pos c_4, if_pos c_5]) rfl dX3_next_84
        · refine lv_aload_n hx hb dX3_next_39 rfl (lv_at hl 0 rfl) ?_
          refine va_get (D := D) (ci := 3) (v := .int (a.1 4)) (C := RX3) (T := TX3) (N := 12) hx hb hts hinX3 hown hK hP 5 rfl rfl 4 (by decide) w_2 (fun _ h9 => h9) rfl dX3_next_40 ?_
          refine lv_iconst (v := (3 : Int32)) hx hb dX3_next_43 (by decide) ?_
          refine lv_icmp_ne (tgt := 58) hx hb dX3_next_44 (by decide) (fun c_6 => ?_) (fun c_6 => ?_)
          · refine lv_iconst (v := (0 : Int32)) hx hb dX3_next_58 (by decide) ?_
            refine lv_istore_n (lv' := [(1, .int (0 : Int32)), (0, .ref (qs 0))]) hx hb dX3_next_59 rfl hl (by decide) rfl (fun ls hl => ?_)
            refine lv_aload_n hx hb dX3_next_60 rfl (lv_at hl 1 rfl) ?_
            refine lv_iload_n hx hb dX3_next_61 rfl (lv_at hl 0 rfl) ?_
            refine xk_calli ([]) (wO I qo ps pa o ++ wS I qo qs a) [0, 1, 2, 3, 4, 5, 6, 7, 8, 9] [] [0, 1, 2, 3, 4, 5, 6, 7, 8, 9] hP hD hS hA (va_runV (As := [.int (0 : Int32)]) (rest := []) ⟨hx, hb, hml, hown, hts⟩ (c_X3_first l D I qo ps pa qs H.size o a (0 : Int32) hn) (cwV 1 hts gX3_next_X3_first rfl rfl rfl (by decide +kernel) ⟨Nat.le_of_ble_eq_true rfl, Nat.le_of_ble_eq_true rfl⟩) (xk_preV (wc := wO I qo ps pa o ++ wS I qo qs a) (q0 := 5) (ci := 3) hN hP hK hD [0, 1, 2, 3, 4, 5, 6, 7, 8, 9] rfl rfl rfl rfl) rfl rfl hl.1 rfl (lv_room (Nat.le_of_ble_eq_true rfl)) dX3_next_62 ⟨Nat.le_of_ble_eq_true rfl, Nat.le_of_ble_eq_true rfl⟩) rfl rfl rfl (by decide) rfl rfl (fun H locs hP hD hS => ?_)
            refine lv_iconst (v := (-1 : Int32)) hx hb dX3_next_65 (by decide) ?_
            refine lv_icmp_ne (tgt := 79) hx hb dX3_next_66 (by decide) (fun c_7 => ?_) (fun c_7 => ?_)
            · refine lv_aload_n hx hb dX3_next_79 rfl (lv_at hl 1 rfl) ?_
              refine lv_iload_n hx hb dX3_next_80 rfl (lv_at hl 0 rfl) ?_
              refine xk_calli ([]) (wO I qo ps pa o ++ wS I qo qs a) [0, 1, 2, 3, 4, 5, 6, 7, 8, 9] [] [0, 1, 2, 3, 4, 5, 6, 7, 8, 9] hP hD hS hA (va_runV (As := [.int (0 : Int32)]) (rest := []) ⟨hx, hb, hml, hown, hts⟩ (c_X3_first l D I qo ps pa qs H.size o a (0 : Int32) hn) (cwV 1 hts gX3_next_X3_first rfl rfl rfl (by decide +kernel) ⟨Nat.le_of_ble_eq_true rfl, Nat.le_of_ble_eq_true rfl⟩) (xk_preV (wc := wO I qo ps pa o ++ wS I qo qs a) (q0 := 5) (ci := 3) hN hP hK hD [0, 1, 2, 3, 4, 5, 6, 7, 8, 9] rfl rfl rfl rfl) rfl rfl hl.1 rfl (lv_room (Nat.le_of_ble_eq_true rfl)) dX3_next_81 ⟨Nat.le_of_ble_eq_true rfl, Nat.le_of_ble_eq_true rfl⟩) rfl rfl rfl (by decide) rfl rfl (fun H locs hP hD hS => ?_)
              exact xk_iret (wf := fun z : MO × MS => wO I qo ps pa z.1 ++ wS I qo qs z.2) (u := (o, a)) (u1 := (o, a)) hx hb hr rfl hlocks hP hK hD hS (by unfold r_X3_next; rw [if_pos c_1, if_neg c_2, if_neg c_3, if_neg c_4, if_neg c_6, if_neg c_7]) rfl dX3_next_84
            · refine lv_aload_n hx hb dX3_next_69 rfl (lv_at hl 1 rfl) ?_
              refine lv_iconst (v := (1 : Int32)) hx hb dX3_next_70 (by decide) ?_
              refine lv_iload_n hx hb dX3_next_71 rfl (lv_at hl 0 rfl) ?_
              refine lv_isub hx hb dX3_next_72 ?_
              refine W.eq (g2 := F0 m 73 ls [.int (1 : Int32), .ref (qs 0)]) (by rfl) ?_
              refine xk_calli ([]) (wO I qo ps pa o ++ wS I qo qs a) [0, 1, 2, 3, 4, 5, 6, 7, 8, 9] [] [0, 1, 2, 3, 4, 5, 6, 7, 8, 9] hP hD hS hA (va_runV (As := [.int (1 : Int32)]) (rest := []) ⟨hx, hb, hml, hown, hts⟩ (c_X3_first l D I qo ps pa qs H.size o a (1 : Int32) hn) (cwV 1 hts gX3_next_X3_first rfl rfl rfl (by decide +kernel) ⟨Nat.le_of_ble_eq_true rfl, Nat.le_of_ble_eq_true rfl⟩) (xk_preV (wc := wO I qo ps pa o ++ wS I qo qs a) (q0 := 5) (ci := 3) hN hP hK hD [0, 1, 2, 3, 4, 5, 6, 7, 8, 9] rfl rfl rfl rfl) rfl rfl hl.1 rfl (lv_room (Nat.le_of_ble_eq_true rfl)) dX3_next_73 ⟨Nat.le_of_ble_eq_true rfl, Nat.le_of_ble_eq_true rfl⟩) rfl rfl rfl (by decide) rfl rfl (fun H locs hP hD hS => ?_)
              refine lv_goto (tgt := 84) hx hb dX3_next_76 (by decide) ?_
              exact xk_iret (wf := fun z : MO × MS => wO I qo ps pa z.1 ++ wS I qo qs z.2) (u := (o, a)) (u1 := (o, a)) hx hb hr rfl hlocks hP hK hD hS (by unfold r_X3_next; rw [if_pos c_1, if_neg c_2, if_neg c_3, if_neg c_4, if_neg c_6, if_pos c_7]) rfl dX3_next_84
          · refine lv_aload_n hx hb dX3_next_47 rfl (lv_at hl 0 rfl) ?_
            refine va_get (D := D) (ci := 3) (v := .int (a.1 6)) (C := RX3) (T := TX3) (N := 12) hx hb hts hinX3 hown hK hP 5 rfl rfl 6 (by decide) w_3 (fun _ h9 => h9) rfl dX3_next_48 ?_
            refine lv_if_ne (tgt := 58) hx hb dX3_next_51 (by decide) (fun c_8 => ?_) (fun c_8 => ?_)
            · refine lv_iconst (v := (0 : Int32)) hx hb dX3_next_58 (by decide) ?_
              refine lv_istore_n (lv' := [(1, .int (0 : Int32)), (0, .ref (qs 0))]) hx hb dX3_next_59 rfl hl (by decide) rfl (fun ls hl => ?_)
              refine lv_aload_n hx hb dX3_next_60 rfl (lv_at hl 1 rfl) ?_
              refine lv_iload_n hx hb dX3_next_61 rfl (lv_at hl 0 rfl) ?_
              refine xk_calli ([]) (wO I qo ps pa o ++ wS I qo qs a) [0, 1, 2, 3, 4, 5, 6, 7, 8, 9] [] [0, 1, 2, 3, 4, 5, 6, 7, 8, 9] hP hD hS hA (va_runV (As := [.int (0 : Int32)]) (rest := []) ⟨hx, hb, hml, hown, hts⟩ (c_X3_first l D I qo ps pa qs H.size o a (0 : Int32) hn) (cwV 1 hts gX3_next_X3_first rfl rfl rfl (by decide +kernel) ⟨Nat.le_of_ble_eq_true rfl, Nat.le_of_ble_eq_true rfl⟩) (xk_preV (wc := wO I qo ps pa o ++ wS I qo qs a) (q0 := 5) (ci := 3) hN hP hK hD [0, 1, 2, 3, 4, 5, 6, 7, 8, 9] rfl rfl rfl rfl) rfl rfl hl.1 rfl (lv_room (Nat.le_of_ble_eq_true rfl)) dX3_next_62 ⟨Nat.le_of_ble_eq_true rfl, Nat.le_of_ble_eq_true rfl⟩) rfl rfl rfl (by decide) rfl rfl (fun H locs hP hD hS => ?_)
              refine lv_iconst (v := (-1 : Int32)) hx hb dX3_next_65 (by decide) ?_
              refine lv_icmp_ne (tgt := 79) hx hb dX3_next_66 (by decide) (fun c_9 => ?_) (fun c_9 => ?_)
              · refine lv_aload_n hx hb dX3_next_79 rfl (lv_at hl 1 rfl) ?_
                refine lv_iload_n hx hb dX3_next_80 rfl (lv_at hl 0 rfl) ?_
                refine xk_calli ([]) (wO I qo ps pa o ++ wS I qo qs a) [0, 1, 2, 3, 4, 5, 6, 7, 8, 9] [] [0, 1, 2, 3, 4, 5, 6, 7, 8, 9] hP hD hS hA (va_runV (As := [.int (0 : Int32)]) (rest := []) ⟨hx, hb, hml, hown, hts⟩ (c_X3_first l D I qo ps pa qs H.size o a (0 : Int32) hn) (cwV 1 hts gX3_next_X3_first rfl rfl rfl (by decide +kernel) ⟨Nat.le_of_ble_eq_true rfl, Nat.le_of_ble_eq_true rfl⟩) (xk_preV (wc := wO I qo ps pa o ++ wS I qo qs a) (q0 := 5) (ci := 3) hN hP hK hD [0, 1, 2, 3, 4, 5, 6, 7, 8, 9] rfl rfl rfl rfl) rfl rfl hl.1 rfl (lv_room (Nat.le_of_ble_eq_true rfl)) dX3_next_81 ⟨Nat.le_of_ble_eq_true rfl, Nat.le_of_ble_eq_true rfl⟩) rfl rfl rfl (by decide) rfl rfl (fun H locs hP hD hS => ?_)
                exact xk_iret (wf := fun z : MO × MS => wO I qo ps pa z.1 ++ wS I qo qs z.2) (u := (o, a)) (u1 := (o, a)) hx hb hr rfl hlocks hP hK hD hS (by unfold r_X3_next; rw [if_pos c_1, if_neg c_2, if_neg c_3, if_neg c_4, if_pos c_6, if_neg c_8, if_neg c_9]) rfl dX3_next_84
              · refine lv_aload_n hx hb dX3_next_69 rfl (lv_at hl 1 rfl) ?_
                refine lv_iconst (v := (1 : Int32)) hx hb dX3_next_70 (by decide) ?_
                refine lv_iload_n hx hb dX3_next_71 rfl (lv_at hl 0 rfl) ?_
                refine lv_isub hx hb dX3_next_72 ?_
                refine W.eq (g2 := F0 m 73 ls [.int (1 : Int32), .ref (qs 0)]) (by rfl) ?_
                refine xk_calli ([]) (wO I qo ps pa o ++ wS I qo qs a) [0, 1, 2, 3, 4, 5, 6, 7, 8, 9] [] [0, 1, 2, 3, 4, 5, 6, 7, 8, 9] hP hD hS hA (va_runV (As := [.int (1 : Int32)]) (rest := []) ⟨hx, hb, hml, hown, hts⟩ (c_X3_first l D I qo ps pa qs H.size o a (1 : Int32) hn) (cwV 1 hts gX3_next_X3_first rfl rfl rfl (by decide +kernel) ⟨Nat.le_of_ble_eq_true rfl, Nat.le_of_ble_eq_true rfl⟩) (xk_preV (wc := wO I qo ps pa o ++ wS I qo qs a) (q0 := 5) (ci := 3) hN hP hK hD [0, 1, 2, 3, 4, 5, 6, 7, 8, 9] rfl rfl rfl rfl) rfl rfl hl.1 rfl (lv_room (Nat.le_of_ble_eq_true rfl)) dX3_next_73 ⟨Nat.le_of_ble_eq_true rfl, Nat.le_of_ble_eq_true rfl⟩) rfl rfl rfl (by decide) rfl rfl (fun H locs hP hD hS => ?_)
                refine lv_goto (tgt := 84) hx hb dX3_next_76 (by decide) ?_
                exact xk_iret (wf := fun z : MO × MS => wO I qo ps pa z.1 ++ wS I qo qs z.2) (u := (o, a)) (u1 := (o, a)) hx hb hr rfl hlocks hP hK hD hS (by unfold r_X3_next; rw [if_pos c_1, if_neg c_2, if_neg c_3, if_neg c_4, if_pos c_6, if_neg c_8, if_pos c_9]) rfl dX3_next_84
            · refine lv_iconst (v := (1 : Int32)) hx hb dX3_next_54 (by decide) ?_
              refine lv_goto (tgt := 59) hx hb dX3_next_55 (by decide) ?_
              refine lv_istore_n (lv' := [(1, .int (1 : Int32)), (0, .ref (qs 0))]) hx hb dX3_next_59 rfl hl (by decide) rfl (fun ls hl => ?_)
              refine lv_aload_n hx hb dX3_next_60 rfl (lv_at hl 1 rfl) ?_
              refine lv_iload_n hx hb dX3_next_61 rfl (lv_at hl 0 rfl) ?_
              refine xk_calli ([]) (wO I qo ps pa o ++ wS I qo qs a) [0, 1, 2, 3, 4, 5, 6, 7, 8, 9] [] [0, 1, 2, 3, 4, 5, 6, 7, 8, 9] hP hD hS hA (va_runV (As := [.int (1 : Int32)]) (rest := []) ⟨hx, hb, hml, hown, hts⟩ (c_X3_first l D I qo ps pa qs H.size o a (1 : Int32) hn) (cwV 1 hts gX3_next_X3_first rfl rfl rfl (by decide +kernel) ⟨Nat.le_of_ble_eq_true rfl, Nat.le_of_ble_eq_true rfl⟩) (xk_preV (wc := wO I qo ps pa o ++ wS I qo qs a) (q0 := 5) (ci := 3) hN hP hK hD [0, 1, 2, 3, 4, 5, 6, 7, 8, 9] rfl rfl rfl rfl) rfl rfl hl.1 rfl (lv_room (Nat.le_of_ble_eq_true rfl)) dX3_next_62 ⟨Nat.le_of_ble_eq_true rfl, Nat.le_of_ble_eq_true rfl⟩) rfl rfl rfl (by decide) rfl rfl (fun H locs hP hD hS => ?_)
              refine lv_iconst (v := (-1 : Int32)) hx hb dX3_next_65 (by decide) ?_
              refine lv_icmp_ne (tgt := 79) hx hb dX3_next_66 (by decide) (fun c_10 => ?_) (fun c_10 => ?_)
              · refine lv_aload_n hx hb dX3_next_79 rfl (lv_at hl 1 rfl) ?_
                refine lv_iload_n hx hb dX3_next_80 rfl (lv_at hl 0 rfl) ?_
                refine xk_calli ([]) (wO I qo ps pa o ++ wS I qo qs a) [0, 1, 2, 3, 4, 5, 6, 7, 8, 9] [] [0, 1, 2, 3, 4, 5, 6, 7, 8, 9] hP hD hS hA (va_runV (As := [.int (1 : Int32)]) (rest := []) ⟨hx, hb, hml, hown, hts⟩ (c_X3_first l D I qo ps pa qs H.size o a (1 : Int32) hn) (cwV 1 hts gX3_next_X3_first rfl rfl rfl (by decide +kernel) ⟨Nat.le_of_ble_eq_true rfl, Nat.le_of_ble_eq_true rfl⟩) (xk_preV (wc := wO I qo ps pa o ++ wS I qo qs a) (q0 := 5) (ci := 3) hN hP hK hD [0, 1, 2, 3, 4, 5, 6, 7, 8, 9] rfl rfl rfl rfl) rfl rfl hl.1 rfl (lv_room (Nat.le_of_ble_eq_true rfl)) dX3_next_81 ⟨Nat.le_of_ble_eq_true rfl, Nat.le_of_ble_eq_true rfl⟩) rfl rfl rfl (by decide) rfl rfl (fun H locs hP hD hS => ?_)
                exact xk_iret (wf := fun z : MO × MS => wO I qo ps pa z.1 ++ wS I qo qs z.2) (u := (o, a)) (u1 := (o, a)) hx hb hr rfl hlocks hP hK hD hS (by unfold r_X3_next; rw [if_pos c_1, if_neg c_2, if_neg c_3, if_neg c_4, if_pos c_6, if_pos c_8, if_neg c_10]) rfl dX3_next_84
              · refine lv_aload_n hx hb dX3_next_69 rfl (lv_at hl 1 rfl) ?_
                refine lv_iconst (v := (1 : Int32)) hx hb dX3_next_70 (by decide) ?_
                refine lv_iload_n hx hb dX3_next_71 rfl (lv_at hl 0 rfl) ?_
                refine lv_isub hx hb dX3_next_72 ?_
                refine W.eq (g2 := F0 m 73 ls [.int (0 : Int32), .ref (qs 0)]) (by rfl) ?_
                refine xk_calli ([]) (wO I qo ps pa o ++ wS I qo qs a) [0, 1, 2, 3, 4, 5, 6, 7, 8, 9] [] [0, 1, 2, 3, 4, 5, 6, 7, 8, 9] hP hD hS hA (va_runV (As := [.int (0 : Int32)]) (rest := []) ⟨hx, hb, hml, hown, hts⟩ (c_X3_first l D I qo ps pa qs H.size o a (0 : Int32) hn) (cwV 1 hts gX3_next_X3_first rfl rfl rfl (by decide +kernel) ⟨Nat.le_of_ble_eq_true rfl, Nat.le_of_ble_eq_true rfl⟩) (xk_preV (wc := wO I qo ps pa o ++ wS I qo qs a) (q0 := 5) (ci := 3) hN hP hK hD [0, 1, 2, 3, 4, 5, 6, 7, 8, 9] rfl rfl rfl rfl) rfl rfl hl.1 rfl (lv_room (Nat.le_of_ble_eq_true rfl)) dX3_next_73 ⟨Nat.le_of_ble_eq_true rfl, Nat.le_of_ble_eq_true rfl⟩) rfl rfl rfl (by decide) rfl rfl (fun H locs hP hD hS => ?_)
                refine lv_goto (tgt := 84) hx hb dX3_next_76 (by decide) ?_
                exact xk_iret (wf := fun z : MO × MS => wO I qo ps pa z.1 ++ wS I qo qs z.2) (u := (o, a)) (u1 := (o, a)) hx hb hr rfl hlocks hP hK hD hS (by unfold r_X3_next; rw [if_pos c_1, if_neg c_2, if_neg c_3, if_neg c_4, if_pos c_6, if_pos c_8, if_pos c_10]) rfl dX3_next_84
      · refine lv_aload_n hx hb dX3_next_25 rfl (lv_at hl 0 rfl) ?_
        refine lv_iconst (v := (2 : Int32)) hx hb dX3_next_26 (by decide) ?_
        refine xk_calli ([]) (wO I qo ps pa o ++ wS I qo qs a) [0, 1, 2, 3, 4, 5, 6, 7, 8, 9] [] [0, 1, 2, 3, 4, 5, 6, 7, 8, 9] hP hD hS hA (va_runV (As := [.int (2 : Int32)]) (rest := []) ⟨hx, hb, hml, hown, hts⟩ (c_X3_first l D I qo ps pa qs H.size o a (2 : Int32) hn) (cwV 1 hts gX3_next_X3_first rfl rfl rfl (by decide +kernel) ⟨Nat.le_of_ble_eq_true rfl, Nat.le_of_ble_eq_true rfl⟩) (xk_preV (wc := wO I qo ps pa o ++ wS I qo qs a) (q0 := 5) (ci := 3) hN hP hK hD [0, 1, 2, 3, 4, 5, 6, 7, 8, 9] rfl rfl rfl rfl) rfl rfl hl.1 rfl (lv_room (Nat.le_of_ble_eq_true rfl)) dX3_next_27 ⟨Nat.le_of_ble_eq_true rfl, Nat.le_of_ble_eq_true rfl⟩) rfl rfl rfl (by decide) rfl rfl (fun H locs hP hD hS => ?_)
        exact xk_iret (wf := fun z : MO × MS => wO I qo ps pa z.1 ++ wS I qo qs z.2) (u := (o, a)) (u1 := (o, a)) hx hb hr rfl hlocks hP hK hD hS (by unfold r_X3_next; rw [if_pos c_1, if_neg c_2, if_pos c_3]) rfl dX3_next_30
    · refine lv_iconst (v := (-1 : Int32)) hx hb dX3_next_16 (by decide) ?_
      exact xk_iret (wf := fun z : MO × MS => wO I qo ps pa z.1 ++ wS I qo qs z.2) (u := (o, a)) (u1 := (o, a)) hx hb hr rfl hlocks hP hK hD hS (by unfold r_X3_next; rw [if_pos c_1, if_pos c_2]) rfl dX3_next_17

theorem nextOk {o : MO} {a : MS} (hn : nOk (o.1 1)) : pOk (r_X3_next o a) := by
  unfold r_X3_next
  repeat' split
  all_goals first | exact Or.inl rfl | exact firstOk hn

def s_X3_serve (o : MO) (a : MS) (k : Int32) : MS :=
  if (a.1 1) = ((60 : Int32) * ((o.2 0) k.toNatClampNeg)) then
    (xs (xs a.1 5 k) 6 ((o.2 0) k.toNatClampNeg), xa (xa a.2 0 (upd (a.2 0) k.toNatClampNeg (1 : Int32))) 2 (upd (a.2 2) k.toNatClampNeg ((o.2 1) k.toNatClampNeg)))
  else
    if ((60 : Int32) * ((o.2 0) k.toNatClampNeg)) ≤ (a.1 1) then
      (xs a.1 1 (imx (0 : Int32) ((a.1 1) - (r_X3_speed o a (0 : Int32)))), a.2)
    else
      (xs a.1 1 (imn (60 : Int32) ((a.1 1) + (r_X3_speed o a (1 : Int32)))), a.2)
set_option maxHeartbeats 800000 in
set_option maxRecDepth 100000 in
theorem c_X3_serve (l : Launch) (D : va_G) (I : ClassId) (qo : Nat → Nat) (ps pa : Nat) (qs : Nat → Nat) (sz : Nat) (o : MO) (a : MS) (k : Int32) (hk : vp_in k 40) : xMv l D [(I, .int)] yX3_serve wsX3_serve { frames := 2, cells := 0, slots := 0, locals := 35 } [.ref (qs 0), .int k] sz (wO I qo ps pa o ++ wS I qo qs a) (wO I qo ps pa o ++ wS I qo qs (s_X3_serve o a k)) 0 0 := by
  refine xk_start (cc := cX3_serve) (maxL := 3) (ret := none) (Qf := fun A => xQv D [(I, .int)] A (wO I qo ps pa o ++ wS I qo qs (s_X3_serve o a k))) (by decide) rfl (Nat.le_of_ble_eq_true rfl) ?_
  intro p e s m below meth c A H ls hst hAe hsz hl
  obtain ⟨hx, hb, hr, hts, hown, hlocks, hml, hin, hN, hK, hP, hD, hA, hS⟩ := hst
  have hl : lv_has ls 3 [(0, .ref (qs 0)), (1, .int k)] := hl
  have hP : va_P D vwCl (wO I qo ps pa o ++ wS I qo qs a) H := hP
  have hinX3 : ∀ w ∈ u_ws RX3 TX3 12, w ∈ wsX3_serve := by decide +kernel
  have hinX4 : ∀ w ∈ u_ws RX4 TX4 8, w ∈ wsX3_serve := by decide +kernel
  have w_1 := hts (.fieldLink RX3 3 "BridgeBellsModel$State" "this$0" "LBridgeBellsModel;") (by decide +kernel)
  have w_2 := hts (.fieldLink RX3 44 "BridgeBellsModel$State" "angle" "I") (by decide +kernel)
  have w_3 := hts (.methodLink RX3 60 Lib.Math.max.name) (by decide +kernel)
  have w_4 := hts (.static Lib.Math.max.name) (by decide +kernel)
  have w_5 := hts (.initialized "java/lang/Math") (by decide +kernel)
  have w_6 := hts (.code Lib.Math.max.name Lib.Math.max.code 2 (some .int)) (by decide +kernel)
  have w_7 := hts (.methodLink RX3 83 Lib.Math.min.name) (by decide +kernel)
  have w_8 := hts (.static Lib.Math.min.name) (by decide +kernel)
  have w_9 := hts (.code Lib.Math.min.name Lib.Math.min.code 2 (some .int)) (by decide +kernel)
  have w_10 := hts (.fieldLink RX3 19 "BridgeBellsModel$State" "passer" "I") (by decide +kernel)
  have w_11 := hts (.fieldLink RX3 22 "BridgeBellsModel$State" "is" "[I") (by decide +kernel)
  have w_12 := hts (.fieldLink RX3 29 "BridgeBellsModel$State" "left" "[I") (by decide +kernel)
  have w_13 := hts (.fieldLink RX3 53 "BridgeBellsModel$State" "latest" "I") (by decide +kernel)
  refine lv_bipush (v := (60 : Int32)) hx hb dX3_serve_0 (by decide) ?_
  refine lv_aload_n hx hb dX3_serve_2 rfl (lv_at hl 0 rfl) ?_
  refine va_get (D := D) (ci := 3) (v := .ref (qo 0)) (C := RX3) (T := TX3) (N := 12) hx hb hts hinX3 hown hK hP 5 rfl rfl 11 (by decide) w_1 (fun _ h9 => h9) rfl dX3_serve_3 ?_
  refine va_getN (D := D) (ci := 4) (v := .ref (qo 1)) (C := RX4) (T := TX4) (N := 8) hx hb hts hinX4 hown hK hP 0 rfl rfl 2 (by decide) (hN.use 13 rfl) (fun _ h9 => h9) rfl dX3_serve_6 ?_
  refine lv_iload_n hx hb dX3_serve_9 rfl (lv_at hl 1 rfl) ?_
  refine va_iald (f := (o.2 0)) hx hb hK hP 1 0 rfl rfl (show vp_in k 40 from hk) dX3_serve_10 ?_
  refine lv_imul hx hb dX3_serve_11 ?_
  refine lv_istore_n (lv' := [(2, .int ((60 : Int32) * ((o.2 0) k.toNatClampNeg))), (0, .ref (qs 0)), (1, .int k)]) hx hb dX3_serve_12 rfl hl (by decide) rfl (fun ls hl => ?_)
  refine lv_aload_n hx hb dX3_serve_13 rfl (lv_at hl 1 rfl) ?_
  refine va_get (D := D) (ci := 3) (v := .int (a.1 1)) (C := RX3) (T := TX3) (N := 12) hx hb hts hinX3 hown hK hP 5 rfl rfl 1 (by decide) w_2 (fun _ h9 => h9) rfl dX3_serve_14 ?_
  refine lv_iload_n hx hb dX3_serve_17 rfl (lv_at hl 0 rfl) ?_
  refine lv_icmp_ne (tgt := 62) hx hb dX3_serve_18 (by decide) (fun c_1 => ?_) (fun c_1 => ?_)
  · refine lv_aload_n hx hb dX3_serve_62 rfl (lv_at hl 1 rfl) ?_
    refine lv_iload_n hx hb dX3_serve_63 rfl (lv_at hl 0 rfl) ?_
    refine lv_aload_n hx hb dX3_serve_64 rfl (lv_at hl 1 rfl) ?_
    refine va_get (D := D) (ci := 3) (v := .int (a.1 1)) (C := RX3) (T := TX3) (N := 12) hx hb hts hinX3 hown hK hP 5 rfl rfl 1 (by decide) w_2 (fun _ h9 => h9) rfl dX3_serve_65 ?_
    refine lv_icmp_le (tgt := 89) hx hb dX3_serve_68 (by decide) (fun c_2 => ?_) (fun c_2 => ?_)
    · refine lv_iconst (v := (0 : Int32)) hx hb dX3_serve_89 (by decide) ?_
      refine lv_aload_n hx hb dX3_serve_90 rfl (lv_at hl 1 rfl) ?_
      refine va_get (D := D) (ci := 3) (v := .int (a.1 1)) (C := RX3) (T := TX3) (N := 12) hx hb hts hinX3 hown hK hP 5 rfl rfl 1 (by decide) w_2 (fun _ h9 => h9) rfl dX3_serve_91 ?_
      refine lv_aload_n hx hb dX3_serve_94 rfl (lv_at hl 1 rfl) ?_
      refine lv_iconst (v := (0 : Int32)) hx hb dX3_serve_95 (by decide) ?_
      refine xk_calli ([]) (wO I qo ps pa o ++ wS I qo qs a) [0, 1, 2, 3, 4, 5, 6, 7, 8, 9] [] [0, 1, 2, 3, 4, 5, 6, 7, 8, 9] hP hD hS hA (va_runV (As := [.int (0 : Int32)]) (rest := [.int (a.1 1), .int (0 : Int32), .ref (qs 0)]) ⟨hx, hb, hml, hown, hts⟩ (c_X3_speed l D I qo ps pa qs H.size o a (0 : Int32) ) (cwV 1 hts gX3_serve_X3_speed rfl rfl rfl (by decide +kernel) ⟨Nat.le_of_ble_eq_true rfl, Nat.le_of_ble_eq_true rfl⟩) (xk_preV (wc := wO I qo ps pa o ++ wS I qo qs a) (q0 := 5) (ci := 3) hN hP hK hD [0, 1, 2, 3, 4, 5, 6, 7, 8, 9] rfl rfl rfl rfl) rfl rfl hl.1 rfl (lv_room (Nat.le_of_ble_eq_true rfl)) dX3_serve_96 ⟨Nat.le_of_ble_eq_true rfl, Nat.le_of_ble_eq_true rfl⟩) rfl rfl rfl (by decide) rfl rfl (fun H locs hP hD hS => ?_)
      refine lv_isub hx hb dX3_serve_99 ?_
      refine va_mmax hx hb (hml.trans hl.1.symm) hown w_3 w_4 w_5 w_6 (Nat.le_of_ble_eq_true rfl) (Nat.le_of_ble_eq_true rfl) (Nat.le_of_ble_eq_true rfl) (Nat.le_of_ble_eq_true rfl) dX3_serve_100 ?_
      refine W.eq (g2 := F0 m 103 ls [.int (imx (0 : Int32) ((a.1 1) - (r_X3_speed o a (0 : Int32)))), .ref (qs 0)]) rfl ?_
      refine va_put (D := D) (ci := 3) (v := .int (imx (0 : Int32) ((a.1 1) - (r_X3_speed o a (0 : Int32))))) (ty := tyX3 1) (C := RX3) (T := TX3) (N := 12) hx hb hts hinX3 tyX3 tyX3_ok nmX3 hown hK hP hD hS 5 rfl rfl 1 (by decide) w_2 (fun _ h9 => h9) rfl (tyX3_ok 1 (by decide)) rfl rfl (Nat.le_of_ble_eq_true rfl) dX3_serve_103 (fun H locs hP hD hS => ?_)
      have hP : va_P D vwCl (wO I qo ps pa o ++ wS I qo qs (xs a.1 1 (imx (0 : Int32) ((a.1 1) - (r_X3_speed o a (0 : Int32)))), a.2)) H := hP
      have hD : va_D A (wO I qo ps pa o ++ wS I qo qs (xs a.1 1 (imx (0 : Int32) ((a.1 1) - (r_X3_speed o a (0 : Int32)))), a.2)) := hD
      exact xk_vret (wf := fun z : MO × MS => wO I qo ps pa z.1 ++ wS I qo qs z.2) (u := (o, (xs a.1 1 (imx (0 : Int32) ((a.1 1) - (r_X3_speed o a (0 : Int32)))), a.2))) (u1 := (o, (s_X3_serve o a k))) hx hb hr hlocks hP hK hD hS (by unfold s_X3_serve; rw [if_neg c_1, if_pos c_2]) dX3_serve_106
    · refine lv_bipush (v := (60 : Int32)) hx hb dX3_serve_71 (by decide) ?_
      refine lv_aload_n hx hb dX3_serve_73 rfl (lv_at hl 1 rfl) ?_
      refine va_get (D := D) (ci := 3) (v := .int (a.1 1)) (C := RX3) (T := TX3) (N := 12) hx hb hts hinX3 hown hK hP 5 rfl rfl 1 (by decide) w_2 (fun _ h9 => h9) rfl dX3_serve_74 ?_
      refine lv_aload_n hx hb dX3_serve_77 rfl (lv_at hl 1 rfl) ?_
      refine lv_iconst (v := (1 : Int32)) hx hb dX3_serve_78 (by decide) ?_
      refine xk_calli ([]) (wO I qo ps pa o ++ wS I qo qs a) [0, 1, 2, 3, 4, 5, 6, 7, 8, 9] [] [0, 1, 2, 3, 4, 5, 6, 7, 8, 9] hP hD hS hA (va_runV (As := [.int (1 : Int32)]) (rest := [.int (a.1 1), .int (60 : Int32), .ref (qs 0)]) ⟨hx, hb, hml, hown, hts⟩ (c_X3_speed l D I qo ps pa qs H.size o a (1 : Int32) ) (cwV 1 hts gX3_serve_X3_speed rfl rfl rfl (by decide +kernel) ⟨Nat.le_of_ble_eq_true rfl, Nat.le_of_ble_eq_true rfl⟩) (xk_preV (wc := wO I qo ps pa o ++ wS I qo qs a) (q0 := 5) (ci := 3) hN hP hK hD [0, 1, 2, 3, 4, 5, 6, 7, 8, 9] rfl rfl rfl rfl) rfl rfl hl.1 rfl (lv_room (Nat.le_of_ble_eq_true rfl)) dX3_serve_79 ⟨Nat.le_of_ble_eq_true rfl, Nat.le_of_ble_eq_true rfl⟩) rfl rfl rfl (by decide) rfl rfl (fun H locs hP hD hS => ?_)
      refine lv_iadd hx hb dX3_serve_82 ?_
      refine va_mmin hx hb (hml.trans hl.1.symm) hown w_7 w_8 w_5 w_9 (Nat.le_of_ble_eq_true rfl) (Nat.le_of_ble_eq_true rfl) (Nat.le_of_ble_eq_true rfl) (Nat.le_of_ble_eq_true rfl) dX3_serve_83 ?_
      refine W.eq (g2 := F0 m 86 ls [.int (imn (60 : Int32) ((a.1 1) + (r_X3_speed o a (1 : Int32)))), .ref (qs 0)]) rfl ?_
      refine lv_goto (tgt := 103) hx hb dX3_serve_86 (by decide) ?_
      refine va_put (D := D) (ci := 3) (v := .int (imn (60 : Int32) ((a.1 1) + (r_X3_speed o a (1 : Int32))))) (ty := tyX3 1) (C := RX3) (T := TX3) (N := 12) hx hb hts hinX3 tyX3 tyX3_ok nmX3 hown hK hP hD hS 5 rfl rfl 1 (by decide) w_2 (fun _ h9 => h9) rfl (tyX3_ok 1 (by decide)) rfl rfl (Nat.le_of_ble_eq_true rfl) dX3_serve_103 (fun H locs hP hD hS => ?_)
      have hP : va_P D vwCl (wO I qo ps pa o ++ wS I qo qs (xs a.1 1 (imn (60 : Int32) ((a.1 1) + (r_X3_speed o a (1 : Int32)))), a.2)) H := hP
      have hD : va_D A (wO I qo ps pa o ++ wS I qo qs (xs a.1 1 (imn (60 : Int32) ((a.1 1) + (r_X3_speed o a (1 : Int32)))), a.2)) := hD
      exact xk_vret (wf := fun z : MO × MS => wO I qo ps pa z.1 ++ wS I qo qs z.2) (u := (o, (xs a.1 1 (imn (60 : Int32) ((a.1 1) + (r_X3_speed o a (1 : Int32)))), a.2))) (u1 := (o, (s_X3_serve o a k))) hx hb hr hlocks hP hK hD hS (by unfold s_X3_serve; rw [if_neg c_1, if_neg c_2]) dX3_serve_106
  · refine lv_aload_n hx hb dX3_serve_21 rfl (lv_at hl 1 rfl) ?_
    refine lv_iload_n hx hb dX3_serve_22 rfl (lv_at hl 2 rfl) ?_
    refine va_put (D := D) (ci := 3) (v := .int k) (ty := tyX3 5) (C := RX3) (T := TX3) (N := 12) hx hb hts hinX3 tyX3 tyX3_ok nmX3 hown hK hP hD hS 5 rfl rfl 5 (by decide) w_10 (fun _ h9 => h9) rfl (tyX3_ok 5 (by decide)) rfl rfl (Nat.le_of_ble_eq_true rfl) dX3_serve_23 (fun H locs hP hD hS => ?_)
    have hP : va_P D vwCl (wO I qo ps pa o ++ wS I qo qs (xs a.1 5 k, a.2)) H := hP
    have hD : va_D A (wO I qo ps pa o ++ wS I qo qs (xs a.1 5 k, a.2)) := hD
    refine lv_aload_n hx hb dX3_serve_26 rfl (lv_at hl 1 rfl) ?_
    refine va_get (D := D) (ci := 3) (v := .ref (qs 1)) (C := RX3) (T := TX3) (N := 12) hx hb hts hinX3 hown hK hP 5 rfl rfl 7 (by decide) w_11 (fun _ h9 => h9) rfl dX3_serve_27 ?_
    refine lv_iload_n hx hb dX3_serve_30 rfl (lv_at hl 2 rfl) ?_
    refine lv_iconst (v := (1 : Int32)) hx hb dX3_serve_31 (by decide) ?_
    refine va_iast (f := (a.2 0)) hx hb hK hP hD hS 6 0 rfl rfl (show vp_in k 40 from hk) dX3_serve_32 (fun H locs hP hD hS => ?_)
    have hP : va_P D vwCl (wO I qo ps pa o ++ wS I qo qs (xs a.1 5 k, xa a.2 0 (upd (a.2 0) k.toNatClampNeg (1 : Int32)))) H := hP
    have hD : va_D A (wO I qo ps pa o ++ wS I qo qs (xs a.1 5 k, xa a.2 0 (upd (a.2 0) k.toNatClampNeg (1 : Int32)))) := hD
    refine lv_aload_n hx hb dX3_serve_33 rfl (lv_at hl 1 rfl) ?_
    refine va_get (D := D) (ci := 3) (v := .ref (qs 3)) (C := RX3) (T := TX3) (N := 12) hx hb hts hinX3 hown hK hP 5 rfl rfl 9 (by decide) w_12 (fun _ h9 => h9) rfl dX3_serve_34 ?_
    refine lv_iload_n hx hb dX3_serve_37 rfl (lv_at hl 2 rfl) ?_
    refine lv_aload_n hx hb dX3_serve_38 rfl (lv_at hl 1 rfl) ?_
    refine va_get (D := D) (ci := 3) (v := .ref (qo 0)) (C := RX3) (T := TX3) (N := 12) hx hb hts hinX3 hown hK hP 5 rfl rfl 11 (by decide) w_1 (fun _ h9 => h9) rfl dX3_serve_39 ?_
    refine va_getN (D := D) (ci := 4) (v := .ref (qo 2)) (C := RX4) (T := TX4) (N := 8) hx hb hts hinX4 hown hK hP 0 rfl rfl 3 (by decide) (hN.use 14 rfl) (fun _ h9 => h9) rfl dX3_serve_42 ?_
    refine lv_iload_n hx hb dX3_serve_45 rfl (lv_at hl 2 rfl) ?_
    refine va_iald (f := (o.2 1)) hx hb hK hP 2 0 rfl rfl (show vp_in k 40 from hk) dX3_serve_46 ?_
    refine va_iast (f := (a.2 2)) hx hb hK hP hD hS 8 0 rfl rfl (show vp_in k 40 from hk) dX3_serve_47 (fun H locs hP hD hS => ?_)
    have hP : va_P D vwCl (wO I qo ps pa o ++ wS I qo qs (xs a.1 5 k, xa (xa a.2 0 (upd (a.2 0) k.toNatClampNeg (1 : Int32))) 2 (upd (a.2 2) k.toNatClampNeg ((o.2 1) k.toNatClampNeg)))) H := hP
    have hD : va_D A (wO I qo ps pa o ++ wS I qo qs (xs a.1 5 k, xa (xa a.2 0 (upd (a.2 0) k.toNatClampNeg (1 : Int32))) 2 (upd (a.2 2) k.toNatClampNeg ((o.2 1) k.toNatClampNeg)))) := hD
    refine lv_aload_n hx hb dX3_serve_48 rfl (lv_at hl 1 rfl) ?_
    refine lv_aload_n hx hb dX3_serve_49 rfl (lv_at hl 1 rfl) ?_
    refine va_get (D := D) (ci := 3) (v := .ref (qo 0)) (C := RX3) (T := TX3) (N := 12) hx hb hts hinX3 hown hK hP 5 rfl rfl 11 (by decide) w_1 (fun _ h9 => h9) rfl dX3_serve_50 ?_
    refine va_getN (D := D) (ci := 4) (v := .ref (qo 1)) (C := RX4) (T := TX4) (N := 8) hx hb hts hinX4 hown hK hP 0 rfl rfl 2 (by decide) (hN.use 13 rfl) (fun _ h9 => h9) rfl dX3_serve_53 ?_
    refine lv_iload_n hx hb dX3_serve_56 rfl (lv_at hl 2 rfl) ?_
    refine va_iald (f := (o.2 0)) hx hb hK hP 1 0 rfl rfl (show vp_in k 40 from hk) dX3_serve_57 ?_
    refine va_put (D := D) (ci := 3) (v := .int ((o.2 0) k.toNatClampNeg)) (ty := tyX3 6) (C := RX3) (T := TX3) (N := 12) hx hb hts hinX3 tyX3 tyX3_ok nmX3 hown hK hP hD hS 5 rfl rfl 6 (by decide) w_13 (fun _ h9 => h9) rfl (tyX3_ok 6 (by decide)) rfl rfl (Nat.le_of_ble_eq_true rfl) dX3_serve_58 (fun H locs hP hD hS => ?_)
    have hP : va_P D vwCl (wO I qo ps pa o ++ wS I qo qs (xs (xs a.1 5 k) 6 ((o.2 0) k.toNatClampNeg), xa (xa a.2 0 (upd (a.2 0) k.toNatClampNeg (1 : Int32))) 2 (upd (a.2 2) k.toNatClampNeg ((o.2 1) k.toNatClampNeg)))) H := hP
    have hD : va_D A (wO I qo ps pa o ++ wS I qo qs (xs (xs a.1 5 k) 6 ((o.2 0) k.toNatClampNeg), xa (xa a.2 0 (upd (a.2 0) k.toNatClampNeg (1 : Int32))) 2 (upd (a.2 2) k.toNatClampNeg ((o.2 1) k.toNatClampNeg)))) := hD
    exact xk_vret (wf := fun z : MO × MS => wO I qo ps pa z.1 ++ wS I qo qs z.2) (u := (o, (xs (xs a.1 5 k) 6 ((o.2 0) k.toNatClampNeg), xa (xa a.2 0 (upd (a.2 0) k.toNatClampNeg (1 : Int32))) 2 (upd (a.2 2) k.toNatClampNeg ((o.2 1) k.toNatClampNeg))))) (u1 := (o, (s_X3_serve o a k))) hx hb hr hlocks hP hK hD hS (by unfold s_X3_serve; rw [if_pos c_1]) dX3_serve_61

theorem serve_p {o : MO} {a : MS} {k : Int32} (hp : pOk (a.1 5)) (hk : vp_in k 40) : pOk ((s_X3_serve o a k).1 5) := by
  unfold s_X3_serve
  repeat' split
  all_goals first | exact Or.inr hk | exact hp
theorem serveM_m (o : MO) (a : MS) (k : Int32) : (s_X3_serve o a k).1 0 = a.1 0 := by
  unfold s_X3_serve
  repeat' split
  all_goals rfl

