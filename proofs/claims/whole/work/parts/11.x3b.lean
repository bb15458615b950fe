def m_tail (o : MO) (a : MS) : MS :=
  if ((a.1 0) - (a.1 0) / (60 : Int32) * (60 : Int32)) = 0 then
    (xs (xs a.1 3 (imx (0 : Int32) (imn (9 : Int32) ((a.1 3) + ((o.2 3) (((a.1 0) / (60 : Int32)) - ((a.1 0) / (60 : Int32)) / (8 : Int32) * (8 : Int32)).toNatClampNeg))))) 0 ((a.1 0) + (1 : Int32)), a.2)
  else
    (xs a.1 0 ((a.1 0) + (1 : Int32)), a.2)
/-- all waited, then the ice and the minute -/
def m_rest (o : MO) (a : MS) : MS := m_tail o (a.1, xa a.2 1 (m_wt (o.1 1).toNatClampNeg (a.2 1) (a.2 0)))

def g1_X3_pass (o : MO) (a : MS) : MS := s_X3_serve o a (r_X3_next o a)
def s_X3_pass (o : MO) (a : MS) : MS :=
  if (r_X3_next o a) = (-1 : Int32) then
    if (a.1 5) = (-1 : Int32) then
      m_rest o a
    else
      if ((upd (a.2 2) (a.1 5).toNatClampNeg (((a.2 2) (a.1 5).toNatClampNeg) - (1 : Int32))) (a.1 5).toNatClampNeg) = 0 then
        m_rest o (xs a.1 5 (-1 : Int32), xa (xa (xa a.2 2 (upd (a.2 2) (a.1 5).toNatClampNeg (((a.2 2) (a.1 5).toNatClampNeg) - (1 : Int32)))) 0 (upd (a.2 0) (a.1 5).toNatClampNeg (2 : Int32))) 3 (upd (a.2 3) (a.1 5).toNatClampNeg (a.1 0)))
      else
        m_rest o (a.1, xa a.2 2 (upd (a.2 2) (a.1 5).toNatClampNeg (((a.2 2) (a.1 5).toNatClampNeg) - (1 : Int32))))
  else
    if ((g1_X3_pass o a).1 5) = (-1 : Int32) then
      m_rest o (g1_X3_pass o a)
    else
      if ((upd ((g1_X3_pass o a).2 2) ((g1_X3_pass o a).1 5).toNatClampNeg ((((g1_X3_pass o a).2 2) ((g1_X3_pass o a).1 5).toNatClampNeg) - (1 : Int32))) ((g1_X3_pass o a).1 5).toNatClampNeg) = 0 then
        m_rest o (xs (g1_X3_pass o a).1 5 (-1 : Int32), xa (xa (xa (g1_X3_pass o a).2 2 (upd ((g1_X3_pass o a).2 2) ((g1_X3_pass o a).1 5).toNatClampNeg ((((g1_X3_pass o a).2 2) ((g1_X3_pass o a).1 5).toNatClampNeg) - (1 : Int32)))) 0 (upd ((g1_X3_pass o a).2 0) ((g1_X3_pass o a).1 5).toNatClampNeg (2 : Int32))) 3 (upd ((g1_X3_pass o a).2 3) ((g1_X3_pass o a).1 5).toNatClampNeg ((g1_X3_pass o a).1 0)))
      else
        m_rest o ((g1_X3_pass o a).1, xa (g1_X3_pass o a).2 2 (upd ((g1_X3_pass o a).2 2) ((g1_X3_pass o a).1 5).toNatClampNeg ((((g1_X3_pass o a).2 2) ((g1_X3_pass o a).1 5).toNatClampNeg) - (1 : Int32))))
set_option maxHeartbeats 800000 in
set_option maxRecDepth 100000 in
theorem c_X3_pass (l : Launch) (D : va_G) (I : ClassId) (qo : Nat → Nat) (ps pa : Nat) (qs : Nat → Nat) (sz : Nat) (o : MO) (a : MS) (hn : nOk (o.1 1)) (hp : pOk (a.1 5)) (hm : mOk (a.1 0)) : xMv l D [(I, .int)] yX3_pass wsX3_pass { frames := 3, cells := 0, slots := 0, locals := 57 } [.ref (qs 0)] sz (wO I qo ps pa o ++ wS I qo qs a) (wO I qo ps pa o ++ wS I qo qs (s_X3_pass o a)) 0 0 := by
  refine xk_start (cc := cX3_pass) (maxL := 3) (ret := none) (Qf := fun A => xQv D [(I, .int)] A (wO I qo ps pa o ++ wS I qo qs (s_X3_pass o a))) (by decide) rfl (Nat.le_of_ble_eq_true rfl) ?_
  intro p e s m below meth c A H ls hst hAe hsz hl
  obtain ⟨hx, hb, hr, hts, hown, hlocks, hml, hin, hN, hK, hP, hD, hA, hS⟩ := hst
  have hl : lv_has ls 3 [(0, .ref (qs 0))] := hl
  have hP : va_P D vwCl (wO I qo ps pa o ++ wS I qo qs a) H := hP
  have hinX3 : ∀ w ∈ u_ws RX3 TX3 12, w ∈ wsX3_pass := by decide +kernel
  have w_1 := hts (.fieldLink RX3 19 "BridgeBellsModel$State" "passer" "I") (by decide +kernel)
  have w_2 := hts (.fieldLink RX3 29 "BridgeBellsModel$State" "left" "[I") (by decide +kernel)
  have w_3 := hts (.fieldLink RX3 22 "BridgeBellsModel$State" "is" "[I") (by decide +kernel)
  have w_4 := hts (.fieldLink RX3 32 "BridgeBellsModel$State" "when" "[I") (by decide +kernel)
  have w_5 := hts (.fieldLink RX3 41 "BridgeBellsModel$State" "minute" "I") (by decide +kernel)
  have hN1 : o.1 1 = nI (o.1 1).toNatClampNeg := nOk_nI hn
  have hN40 : (o.1 1).toNatClampNeg ≤ 40 := nOk_le hn
  have hinX4 : ∀ w ∈ u_ws RX4 TX4 8, w ∈ wsX3_pass := by decide +kernel
  have w_t0 := hts (.fieldLink RX3 47 "BridgeBellsModel$State" "ice" "I") (by decide +kernel)
  have w_t1 := hts (.fieldLink RX3 3 "BridgeBellsModel$State" "this$0" "LBridgeBellsModel;") (by decide +kernel)
  have w_t2 := hts (.methodLink RX3 83 Lib.Math.min.name) (by decide +kernel)
  have w_t3 := hts (.static Lib.Math.min.name) (by decide +kernel)
  have w_t4 := hts (.initialized "java/lang/Math") (by decide +kernel)
  have w_t5 := hts (.code Lib.Math.min.name Lib.Math.min.code 2 (some .int)) (by decide +kernel)
  have w_t6 := hts (.methodLink RX3 60 Lib.Math.max.name) (by decide +kernel)
  have w_t7 := hts (.static Lib.Math.max.name) (by decide +kernel)
  have w_t8 := hts (.code Lib.Math.max.name Lib.Math.max.code 2 (some .int)) (by decide +kernel)
  have w_t9 := hts (.fieldLink RX3 26 "BridgeBellsModel$State" "waited" "[I") (by decide +kernel)
  have cut : ∀ (a : MS), mOk (a.1 0) → ∀ (H : Heap) (locs : List Loc), va_P D vwCl (wO I qo ps pa o ++ wS I qo qs a) H → va_D A (wO I qo ps pa o ++ wS I qo qs a) → va_S A s.heap H locs → ∀ ls, lv_has ls 3 [(0, .ref (qs 0))] → W p l e { frames := 3, cells := 0, slots := 0, locals := 57 } s m #[.ref (qs 0)] below meth c H locs 0 0 (MQ below (xQv D [(I, .int)] A (wO I qo ps pa o ++ wS I qo qs (m_rest o a))) #[.ref (qs 0)] s 0 0 A) (F0 m 76 ls []) := by
    intro a hm H locs hP hD hS ls hl
    have hcold := hr_in hm
    have loop : ∀ (r k : Nat), r + k = (o.1 1).toNatClampNeg → ∀ (H : Heap) (locs : List Loc), va_P D vwCl (wO I qo ps pa o ++ wS I qo qs (a.1, xa a.2 1 (m_wt k (a.2 1) (a.2 0)))) H → va_D A (wO I qo ps pa o ++ wS I qo qs (a.1, xa a.2 1 (m_wt k (a.2 1) (a.2 0)))) → va_S A s.heap H locs → ∀ ls, lv_has ls 3 [(2, .int (nI k)), (0, .ref (qs 0))] → W p l e { frames := 3, cells := 0, slots := 0, locals := 57 } s m #[.ref (qs 0)] below meth c H locs 0 0 (MQ below (xQv D [(I, .int)] A (wO I qo ps pa o ++ wS I qo qs (m_rest o a))) #[.ref (qs 0)] s 0 0 A) (F0 m 78 ls []) := by
      intro r
      induction r with
      | zero =>
        intro k hk H locs hP hD hS ls hl
        have hkN : (o.1 1).toNatClampNeg = k := by omega
        refine lv_iload_n hx hb dX3_pass_78 rfl (lv_at hl 0 rfl) ?_
        refine lv_aload_n hx hb dX3_pass_79 rfl (lv_at hl 1 rfl) ?_
        refine va_get (D := D) (ci := 3) (v := .ref (qo 0)) (C := RX3) (T := TX3) (N := 12) hx hb hts hinX3 hown hK hP 5 rfl rfl 11 (by decide) w_t1 (fun _ h9 => h9) rfl dX3_pass_80 ?_
        refine va_getN (D := D) (ci := 4) (v := .int (o.1 1)) (C := RX4) (T := TX4) (N := 8) hx hb hts hinX4 hown hK hP 0 rfl rfl 1 (by decide) (hN.use 12 rfl) (fun _ h9 => h9) rfl dX3_pass_83 ?_
        refine lv_icmp_ge (tgt := 118) hx hb dX3_pass_86 (by decide) (fun c_101 => ?_) (fun c_101 => ?_)
        · refine lv_aload_n hx hb dX3_pass_118 rfl (lv_at hl 1 rfl) ?_
          refine va_get (D := D) (ci := 3) (v := .int (a.1 0)) (C := RX3) (T := TX3) (N := 12) hx hb hts hinX3 hown hK hP 5 rfl rfl 0 (by decide) w_5 (fun _ h9 => h9) rfl dX3_pass_119 ?_
          refine lv_bipush (v := (60 : Int32)) hx hb dX3_pass_122 (by decide) ?_
          refine lv_irem hx hb dX3_pass_124 (by decide) ?_
          refine lv_if_ne (tgt := 164) hx hb dX3_pass_125 (by decide) (fun c_102 => ?_) (fun c_102 => ?_)
          · refine lv_aload_n hx hb dX3_pass_164 rfl (lv_at hl 1 rfl) ?_
            refine lv_dup hx hb dX3_pass_165 rfl ?_
            refine va_get (D := D) (ci := 3) (v := .int (a.1 0)) (C := RX3) (T := TX3) (N := 12) hx hb hts hinX3 hown hK hP 5 rfl rfl 0 (by decide) w_5 (fun _ h9 => h9) rfl dX3_pass_166 ?_
            refine lv_iconst (v := (1 : Int32)) hx hb dX3_pass_169 (by decide) ?_
            refine lv_iadd hx hb dX3_pass_170 ?_
            refine va_put (D := D) (ci := 3) (v := .int ((a.1 0) + (1 : Int32))) (ty := tyX3 0) (C := RX3) (T := TX3) (N := 12) hx hb hts hinX3 tyX3 tyX3_ok nmX3 hown hK hP hD hS 5 rfl rfl 0 (by decide) w_5 (fun _ h9 => h9) rfl (tyX3_ok 0 (by decide)) rfl rfl (Nat.le_of_ble_eq_true rfl) dX3_pass_171 (fun H locs hP hD hS => ?_)
            have hP : va_P D vwCl (wO I qo ps pa o ++ wS I qo qs (xs a.1 0 ((a.1 0) + (1 : Int32)), xa a.2 1 (m_wt k (a.2 1) (a.2 0)))) H := hP
            have hD : va_D A (wO I qo ps pa o ++ wS I qo qs (xs a.1 0 ((a.1 0) + (1 : Int32)), xa a.2 1 (m_wt k (a.2 1) (a.2 0)))) := hD
            exact xk_vret (wf := fun z : MO × MS => wO I qo ps pa z.1 ++ wS I qo qs z.2) (u := (o, (xs a.1 0 ((a.1 0) + (1 : Int32)), xa a.2 1 (m_wt k (a.2 1) (a.2 0))))) (u1 := (o, m_rest o a)) hx hb hr hlocks hP hK hD hS (by unfold m_rest m_tail; rw [hkN, if_neg c_102]) dX3_pass_174
          · refine lv_aload_n hx hb dX3_pass_128 rfl (lv_at hl 1 rfl) ?_
            refine lv_iconst (v := (0 : Int32)) hx hb dX3_pass_129 (by decide) ?_
            refine lv_bipush (v := (9 : Int32)) hx hb dX3_pass_130 (by decide) ?_
            refine lv_aload_n hx hb dX3_pass_132 rfl (lv_at hl 1 rfl) ?_
            refine va_get (D := D) (ci := 3) (v := .int (a.1 3)) (C := RX3) (T := TX3) (N := 12) hx hb hts hinX3 hown hK hP 5 rfl rfl 3 (by decide) w_t0 (fun _ h9 => h9) rfl dX3_pass_133 ?_
            refine lv_aload_n hx hb dX3_pass_136 rfl (lv_at hl 1 rfl) ?_
            refine va_get (D := D) (ci := 3) (v := .ref (qo 0)) (C := RX3) (T := TX3) (N := 12) hx hb hts hinX3 hown hK hP 5 rfl rfl 11 (by decide) w_t1 (fun _ h9 => h9) rfl dX3_pass_137 ?_
            refine va_getN (D := D) (ci := 4) (v := .ref (qo 4)) (C := RX4) (T := TX4) (N := 8) hx hb hts hinX4 hown hK hP 0 rfl rfl 5 (by decide) (hN.use 15 rfl) (fun _ h9 => h9) rfl dX3_pass_140 ?_
            refine lv_aload_n hx hb dX3_pass_143 rfl (lv_at hl 1 rfl) ?_
            refine va_get (D := D) (ci := 3) (v := .int (a.1 0)) (C := RX3) (T := TX3) (N := 12) hx hb hts hinX3 hown hK hP 5 rfl rfl 0 (by decide) w_5 (fun _ h9 => h9) rfl dX3_pass_144 ?_
            refine lv_bipush (v := (60 : Int32)) hx hb dX3_pass_147 (by decide) ?_
            refine lv_idiv hx hb dX3_pass_149 (by decide) ?_
            refine lv_bipush (v := (8 : Int32)) hx hb dX3_pass_150 (by decide) ?_
            refine lv_irem hx hb dX3_pass_152 (by decide) ?_
            refine va_iald (f := (o.2 3)) hx hb hK hP 4 0 rfl rfl (show vp_in (((a.1 0) / (60 : Int32)) - ((a.1 0) / (60 : Int32)) / (8 : Int32) * (8 : Int32)) 8 from hcold) dX3_pass_153 ?_
            refine lv_iadd hx hb dX3_pass_154 ?_
            refine va_mmin hx hb (hml.trans hl.1.symm) hown w_t2 w_t3 w_t4 w_t5 (Nat.le_of_ble_eq_true rfl) (Nat.le_of_ble_eq_true rfl) (Nat.le_of_ble_eq_true rfl) (Nat.le_of_ble_eq_true rfl) dX3_pass_155 ?_
            refine W.eq (g2 := F0 m 158 ls [.int (imn (9 : Int32) ((a.1 3) + ((o.2 3) (((a.1 0) / (60 : Int32)) - ((a.1 0) / (60 : Int32)) / (8 : Int32) * (8 : Int32)).toNatClampNeg))), .int (0 : Int32), .ref (qs 0)]) rfl ?_
            refine va_mmax hx hb (hml.trans hl.1.symm) hown w_t6 w_t7 w_t4 w_t8 (Nat.le_of_ble_eq_true rfl) (Nat.le_of_ble_eq_true rfl) (Nat.le_of_ble_eq_true rfl) (Nat.le_of_ble_eq_true rfl) dX3_pass_158 ?_
            refine W.eq (g2 := F0 m 161 ls [.int (imx (0 : Int32) (imn (9 : Int32) ((a.1 3) + ((o.2 3) (((a.1 0) / (60 : Int32)) - ((a.1 0) / (60 : Int32)) / (8 : Int32) * (8 : Int32)).toNatClampNeg)))), .ref (qs 0)]) rfl ?_
            refine va_put (D := D) (ci := 3) (v := .int (imx (0 : Int32) (imn (9 : Int32) ((a.1 3) + ((o.2 3) (((a.1 0) / (60 : Int32)) - ((a.1 0) / (60 : Int32)) / (8 : Int32) * (8 : Int32)).toNatClampNeg))))) (ty := tyX3 3) (C := RX3) (T := TX3) (N := 12) hx hb hts hinX3 tyX3 tyX3_ok nmX3 hown hK hP hD hS 5 rfl rfl 3 (by decide) w_t0 (fun _ h9 => h9) rfl (tyX3_ok 3 (by decide)) rfl rfl (Nat.le_of_ble_eq_true rfl) dX3_pass_161 (fun H locs hP hD hS => ?_)
            have hP : va_P D vwCl (wO I qo ps pa o ++ wS I qo qs (xs a.1 3 (imx (0 : Int32) (imn (9 : Int32) ((a.1 3) + ((o.2 3) (((a.1 0) / (60 : Int32)) - ((a.1 0) / (60 : Int32)) / (8 : Int32) * (8 : Int32)).toNatClampNeg)))), xa a.2 1 (m_wt k (a.2 1) (a.2 0)))) H := hP
            have hD : va_D A (wO I qo ps pa o ++ wS I qo qs (xs a.1 3 (imx (0 : Int32) (imn (9 : Int32) ((a.1 3) + ((o.2 3) (((a.1 0) / (60 : Int32)) - ((a.1 0) / (60 : Int32)) / (8 : Int32) * (8 : Int32)).toNatClampNeg)))), xa a.2 1 (m_wt k (a.2 1) (a.2 0)))) := hD
            refine lv_aload_n hx hb dX3_pass_164 rfl (lv_at hl 1 rfl) ?_
            refine lv_dup hx hb dX3_pass_165 rfl ?_
            refine va_get (D := D) (ci := 3) (v := .int (a.1 0)) (C := RX3) (T := TX3) (N := 12) hx hb hts hinX3 hown hK hP 5 rfl rfl 0 (by decide) w_5 (fun _ h9 => h9) rfl dX3_pass_166 ?_
            refine lv_iconst (v := (1 : Int32)) hx hb dX3_pass_169 (by decide) ?_
            refine lv_iadd hx hb dX3_pass_170 ?_
            refine va_put (D := D) (ci := 3) (v := .int ((a.1 0) + (1 : Int32))) (ty := tyX3 0) (C := RX3) (T := TX3) (N := 12) hx hb hts hinX3 tyX3 tyX3_ok nmX3 hown hK hP hD hS 5 rfl rfl 0 (by decide) w_5 (fun _ h9 => h9) rfl (tyX3_ok 0 (by decide)) rfl rfl (Nat.le_of_ble_eq_true rfl) dX3_pass_171 (fun H locs hP hD hS => ?_)
            have hP : va_P D vwCl (wO I qo ps pa o ++ wS I qo qs (xs (xs a.1 3 (imx (0 : Int32) (imn (9 : Int32) ((a.1 3) + ((o.2 3) (((a.1 0) / (60 : Int32)) - ((a.1 0) / (60 : Int32)) / (8 : Int32) * (8 : Int32)).toNatClampNeg))))) 0 ((a.1 0) + (1 : Int32)), xa a.2 1 (m_wt k (a.2 1) (a.2 0)))) H := hP
            have hD : va_D A (wO I qo ps pa o ++ wS I qo qs (xs (xs a.1 3 (imx (0 : Int32) (imn (9 : Int32) ((a.1 3) + ((o.2 3) (((a.1 0) / (60 : Int32)) - ((a.1 0) / (60 : Int32)) / (8 : Int32) * (8 : Int32)).toNatClampNeg))))) 0 ((a.1 0) + (1 : Int32)), xa a.2 1 (m_wt k (a.2 1) (a.2 0)))) := hD
            exact xk_vret (wf := fun z : MO × MS => wO I qo ps pa z.1 ++ wS I qo qs z.2) (u := (o, (xs (xs a.1 3 (imx (0 : Int32) (imn (9 : Int32) ((a.1 3) + ((o.2 3) (((a.1 0) / (60 : Int32)) - ((a.1 0) / (60 : Int32)) / (8 : Int32) * (8 : Int32)).toNatClampNeg))))) 0 ((a.1 0) + (1 : Int32)), xa a.2 1 (m_wt k (a.2 1) (a.2 0))))) (u1 := (o, m_rest o a)) hx hb hr hlocks hP hK hD hS (by unfold m_rest m_tail; rw [hkN, if_pos c_102]) dX3_pass_174
        · exact absurd (by rw [hN1]; exact nI_le (by omega) (by omega)) c_101
      | succ r ih =>
        intro k hk H locs hP hD hS ls hl
        refine lv_iload_n hx hb dX3_pass_78 rfl (lv_at hl 0 rfl) ?_
        refine lv_aload_n hx hb dX3_pass_79 rfl (lv_at hl 1 rfl) ?_
        refine va_get (D := D) (ci := 3) (v := .ref (qo 0)) (C := RX3) (T := TX3) (N := 12) hx hb hts hinX3 hown hK hP 5 rfl rfl 11 (by decide) w_t1 (fun _ h9 => h9) rfl dX3_pass_80 ?_
        refine va_getN (D := D) (ci := 4) (v := .int (o.1 1)) (C := RX4) (T := TX4) (N := 8) hx hb hts hinX4 hown hK hP 0 rfl rfl 1 (by decide) (hN.use 12 rfl) (fun _ h9 => h9) rfl dX3_pass_83 ?_
        refine lv_icmp_ge (tgt := 118) hx hb dX3_pass_86 (by decide) (fun c_103 => ?_) (fun c_103 => ?_)
        · exact absurd c_103 (by rw [hN1]; exact nI_ge (by omega) (by omega))
        · refine lv_aload_n hx hb dX3_pass_89 rfl (lv_at hl 1 rfl) ?_
          refine va_get (D := D) (ci := 3) (v := .ref (qs 2)) (C := RX3) (T := TX3) (N := 12) hx hb hts hinX3 hown hK hP 5 rfl rfl 8 (by decide) w_t9 (fun _ h9 => h9) rfl dX3_pass_90 ?_
          refine lv_iload_n hx hb dX3_pass_93 rfl (lv_at hl 0 rfl) ?_
          refine lv_dup2_11 hx hb dX3_pass_94 rfl rfl ?_
          refine va_iald (f := (m_wt k (a.2 1) (a.2 0))) hx hb hK hP 7 0 rfl rfl (show vp_in (nI k) 40 from (in_nI (k := k) (by omega) hN40)) dX3_pass_95 ?_
          refine W.eq (congrArg (fun z => F0 m 96 ls (.int ((m_wt k (a.2 1) (a.2 0)) z) :: [.int (nI k), .ref (qs 2)])) (nI_clamp (n := k) (by omega))) ?_
          refine lv_aload_n hx hb dX3_pass_96 rfl (lv_at hl 1 rfl) ?_
          refine va_get (D := D) (ci := 3) (v := .ref (qs 1)) (C := RX3) (T := TX3) (N := 12) hx hb hts hinX3 hown hK hP 5 rfl rfl 7 (by decide) w_3 (fun _ h9 => h9) rfl dX3_pass_97 ?_
          refine lv_iload_n hx hb dX3_pass_100 rfl (lv_at hl 0 rfl) ?_
          refine va_iald (f := (a.2 0)) hx hb hK hP 6 0 rfl rfl (show vp_in (nI k) 40 from (in_nI (k := k) (by omega) hN40)) dX3_pass_101 ?_
          refine W.eq (congrArg (fun z => F0 m 102 ls (.int ((a.2 0) z) :: [.int ((m_wt k (a.2 1) (a.2 0)) k), .int (nI k), .ref (qs 2)])) (nI_clamp (n := k) (by omega))) ?_
          refine lv_if_ne (tgt := 109) hx hb dX3_pass_102 (by decide) (fun c_104 => ?_) (fun c_104 => ?_)
          · refine lv_iconst (v := (0 : Int32)) hx hb dX3_pass_109 (by decide) ?_
            refine lv_iadd hx hb dX3_pass_110 ?_
            refine va_iast (f := (m_wt k (a.2 1) (a.2 0))) hx hb hK hP hD hS 7 0 rfl rfl (show vp_in (nI k) 40 from (in_nI (k := k) (by omega) hN40)) dX3_pass_111 (fun H locs hP hD hS => ?_)
            rw [nI_clamp (n := k) (by omega)] at hP hD
            have hP : va_P D vwCl (wO I qo ps pa o ++ wS I qo qs (a.1, xa a.2 1 (upd (m_wt k (a.2 1) (a.2 0)) k (((m_wt k (a.2 1) (a.2 0)) k) + (0 : Int32))))) H := hP
            have hD : va_D A (wO I qo ps pa o ++ wS I qo qs (a.1, xa a.2 1 (upd (m_wt k (a.2 1) (a.2 0)) k (((m_wt k (a.2 1) (a.2 0)) k) + (0 : Int32))))) := hD
            refine lv_iinc (v := (nI (k + 1))) (lv' := [(2, .int (nI (k + 1))), (0, .ref (qs 0))]) hx hb dX3_pass_112 hl (k := 0) rfl (nI_succ k).symm (by decide) rfl (fun ls hl => ?_)
            refine lv_goto (tgt := 78) hx hb dX3_pass_115 (by decide) ?_
            have e9 := m_wt_n (k := k) (w := a.2 1) (i := a.2 0) c_104
            have hP : va_P D vwCl (wO I qo ps pa o ++ wS I qo qs (a.1, xa a.2 1 (m_wt (k + 1) (a.2 1) (a.2 0)))) _ := e9 ▸ hP
            have hD : va_D A (wO I qo ps pa o ++ wS I qo qs (a.1, xa a.2 1 (m_wt (k + 1) (a.2 1) (a.2 0)))) := e9 ▸ hD
            exact ih (k + 1) (by omega) _ _ hP hD hS ls hl
          · refine lv_iconst (v := (1 : Int32)) hx hb dX3_pass_105 (by decide) ?_
            refine lv_goto (tgt := 110) hx hb dX3_pass_106 (by decide) ?_
            refine lv_iadd hx hb dX3_pass_110 ?_
            refine va_iast (f := (m_wt k (a.2 1) (a.2 0))) hx hb hK hP hD hS 7 0 rfl rfl (show vp_in (nI k) 40 from (in_nI (k := k) (by omega) hN40)) dX3_pass_111 (fun H locs hP hD hS => ?_)
            rw [nI_clamp (n := k) (by omega)] at hP hD
            have hP : va_P D vwCl (wO I qo ps pa o ++ wS I qo qs (a.1, xa a.2 1 (upd (m_wt k (a.2 1) (a.2 0)) k (((m_wt k (a.2 1) (a.2 0)) k) + (1 : Int32))))) H := hP
            have hD : va_D A (wO I qo ps pa o ++ wS I qo qs (a.1, xa a.2 1 (upd (m_wt k (a.2 1) (a.2 0)) k (((m_wt k (a.2 1) (a.2 0)) k) + (1 : Int32))))) := hD
            refine lv_iinc (v := (nI (k + 1))) (lv' := [(2, .int (nI (k + 1))), (0, .ref (qs 0))]) hx hb dX3_pass_112 hl (k := 0) rfl (nI_succ k).symm (by decide) rfl (fun ls hl => ?_)
            refine lv_goto (tgt := 78) hx hb dX3_pass_115 (by decide) ?_
            have e9 := m_wt_y (k := k) (w := a.2 1) (i := a.2 0) c_104
            have hP : va_P D vwCl (wO I qo ps pa o ++ wS I qo qs (a.1, xa a.2 1 (m_wt (k + 1) (a.2 1) (a.2 0)))) _ := e9 ▸ hP
            have hD : va_D A (wO I qo ps pa o ++ wS I qo qs (a.1, xa a.2 1 (m_wt (k + 1) (a.2 1) (a.2 0)))) := e9 ▸ hD
            exact ih (k + 1) (by omega) _ _ hP hD hS ls hl
    refine lv_iconst (v := (0 : Int32)) hx hb dX3_pass_76 (by decide) ?_
    refine lv_istore_n (lv' := [(2, .int (0 : Int32)), (0, .ref (qs 0))]) hx hb dX3_pass_77 rfl hl (by decide) rfl (fun ls hl => ?_)
    exact loop (o.1 1).toNatClampNeg 0 (by omega) _ _ (by rw [m_wt_0]; exact hP) (by rw [m_wt_0]; exact hD) hS ls hl
  refine lv_aload_n hx hb dX3_pass_0 rfl (lv_at hl 0 rfl) ?_
  refine xk_calli ([]) (wO I qo ps pa o ++ wS I qo qs a) [0, 1, 2, 3, 4, 5, 6, 7, 8, 9] [] [0, 1, 2, 3, 4, 5, 6, 7, 8, 9] hP hD hS hA (va_runV (As := []) (rest := []) ⟨hx, hb, hml, hown, hts⟩ (c_X3_next l D I qo ps pa qs H.size o a hn) (cwV 0 hts gX3_pass_X3_next rfl rfl rfl (by decide +kernel) ⟨Nat.le_of_ble_eq_true rfl, Nat.le_of_ble_eq_true rfl⟩) (xk_preV (wc := wO I qo ps pa o ++ wS I qo qs a) (q0 := 5) (ci := 3) hN hP hK hD [0, 1, 2, 3, 4, 5, 6, 7, 8, 9] rfl rfl rfl rfl) rfl rfl hl.1 rfl (lv_room (Nat.le_of_ble_eq_true rfl)) dX3_pass_1 ⟨Nat.le_of_ble_eq_true rfl, Nat.le_of_ble_eq_true rfl⟩) rfl rfl rfl (by decide) rfl rfl (fun H locs hP hD hS => ?_)
  refine lv_istore_n (lv' := [(1, .int (r_X3_next o a)), (0, .ref (qs 0))]) hx hb dX3_pass_4 rfl hl (by decide) rfl (fun ls hl => ?_)
  refine lv_iload_n hx hb dX3_pass_5 rfl (lv_at hl 0 rfl) ?_
  refine lv_iconst (v := (-1 : Int32)) hx hb dX3_pass_6 (by decide) ?_
  refine lv_icmp_eq (tgt := 15) hx hb dX3_pass_7 (by decide) (fun c_1 => ?_) (fun c_1 => ?_)
  · refine lv_aload_n hx hb dX3_pass_15 rfl (lv_at hl 1 rfl) ?_
    refine va_get (D := D) (ci := 3) (v := .int (a.1 5)) (C := RX3) (T := TX3) (N := 12) hx hb hts hinX3 hown hK hP 5 rfl rfl 5 (by decide) w_1 (fun _ h9 => h9) rfl dX3_pass_16 ?_
    refine lv_iconst (v := (-1 : Int32)) hx hb dX3_pass_19 (by decide) ?_
    refine lv_icmp_eq (tgt := 76) hx hb dX3_pass_20 (by decide) (fun c_2 => ?_) (fun c_2 => ?_)
    · have e9 : s_X3_pass o a = m_rest o a := by unfold s_X3_pass; rw [if_pos c_1, if_pos c_2]
      rw [e9]
      exact cut a (show mOk ((a.1 0)) from hm) _ _ hP hD hS ls (lv_sub hl [1] rfl)
    · refine lv_aload_n hx hb dX3_pass_23 rfl (lv_at hl 1 rfl) ?_
      refine va_get (D := D) (ci := 3) (v := .ref (qs 3)) (C := RX3) (T := TX3) (N := 12) hx hb hts hinX3 hown hK hP 5 rfl rfl 9 (by decide) w_2 (fun _ h9 => h9) rfl dX3_pass_24 ?_
      refine lv_aload_n hx hb dX3_pass_27 rfl (lv_at hl 1 rfl) ?_
      refine va_get (D := D) (ci := 3) (v := .int (a.1 5)) (C := RX3) (T := TX3) (N := 12) hx hb hts hinX3 hown hK hP 5 rfl rfl 5 (by decide) w_1 (fun _ h9 => h9) rfl dX3_pass_28 ?_
      refine lv_dup2_11 hx hb dX3_pass_31 rfl rfl ?_
      refine va_iald (f := (a.2 2)) hx hb hK hP 8 0 rfl rfl (show vp_in (a.1 5) 40 from (hp.resolve_left c_2)) dX3_pass_32 ?_
      refine lv_iconst (v := (1 : Int32)) hx hb dX3_pass_33 (by decide) ?_
      refine lv_isub hx hb dX3_pass_34 ?_
      refine va_iast (f := (a.2 2)) hx hb hK hP hD hS 8 0 rfl rfl (show vp_in (a.1 5) 40 from (hp.resolve_left c_2)) dX3_pass_35 (fun H locs hP hD hS => ?_)
      have hP : va_P D vwCl (wO I qo ps pa o ++ wS I qo qs (a.1, xa a.2 2 (upd (a.2 2) (a.1 5).toNatClampNeg (((a.2 2) (a.1 5).toNatClampNeg) - (1 : Int32))))) H := hP
      have hD : va_D A (wO I qo ps pa o ++ wS I qo qs (a.1, xa a.2 2 (upd (a.2 2) (a.1 5).toNatClampNeg (((a.2 2) (a.1 5).toNatClampNeg) - (1 : Int32))))) := hD
      refine lv_aload_n hx hb dX3_pass_36 rfl (lv_at hl 1 rfl) ?_
      refine va_get (D := D) (ci := 3) (v := .ref (qs 3)) (C := RX3) (T := TX3) (N := 12) hx hb hts hinX3 hown hK hP 5 rfl rfl 9 (by decide) w_2 (fun _ h9 => h9) rfl dX3_pass_37 ?_
      refine lv_aload_n hx hb dX3_pass_40 rfl (lv_at hl 1 rfl) ?_
      refine va_get (D := D) (ci := 3) (v := .int (a.1 5)) (C := RX3) (T := TX3) (N := 12) hx hb hts hinX3 hown hK hP 5 rfl rfl 5 (by decide) w_1 (fun _ h9 => h9) rfl dX3_pass_41 ?_
      refine va_iald (f := (upd (a.2 2) (a.1 5).toNatClampNeg (((a.2 2) (a.1 5).toNatClampNeg) - (1 : Int32)))) hx hb hK hP 8 0 rfl rfl (show vp_in (a.1 5) 40 from (hp.resolve_left c_2)) dX3_pass_44 ?_
      refine lv_if_ne (tgt := 76) hx hb dX3_pass_45 (by decide) (fun c_3 => ?_) (fun c_3 => ?_)
      · have e9 : s_X3_pass o a = m_rest o (a.1, xa a.2 2 (upd (a.2 2) (a.1 5).toNatClampNeg (((a.2 2) (a.1 5).toNatClampNeg) - (1 : Int32)))) := by unfold s_X3_pass; rw [if_pos c_1, if_neg c_2, if_neg c_3]
        rw [e9]
        exact cut (a.1, xa a.2 2 (upd (a.2 2) (a.1 5).toNatClampNeg (((a.2 2) (a.1 5).toNatClampNeg) - (1 : Int32)))) (show mOk ((a.1 0)) from hm) _ _ hP hD hS ls (lv_sub hl [1] rfl)
      · refine lv_aload_n hx hb dX3_pass_48 rfl (lv_at hl 1 rfl) ?_
        refine va_get (D := D) (ci := 3) (v := .ref (qs 1)) (C := RX3) (T := TX3) (N := 12) hx hb hts hinX3 hown hK hP 5 rfl rfl 7 (by decide) w_3 (fun _ h9 => h9) rfl dX3_pass_49 ?_
        refine lv_aload_n hx hb dX3_pass_52 rfl (lv_at hl 1 rfl) ?_
        refine va_get (D := D) (ci := 3) (v := .int (a.1 5)) (C := RX3) (T := TX3) (N := 12) hx hb hts hinX3 hown hK hP 5 rfl rfl 5 (by decide) w_1 (fun _ h9 => h9) rfl dX3_pass_53 ?_
        refine lv_iconst (v := (2 : Int32)) hx hb dX3_pass_56 (by decide) ?_
        refine va_iast (f := (a.2 0)) hx hb hK hP hD hS 6 0 rfl rfl (show vp_in (a.1 5) 40 from (hp.resolve_left c_2)) dX3_pass_57 (fun H locs hP hD hS => ?_)
        have hP : va_P D vwCl (wO I qo ps pa o ++ wS I qo qs (a.1, xa (xa a.2 2 (upd (a.2 2) (a.1 5).toNatClampNeg (((a.2 2) (a.1 5).toNatClampNeg) - (1 : Int32)))) 0 (upd (a.2 0) (a.1 5).toNatClampNeg (2 : Int32)))) H := hP
        have hD : va_D A (wO I qo ps pa o ++ wS I qo qs (a.1, xa (xa a.2 2 (upd (a.2 2) (a.1 5).toNatClampNeg (((a.2 2) (a.1 5).toNatClampNeg) - (1 : Int32)))) 0 (upd (a.2 0) (a.1 5).toNatClampNeg (2 : Int32)))) := hD
        refine lv_aload_n hx hb dX3_pass_58 rfl (lv_at hl 1 rfl) ?_
        refine va_get (D := D) (ci := 3) (v := .ref (qs 4)) (C := RX3) (T := TX3) (N := 12) hx hb hts hinX3 hown hK hP 5 rfl rfl 10 (by decide) w_4 (fun _ h9 => h9) rfl dX3_pass_59 ?_
        refine lv_aload_n hx hb dX3_pass_62 rfl (lv_at hl 1 rfl) ?_
        refine va_get (D := D) (ci := 3) (v := .int (a.1 5)) (C := RX3) (T := TX3) (N := 12) hx hb hts hinX3 hown hK hP 5 rfl rfl 5 (by decide) w_1 (fun _ h9 => h9) rfl dX3_pass_63 ?_
        refine lv_aload_n hx hb dX3_pass_66 rfl (lv_at hl 1 rfl) ?_
        refine va_get (D := D) (ci := 3) (v := .int (a.1 0)) (C := RX3) (T := TX3) (N := 12) hx hb hts hinX3 hown hK hP 5 rfl rfl 0 (by decide) w_5 (fun _ h9 => h9) rfl dX3_pass_67 ?_
        refine va_iast (f := (a.2 3)) hx hb hK hP hD hS 9 0 rfl rfl (show vp_in (a.1 5) 40 from (hp.resolve_left c_2)) dX3_pass_70 (fun H locs hP hD hS => ?_)
        have hP : va_P D vwCl (wO I qo ps pa o ++ wS I qo qs (a.1, xa (xa (xa a.2 2 (upd (a.2 2) (a.1 5).toNatClampNeg (((a.2 2) (a.1 5).toNatClampNeg) - (1 : Int32)))) 0 (upd (a.2 0) (a.1 5).toNatClampNeg (2 : Int32))) 3 (upd (a.2 3) (a.1 5).toNatClampNeg (a.1 0)))) H := hP
        have hD : va_D A (wO I qo ps pa o ++ wS I qo qs (a.1, xa (xa (xa a.2 2 (upd (a.2 2) (a.1 5).toNatClampNeg (((a.2 2) (a.1 5).toNatClampNeg) - (1 : Int32)))) 0 (upd (a.2 0) (a.1 5).toNatClampNeg (2 : Int32))) 3 (upd (a.2 3) (a.1 5).toNatClampNeg (a.1 0)))) := hD
        refine lv_aload_n hx hb dX3_pass_71 rfl (lv_at hl 1 rfl) ?_
        refine lv_iconst (v := (-1 : Int32)) hx hb dX3_pass_72 (by decide) ?_
        refine va_put (D := D) (ci := 3) (v := .int (-1 : Int32)) (ty := tyX3 5) (C := RX3) (T := TX3) (N := 12) hx hb hts hinX3 tyX3 tyX3_ok nmX3 hown hK hP hD hS 5 rfl rfl 5 (by decide) w_1 (fun _ h9 => h9) rfl (tyX3_ok 5 (by decide)) rfl rfl (Nat.le_of_ble_eq_true rfl) dX3_pass_73 (fun H locs hP hD hS => ?_)
        have hP : va_P D vwCl (wO I qo ps pa o ++ wS I qo qs (xs a.1 5 (-1 : Int32), xa (xa (xa a.2 2 (upd (a.2 2) (a.1 5).toNatClampNeg (((a.2 2) (a.1 5).toNatClampNeg) - (1 : Int32)))) 0 (upd (a.2 0) (a.1 5).toNatClampNeg (2 : Int32))) 3 (upd (a.2 3) (a.1 5).toNatClampNeg (a.1 0)))) H := hP
        have hD : va_D A (wO I qo ps pa o ++ wS I qo qs (xs a.1 5 (-1 : Int32), xa (xa (xa a.2 2 (upd (a.2 2) (a.1 5).toNatClampNeg (((a.2 2) (a.1 5).toNatClampNeg) - (1 : Int32)))) 0 (upd (a.2 0) (a.1 5).toNatClampNeg (2 : Int32))) 3 (upd (a.2 3) (a.1 5).toNatClampNeg (a.1 0)))) := hD
        have e9 : s_X3_pass o a = m_rest o (xs a.1 5 (-1 : Int32), xa (xa (xa a.2 2 (upd (a.2 2) (a.1 5).toNatClampNeg (((a.2 2) (a.1 5).toNatClampNeg) - (1 : Int32)))) 0 (upd (a.2 0) (a.1 5).toNatClampNeg (2 : Int32))) 3 (upd (a.2 3) (a.1 5).toNatClampNeg (a.1 0))) := by unfold s_X3_pass; rw [if_pos c_1, if_neg c_2, if_pos c_3]
        rw [e9]
        exact cut (xs a.1 5 (-1 : Int32), xa (xa (xa a.2 2 (upd (a.2 2) (a.1 5).toNatClampNeg (((a.2 2) (a.1 5).toNatClampNeg) - (1 : Int32)))) 0 (upd (a.2 0) (a.1 5).toNatClampNeg (2 : Int32))) 3 (upd (a.2 3) (a.1 5).toNatClampNeg (a.1 0))) (show mOk ((a.1 0)) from hm) _ _ hP hD hS ls (lv_sub hl [1] rfl)
  · refine lv_aload_n hx hb dX3_pass_10 rfl (lv_at hl 1 rfl) ?_
    refine lv_iload_n hx hb dX3_pass_11 rfl (lv_at hl 0 rfl) ?_
    refine xk_callv ([]) (wO I qo ps pa o ++ wS I qo qs (s_X3_serve o a (r_X3_next o a))) [0, 1, 2, 3, 4, 5, 6, 7, 8, 9] [] [0, 1, 2, 3, 4, 5, 6, 7, 8, 9] hP hD hS hA (va_runV (As := [.int (r_X3_next o a)]) (rest := []) ⟨hx, hb, hml, hown, hts⟩ (c_X3_serve l D I qo ps pa qs H.size o a (r_X3_next o a) ((nextOk hn).resolve_left c_1)) (cwV 1 hts gX3_pass_X3_serve rfl rfl rfl (by decide +kernel) ⟨Nat.le_of_ble_eq_true rfl, Nat.le_of_ble_eq_true rfl⟩) (xk_preV (wc := wO I qo ps pa o ++ wS I qo qs a) (q0 := 5) (ci := 3) hN hP hK hD [0, 1, 2, 3, 4, 5, 6, 7, 8, 9] rfl rfl rfl rfl) rfl rfl hl.1 rfl (lv_room (Nat.le_of_ble_eq_true rfl)) dX3_pass_12 ⟨Nat.le_of_ble_eq_true rfl, Nat.le_of_ble_eq_true rfl⟩) rfl rfl rfl (by decide) rfl rfl (fun H locs hP hD hS => ?_)
    generalize hz_1 : s_X3_serve o a (r_X3_next o a) = z_1 at hP hD
    have hg_1 : g1_X3_pass o a = z_1 := by rw [← hz_1]; rfl
    have hp : pOk ((z_1.1 5)) := by subst hg_1; exact serve_p hp ((nextOk hn).resolve_left c_1)
    refine lv_aload_n hx hb dX3_pass_15 rfl (lv_at hl 1 rfl) ?_
    refine va_get (D := D) (ci := 3) (v := .int (z_1.1 5)) (C := RX3) (T := TX3) (N := 12) hx hb hts hinX3 hown hK hP 5 rfl rfl 5 (by decide) w_1 (fun _ h9 => h9) rfl dX3_pass_16 ?_
    refine lv_iconst (v := (-1 : Int32)) hx hb dX3_pass_19 (by decide) ?_
    refine lv_icmp_eq (tgt := 76) hx hb dX3_pass_20 (by decide) (fun c_4 => ?_) (fun c_4 => ?_)
    · have e9 : s_X3_pass o a = m_rest o z_1 := by subst hg_1; unfold s_X3_pass; rw [if_neg c_1, if_pos c_4]
      rw [e9]
      exact cut z_1 (show mOk ((z_1.1 0)) from (by subst hg_1; show mOk ((s_X3_serve o a _).1 0); rw [serveM_m]; exact hm)) _ _ hP hD hS ls (lv_sub hl [1] rfl)
    · refine lv_aload_n hx hb dX3_pass_23 rfl (lv_at hl 1 rfl) ?_
      refine va_get (D := D) (ci := 3) (v := .ref (qs 3)) (C := RX3) (T := TX3) (N := 12) hx hb hts hinX3 hown hK hP 5 rfl rfl 9 (by decide) w_2 (fun _ h9 => h9) rfl dX3_pass_24 ?_
      refine lv_aload_n hx hb dX3_pass_27 rfl (lv_at hl 1 rfl) ?_
      refine va_get (D := D) (ci := 3) (v := .int (z_1.1 5)) (C := RX3) (T := TX3) (N := 12) hx hb hts hinX3 hown hK hP 5 rfl rfl 5 (by decide) w_1 (fun _ h9 => h9) rfl dX3_pass_28 ?_
      refine lv_dup2_11 hx hb dX3_pass_31 rfl rfl ?_
      refine va_iald (f := (z_1.2 2)) hx hb hK hP 8 0 rfl rfl (show vp_in (z_1.1 5) 40 from (hp.resolve_left c_4)) dX3_pass_32 ?_
      refine lv_iconst (v := (1 : Int32)) hx hb dX3_pass_33 (by decide) ?_
      refine lv_isub hx hb dX3_pass_34 ?_
      refine va_iast (f := (z_1.2 2)) hx hb hK hP hD hS 8 0 rfl rfl (show vp_in (z_1.1 5) 40 from (hp.resolve_left c_4)) dX3_pass_35 (fun H locs hP hD hS => ?_)
      have hP : va_P D vwCl (wO I qo ps pa o ++ wS I qo qs (z_1.1, xa z_1.2 2 (upd (z_1.2 2) (z_1.1 5).toNatClampNeg (((z_1.2 2) (z_1.1 5).toNatClampNeg) - (1 : Int32))))) H := hP
      have hD : va_D A (wO I qo ps pa o ++ wS I qo qs (z_1.1, xa z_1.2 2 (upd (z_1.2 2) (z_1.1 5).toNatClampNeg (((z_1.2 2) (z_1.1 5).toNatClampNeg) - (1 : Int32))))) := hD
      refine lv_aload_n hx hb dX3_pass_36 rfl (lv_at hl 1 rfl) ?_
      refine va_get (D := D) (ci := 3) (v := .ref (qs 3)) (C := RX3) (T := TX3) (N := 12) hx hb hts hinX3 hown hK hP 5 rfl rfl 9 (by decide) w_2 (fun _ h9 => h9) rfl dX3_pass_37 ?_
      refine lv_aload_n hx hb dX3_pass_40 rfl (lv_at hl 1 rfl) ?_
      refine va_get (D := D) (ci := 3) (v := .int (z_1.1 5)) (C := RX3) (T := TX3) (N := 12) hx hb hts hinX3 hown hK hP 5 rfl rfl 5 (by decide) w_1 (fun _ h9 => h9) rfl dX3_pass_41 ?_
      refine va_iald (f := (upd (z_1.2 2) (z_1.1 5).toNatClampNeg (((z_1.2 2) (z_1.1 5).toNatClampNeg) - (1 : Int32)))) hx hb hK hP 8 0 rfl rfl (show vp_in (z_1.1 5) 40 from (hp.resolve_left c_4)) dX3_pass_44 ?_
      refine lv_if_ne (tgt := 76) hx hb dX3_pass_45 (by decide) (fun c_5 => ?_) (fun c_5 => ?_)
      · have e9 : s_X3_pass o a = m_rest o (z_1.1, xa z_1.2 2 (upd (z_1.2 2) (z_1.1 5).toNatClampNeg (((z_1.2 2) (z_1.1 5).toNatClampNeg) - (1 : Int32)))) := by subst hg_1; unfold s_X3_pass; rw [if_neg c_1, if_neg c_4, if_neg c_5]
        rw [e9]
        exact cut (z_1.1, xa z_1.2 2 (upd (z_1.2 2) (z_1.1 5).toNatClampNeg (((z_1.2 2) (z_1.1 5).toNatClampNeg) - (1 : Int32)))) (show mOk ((z_1.1 0)) from (by subst hg_1; show mOk ((s_X3_serve o a _).1 0); rw [serveM_m]; exact hm)) _ _ hP hD hS ls (lv_sub hl [1] rfl)
      · refine lv_aload_n hx hb dX3_pass_48 rfl (lv_at hl 1 rfl) ?_
        refine va_get (D := D) (ci := 3) (v := .ref (qs 1)) (C := RX3) (T := TX3) (N := 12) hx hb hts hinX3 hown hK hP 5 rfl rfl 7 (by decide) w_3 (fun _ h9 => h9) rfl dX3_pass_49 ?_
        refine lv_aload_n hx hb dX3_pass_52 rfl (lv_at hl 1 rfl) ?_
        refine va_get (D := D) (ci := 3) (v := .int (z_1.1 5)) (C := RX3) (T := TX3) (N := 12) hx hb hts hinX3 hown hK hP 5 rfl rfl 5 (by decide) w_1 (fun _ h9 => h9) rfl dX3_pass_53 ?_
        refine lv_iconst (v := (2 : Int32)) hx hb dX3_pass_56 (by decide) ?_
        refine va_iast (f := (z_1.2 0)) hx hb hK hP hD hS 6 0 rfl rfl (show vp_in (z_1.1 5) 40 from (hp.resolve_left c_4)) dX3_pass_57 (fun H locs hP hD hS => ?_)
        have hP : va_P D vwCl (wO I qo ps pa o ++ wS I qo qs (z_1.1, xa (xa z_1.2 2 (upd (z_1.2 2) (z_1.1 5).toNatClampNeg (((z_1.2 2) (z_1.1 5).toNatClampNeg) - (1 : Int32)))) 0 (upd (z_1.2 0) (z_1.1 5).toNatClampNeg (2 : Int32)))) H := hP
        have hD : va_D A (wO I qo ps pa o ++ wS I qo qs (z_1.1, xa (xa z_1.2 2 (upd (z_1.2 2) (z_1.1 5).toNatClampNeg (((z_1.2 2) (z_1.1 5).toNatClampNeg) - (1 : Int32)))) 0 (upd (z_1.2 0) (z_1.1 5).toNatClampNeg (2 : Int32)))) := hD
        refine lv_aload_n hx hb dX3_pass_58 rfl (lv_at hl 1 rfl) ?_
        refine va_get (D := D) (ci := 3) (v := .ref (qs 4)) (C := RX3) (T := TX3) (N := 12) hx hb hts hinX3 hown hK hP 5 rfl rfl 10 (by decide) w_4 (fun _ h9 => h9) rfl dX3_pass_59 ?_
        refine lv_aload_n hx hb dX3_pass_62 rfl (lv_at hl 1 rfl) ?_
        refine va_get (D := D) (ci := 3) (v := .int (z_1.1 5)) (C := RX3) (T := TX3) (N := 12) hx hb hts hinX3 hown hK hP 5 rfl rfl 5 (by decide) w_1 (fun _ h9 => h9) rfl dX3_pass_63 ?_
        refine lv_aload_n hx hb dX3_pass_66 rfl (lv_at hl 1 rfl) ?_
        refine va_get (D := D) (ci := 3) (v := .int (z_1.1 0)) (C := RX3) (T := TX3) (N := 12) hx hb hts hinX3 hown hK hP 5 rfl rfl 0 (by decide) w_5 (fun _ h9 => h9) rfl dX3_pass_67 ?_
        refine va_iast (f := (z_1.2 3)) hx hb hK hP hD hS 9 0 rfl rfl (show vp_in (z_1.1 5) 40 from (hp.resolve_left c_4)) dX3_pass_70 (fun H locs hP hD hS => ?_)
        have hP : va_P D vwCl (wO I qo ps pa o ++ wS I qo qs (z_1.1, xa (xa (xa z_1.2 2 (upd (z_1.2 2) (z_1.1 5).toNatClampNeg (((z_1.2 2) (z_1.1 5).toNatClampNeg) - (1 : Int32)))) 0 (upd (z_1.2 0) (z_1.1 5).toNatClampNeg (2 : Int32))) 3 (upd (z_1.2 3) (z_1.1 5).toNatClampNeg (z_1.1 0)))) H := hP
        have hD : va_D A (wO I qo ps pa o ++ wS I qo qs (z_1.1, xa (xa (xa z_1.2 2 (upd (z_1.2 2) (z_1.1 5).toNatClampNeg (((z_1.2 2) (z_1.1 5).toNatClampNeg) - (1 : Int32)))) 0 (upd (z_1.2 0) (z_1.1 5).toNatClampNeg (2 : Int32))) 3 (upd (z_1.2 3) (z_1.1 5).toNatClampNeg (z_1.1 0)))) := hD
        refine lv_aload_n hx hb dX3_pass_71 rfl (lv_at hl 1 rfl) ?_
        refine lv_iconst (v := (-1 : Int32)) hx hb dX3_pass_72 (by decide) ?_
        refine va_put (D := D) (ci := 3) (v := .int (-1 : Int32)) (ty := tyX3 5) (C := RX3) (T := TX3) (N := 12) hx hb hts hinX3 tyX3 tyX3_ok nmX3 hown hK hP hD hS 5 rfl rfl 5 (by decide) w_1 (fun _ h9 => h9) rfl (tyX3_ok 5 (by decide)) rfl rfl (Nat.le_of_ble_eq_true rfl) dX3_pass_73 (fun H locs hP hD hS => ?_)
        have hP : va_P D vwCl (wO I qo ps pa o ++ wS I qo qs (xs z_1.1 5 (-1 : Int32), xa (xa (xa z_1.2 2 (upd (z_1.2 2) (z_1.1 5).toNatClampNeg (((z_1.2 2) (z_1.1 5).toNatClampNeg) - (1 : Int32)))) 0 (upd (z_1.2 0) (z_1.1 5).toNatClampNeg (2 : Int32))) 3 (upd (z_1.2 3) (z_1.1 5).toNatClampNeg (z_1.1 0)))) H := hP
        have hD : va_D A (wO I qo ps pa o ++ wS I qo qs (xs z_1.1 5 (-1 : Int32), xa (xa (xa z_1.2 2 (upd (z_1.2 2) (z_1.1 5).toNatClampNeg (((z_1.2 2) (z_1.1 5).toNatClampNeg) - (1 : Int32)))) 0 (upd (z_1.2 0) (z_1.1 5).toNatClampNeg (2 : Int32))) 3 (upd (z_1.2 3) (z_1.1 5).toNatClampNeg (z_1.1 0)))) := hD
        have e9 : s_X3_pass o a = m_rest o (xs z_1.1 5 (-1 : Int32), xa (xa (xa z_1.2 2 (upd (z_1.2 2) (z_1.1 5).toNatClampNeg (((z_1.2 2) (z_1.1 5).toNatClampNeg) - (1 : Int32)))) 0 (upd (z_1.2 0) (z_1.1 5).toNatClampNeg (2 : Int32))) 3 (upd (z_1.2 3) (z_1.1 5).toNatClampNeg (z_1.1 0))) := by subst hg_1; unfold s_X3_pass; rw [if_neg c_1, if_neg c_4, if_pos c_5]
        rw [e9]
        exact cut (xs z_1.1 5 (-1 : Int32), xa (xa (xa z_1.2 2 (upd (z_1.2 2) (z_1.1 5).toNatClampNeg (((z_1.2 2) (z_1.1 5).toNatClampNeg) - (1 : Int32)))) 0 (upd (z_1.2 0) (z_1.1 5).toNatClampNeg (2 : Int32))) 3 (upd (z_1.2 3) (z_1.1 5).toNatClampNeg (z_1.1 0))) (show mOk ((z_1.1 0)) from (by subst hg_1; show mOk ((s_X3_serve o a _).1 0); rw [serveM_m]; exact hm)) _ _ hP hD hS ls (lv_sub hl [1] rfl)

