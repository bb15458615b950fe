def g1_X4_foresee (o : MO) (a : MS) (mi : Int32) (wh : Int32) : MS := s_X3_pass_ (xs o.1 0 (0 : Int32), o.2) a mi
def g2_X4_foresee (o : MO) (a : MS) (mi : Int32) (wh : Int32) : MO := s_X4_no (xs o.1 0 (0 : Int32), o.2) (2 : Int32)
def g3_X4_foresee (o : MO) (a : MS) (mi : Int32) (wh : Int32) : MO := s_X4_no (xs o.1 0 (0 : Int32), o.2) (1 : Int32)
def r_X4_foresee (o : MO) (a : MS) (mi : Int32) (wh : Int32) : Int32 :=
  if (r_X4_isIn mi (1 : Int32) (240 : Int32)) = 0 then
    (r_X4_no (xs o.1 0 (0 : Int32), o.2) (1 : Int32))
  else
    if (r_X4_isIn wh (0 : Int32) (3 : Int32)) = 0 then
      (r_X4_no (xs o.1 0 (0 : Int32), o.2) (2 : Int32))
    else
      if wh = 0 then
        ((r_X3_are (xs o.1 0 (0 : Int32), o.2) (g1_X4_foresee o a mi wh) (2 : Int32) (2 : Int32)) - (r_X3_are (xs o.1 0 (0 : Int32), o.2) a (2 : Int32) (2 : Int32)))
      else
        if wh = (1 : Int32) then
          ((r_X3_sumWaited (xs o.1 0 (0 : Int32), o.2) (g1_X4_foresee o a mi wh)) - (r_X3_sumWaited (xs o.1 0 (0 : Int32), o.2) a))
        else
          if wh = (2 : Int32) then
            ((g1_X4_foresee o a mi wh).1 1)
          else
            ((g1_X4_foresee o a mi wh).1 3)
def s_X4_foresee (o : MO) (a : MS) (mi : Int32) (wh : Int32) : MO :=
  if (r_X4_isIn mi (1 : Int32) (240 : Int32)) = 0 then
    (g3_X4_foresee o a mi wh)
  else
    if (r_X4_isIn wh (0 : Int32) (3 : Int32)) = 0 then
      (g2_X4_foresee o a mi wh)
    else
      if wh = 0 then
        (xs o.1 0 (0 : Int32), o.2)
      else
        if wh = (1 : Int32) then
          (xs o.1 0 (0 : Int32), o.2)
        else
          if wh = (2 : Int32) then
            (xs o.1 0 (0 : Int32), o.2)
          else
            (xs o.1 0 (0 : Int32), o.2)
set_option maxHeartbeats 800000 in
set_option maxRecDepth 100000 in
theorem c_X4_foresee (l : Launch) (D : va_G) (I : ClassId) (qo qs qa : Nat → Nat) (sz : Nat) (o : MO) (a : MS) (z : MS) (mi : Int32) (wh : Int32) (hn : nOk (o.1 1)) (hp : pOk (a.1 5)) (hm1 : 0 ≤ (a.1 0).toInt) (hm2 : (a.1 0).toInt < 1000000000) : xMiE l D [(I, .int)] yX4_foresee wsX4_foresee { frames := 5, cells := 0, slots := 0, locals := 101 } [.ref (qo 0), .int mi, .int wh] sz (wO I qo (qs 0) (qa 0) o ++ wS I qo qs a ++ wS I qo qa z) MS (r_X4_foresee o a mi wh) (fun v : MS => wO I qo (qs 0) (qa 0) (s_X4_foresee o a mi wh) ++ wS I qo qs a ++ wS I qo qa v) 0 0 := by
  refine xk_start (cc := cX4_foresee) (maxL := 3) (ret := (some .int)) (Qf := fun A => xQiE D [(I, .int)] A MS (r_X4_foresee o a mi wh) (fun v : MS => wO I qo (qs 0) (qa 0) (s_X4_foresee o a mi wh) ++ wS I qo qs a ++ wS I qo qa v)) (by decide) rfl (Nat.le_of_ble_eq_true rfl) ?_
  intro p e s m below meth c A H ls hst hAe hsz hl
  obtain ⟨hx, hb, hr, hts, hown, hlocks, hml, hin, hN, hK, hP, hD, hA, hS⟩ := hst
  have hl : lv_has ls 3 [(0, .ref (qo 0)), (1, .int mi), (2, .int wh)] := hl
  have hP : va_P D vwCl (wO I qo (qs 0) (qa 0) o ++ wS I qo qs a ++ wS I qo qa z) H := hP
  have hinX4 : ∀ w ∈ u_ws RX4 TX4 8, w ∈ wsX4_foresee := by decide +kernel
  have hinX3 : ∀ w ∈ u_ws RX3 TX3 12, w ∈ wsX4_foresee := by decide +kernel
  have w_1 := hts (.fieldLink RX4 34 "BridgeBellsModel" "thrown" "I") (by decide +kernel)
  have w_2 := hts (.fieldLink RX4 31 "BridgeBellsModel" "ahead" "LBridgeBellsModel$State;") (by decide +kernel)
  have w_3 := hts (.fieldLink RX4 27 "BridgeBellsModel" "s" "LBridgeBellsModel$State;") (by decide +kernel)
  refine lv_aload_n hx hb dX4_foresee_0 rfl (lv_at hl 0 rfl) ?_
  refine lv_iconst (v := (0 : Int32)) hx hb dX4_foresee_1 (by decide) ?_
  refine va_put (D := D) (ci := 4) (v := .int (0 : Int32)) (ty := tyX4 0) (C := RX4) (T := TX4) (N := 8) hx hb hts hinX4 tyX4 tyX4_ok nmX4 hown hK hP hD hS 0 rfl rfl 0 (by decide) w_1 (fun _ h9 => h9) rfl (tyX4_ok 0 (by decide)) rfl rfl (Nat.le_of_ble_eq_true rfl) dX4_foresee_2 (fun H locs hP hD hS => ?_)
  have hP : va_P D vwCl (wO I qo (qs 0) (qa 0) (xs o.1 0 (0 : Int32), o.2) ++ wS I qo qs a ++ wS I qo qa z) H := hP
  have hD : va_D A (wO I qo (qs 0) (qa 0) (xs o.1 0 (0 : Int32), o.2) ++ wS I qo qs a ++ wS I qo qa z) := hD
  refine lv_iload_n hx hb dX4_foresee_5 rfl (lv_at hl 1 rfl) ?_
  refine lv_iconst (v := (1 : Int32)) hx hb dX4_foresee_6 (by decide) ?_
  refine lv_sipush (v := (240 : Int32)) hx hb dX4_foresee_7 (by decide) ?_
  refine xk_calli ([cMO qo (qs 0) (qa 0) (xs o.1 0 (0 : Int32)), cA I (qo 1) 40 (o.2 0), cA I (qo 2) 40 (o.2 1), cA I (qo 3) 40 (o.2 2), cA I (qo 4) 8 (o.2 3), cMS qo qs a.1, cA I (qs 1) 40 (a.2 0), cA I (qs 2) 40 (a.2 1), cA I (qs 3) 40 (a.2 2), cA I (qs 4) 40 (a.2 3), cMS qo qa z.1, cA I (qa 1) 40 (z.2 0), cA I (qa 2) 40 (z.2 1), cA I (qa 3) 40 (z.2 2), cA I (qa 4) 40 (z.2 3)]) (wO I qo (qs 0) (qa 0) (xs o.1 0 (0 : Int32), o.2) ++ wS I qo qs a ++ wS I qo qa z) [] [0, 1, 2, 3, 4, 5, 6, 7, 8, 9, 10, 11, 12, 13, 14] [0, 1, 2, 3, 4, 5, 6, 7, 8, 9, 10, 11, 12, 13, 14] hP hD hS hA (va_runS (As := [.int mi, .int (1 : Int32), .int (240 : Int32)]) (rest := []) ⟨hx, hb, hml, hown, hts⟩ (c_X4_isIn l D I  H.size mi (1 : Int32) (240 : Int32) ) (va_cwS 3 hts gX4_foresee_X4_isIn rfl rfl rfl (by decide +kernel) ⟨Nat.le_of_ble_eq_true rfl, Nat.le_of_ble_eq_true rfl⟩) (xk_pre (wc := ([] : va_W)) hN hP hK hD [] rfl rfl) rfl rfl hl.1 rfl (lv_room (Nat.le_of_ble_eq_true rfl)) dX4_foresee_10 ⟨Nat.le_of_ble_eq_true rfl, Nat.le_of_ble_eq_true rfl⟩) rfl rfl rfl (by decide) rfl rfl (fun H locs hP hD hS => ?_)
  refine lv_if_ne (tgt := 22) hx hb dX4_foresee_13 (by decide) (fun c_1 => ?_) (fun c_1 => ?_)
  · refine lv_iload_n hx hb dX4_foresee_22 rfl (lv_at hl 2 rfl) ?_
    refine lv_iconst (v := (0 : Int32)) hx hb dX4_foresee_23 (by decide) ?_
    refine lv_iconst (v := (3 : Int32)) hx hb dX4_foresee_24 (by decide) ?_
    refine xk_calli ([cMO qo (qs 0) (qa 0) (xs o.1 0 (0 : Int32)), cA I (qo 1) 40 (o.2 0), cA I (qo 2) 40 (o.2 1), cA I (qo 3) 40 (o.2 2), cA I (qo 4) 8 (o.2 3), cMS qo qs a.1, cA I (qs 1) 40 (a.2 0), cA I (qs 2) 40 (a.2 1), cA I (qs 3) 40 (a.2 2), cA I (qs 4) 40 (a.2 3), cMS qo qa z.1, cA I (qa 1) 40 (z.2 0), cA I (qa 2) 40 (z.2 1), cA I (qa 3) 40 (z.2 2), cA I (qa 4) 40 (z.2 3)]) (wO I qo (qs 0) (qa 0) (xs o.1 0 (0 : Int32), o.2) ++ wS I qo qs a ++ wS I qo qa z) [] [0, 1, 2, 3, 4, 5, 6, 7, 8, 9, 10, 11, 12, 13, 14] [0, 1, 2, 3, 4, 5, 6, 7, 8, 9, 10, 11, 12, 13, 14] hP hD hS hA (va_runS (As := [.int wh, .int (0 : Int32), .int (3 : Int32)]) (rest := []) ⟨hx, hb, hml, hown, hts⟩ (c_X4_isIn l D I  H.size wh (0 : Int32) (3 : Int32) ) (va_cwS 3 hts gX4_foresee_X4_isIn rfl rfl rfl (by decide +kernel) ⟨Nat.le_of_ble_eq_true rfl, Nat.le_of_ble_eq_true rfl⟩) (xk_pre (wc := ([] : va_W)) hN hP hK hD [] rfl rfl) rfl rfl hl.1 rfl (lv_room (Nat.le_of_ble_eq_true rfl)) dX4_foresee_25 ⟨Nat.le_of_ble_eq_true rfl, Nat.le_of_ble_eq_true rfl⟩) rfl rfl rfl (by decide) rfl rfl (fun H locs hP hD hS => ?_)
    refine lv_if_ne (tgt := 37) hx hb dX4_foresee_28 (by decide) (fun c_2 => ?_) (fun c_2 => ?_)
    · refine lv_aload_n hx hb dX4_foresee_37 rfl (lv_at hl 0 rfl) ?_
      refine va_get (D := D) (ci := 4) (v := .ref (qa 0)) (C := RX4) (T := TX4) (N := 8) hx hb hts hinX4 hown hK hP 0 rfl rfl 7 (by decide) w_2 (fun _ h9 => h9) rfl dX4_foresee_38 ?_
      refine lv_aload_n hx hb dX4_foresee_41 rfl (lv_at hl 0 rfl) ?_
      refine va_get (D := D) (ci := 4) (v := .ref (qs 0)) (C := RX4) (T := TX4) (N := 8) hx hb hts hinX4 hown hK hP 0 rfl rfl 6 (by decide) w_3 (fun _ h9 => h9) rfl dX4_foresee_42 ?_
      refine xk_callv ([cMO qo (qs 0) (qa 0) (xs o.1 0 (0 : Int32)), cA I (qo 1) 40 (o.2 0), cA I (qo 2) 40 (o.2 1), cA I (qo 3) 40 (o.2 2), cA I (qo 4) 8 (o.2 3)]) (wO I qo (qs 0) (qa 0) (xs o.1 0 (0 : Int32), o.2) ++ wS I qo qs a ++ wS I qo qa a) [10, 11, 12, 13, 14, 5, 6, 7, 8, 9] [0, 1, 2, 3, 4] [0, 1, 2, 3, 4, 10, 11, 12, 13, 14, 5, 6, 7, 8, 9] hP hD hS hA (va_runV (As := [.ref (qs 0)]) (rest := []) ⟨hx, hb, hml, hown, hts⟩ (c_X3_become l D I qo qa qs H.size z a ) (cwV 1 hts gX4_foresee_X3_become rfl rfl rfl (by decide +kernel) ⟨Nat.le_of_ble_eq_true rfl, Nat.le_of_ble_eq_true rfl⟩) (xk_preV (wc := wS I qo qa z ++ wS I qo qs a) (q0 := 10) (ci := 3) hN hP hK hD [10, 11, 12, 13, 14, 5, 6, 7, 8, 9] rfl rfl rfl rfl) rfl rfl hl.1 rfl (lv_room (Nat.le_of_ble_eq_true rfl)) dX4_foresee_45 ⟨Nat.le_of_ble_eq_true rfl, Nat.le_of_ble_eq_true rfl⟩) rfl rfl rfl (by decide) rfl rfl (fun H locs hP hD hS => ?_)
      refine lv_aload_n hx hb dX4_foresee_48 rfl (lv_at hl 0 rfl) ?_
      refine va_get (D := D) (ci := 4) (v := .ref (qa 0)) (C := RX4) (T := TX4) (N := 8) hx hb hts hinX4 hown hK hP 0 rfl rfl 7 (by decide) w_2 (fun _ h9 => h9) rfl dX4_foresee_49 ?_
      refine lv_iload_n hx hb dX4_foresee_52 rfl (lv_at hl 1 rfl) ?_
      refine xk_callv ([cMS qo qs a.1, cA I (qs 1) 40 (a.2 0), cA I (qs 2) 40 (a.2 1), cA I (qs 3) 40 (a.2 2), cA I (qs 4) 40 (a.2 3)]) (wO I qo (qs 0) (qa 0) (xs o.1 0 (0 : Int32), o.2) ++ wS I qo qs a ++ wS I qo qa (s_X3_pass_ (xs o.1 0 (0 : Int32), o.2) a mi)) [0, 1, 2, 3, 4, 10, 11, 12, 13, 14] [5, 6, 7, 8, 9] [5, 6, 7, 8, 9, 0, 1, 2, 3, 4, 10, 11, 12, 13, 14] hP hD hS hA (va_runV (As := [.int mi]) (rest := []) ⟨hx, hb, hml, hown, hts⟩ (c_X3_pass_ l D I qo (qs 0) (qa 0) qa H.size (xs o.1 0 (0 : Int32), o.2) a mi hn hp hm1 hm2 (isIn_mi c_1).1 (isIn_mi c_1).2) (cwV 1 hts gX4_foresee_X3_pass_ rfl rfl rfl (by decide +kernel) ⟨Nat.le_of_ble_eq_true rfl, Nat.le_of_ble_eq_true rfl⟩) (xk_preV (wc := wO I qo (qs 0) (qa 0) (xs o.1 0 (0 : Int32), o.2) ++ wS I qo qa a) (q0 := 10) (ci := 3) hN hP hK hD [0, 1, 2, 3, 4, 10, 11, 12, 13, 14] rfl rfl rfl rfl) rfl rfl hl.1 rfl (lv_room (Nat.le_of_ble_eq_true rfl)) dX4_foresee_53 ⟨Nat.le_of_ble_eq_true rfl, Nat.le_of_ble_eq_true rfl⟩) rfl rfl rfl (by decide) rfl rfl (fun H locs hP hD hS => ?_)
      generalize hz_1 : s_X3_pass_ (xs o.1 0 (0 : Int32), o.2) a mi = z_1 at hP hD
      have hg_1 : g1_X4_foresee o a mi wh = z_1 := by rw [← hz_1]; rfl
      refine lv_iload_n hx hb dX4_foresee_56 rfl (lv_at hl 2 rfl) ?_
      refine lv_if_ne (tgt := 80) hx hb dX4_foresee_57 (by decide) (fun c_3 => ?_) (fun c_3 => ?_)
      · refine lv_iload_n hx hb dX4_foresee_80 rfl (lv_at hl 2 rfl) ?_
        refine lv_iconst (v := (1 : Int32)) hx hb dX4_foresee_81 (by decide) ?_
        refine lv_icmp_ne (tgt := 103) hx hb dX4_foresee_82 (by decide) (fun c_4 => ?_) (fun c_4 => ?_)
        · refine lv_iload_n hx hb dX4_foresee_103 rfl (lv_at hl 2 rfl) ?_
          refine lv_iconst (v := (2 : Int32)) hx hb dX4_foresee_104 (by decide) ?_
          refine lv_icmp_ne (tgt := 118) hx hb dX4_foresee_105 (by decide) (fun c_5 => ?_) (fun c_5 => ?_)
          · refine lv_aload_n hx hb dX4_foresee_118 rfl (lv_at hl 0 rfl) ?_
            refine va_get (D := D) (ci := 4) (v := .ref (qa 0)) (C := RX4) (T := TX4) (N := 8) hx hb hts hinX4 hown hK hP 0 rfl rfl 7 (by decide) w_2 (fun _ h9 => h9) rfl dX4_foresee_119 ?_
            refine va_getN (D := D) (ci := 3) (v := .int (z_1.1 3)) (C := RX3) (T := TX3) (N := 12) hx hb hts hinX3 hown hK hP 10 rfl rfl 3 (by decide) (hN.use 6 rfl) (fun _ h9 => h9) rfl dX4_foresee_122 ?_
            exact xk_iretE (wf := fun (z : MO × MS) (v : MS) => wO I qo (qs 0) (qa 0) z.1 ++ wS I qo qs z.2 ++ wS I qo qa v) (u := ((xs o.1 0 (0 : Int32), o.2), a)) (u1 := ((s_X4_foresee o a mi wh), a)) z_1 hx hb hr rfl hlocks hP hK hD hS (by subst hg_1; unfold r_X4_foresee; rw [if_neg c_1, if_neg c_2, if_neg c_3, if_neg c_4, if_neg c_5]) (by subst hg_1; unfold s_X4_foresee; rw [if_neg c_1, if_neg c_2, if_neg c_3, if_neg c_4, if_neg c_5]) dX4_foresee_125
          · refine lv_aload_n hx hb dX4_foresee_108 rfl (lv_at hl 0 rfl) ?_
            refine va_get (D := D) (ci := 4) (v := .ref (qa 0)) (C := RX4) (T := TX4) (N := 8) hx hb hts hinX4 hown hK hP 0 rfl rfl 7 (by decide) w_2 (fun _ h9 => h9) rfl dX4_foresee_109 ?_
            refine va_getN (D := D) (ci := 3) (v := .int (z_1.1 1)) (C := RX3) (T := TX3) (N := 12) hx hb hts hinX3 hown hK hP 10 rfl rfl 1 (by decide) (hN.use 4 rfl) (fun _ h9 => h9) rfl dX4_foresee_112 ?_
            refine lv_goto (tgt := 125) hx hb dX4_foresee_115 (by decide) ?_
            exact xk_iretE (wf := fun (z : MO × MS) (v : MS) => wO I qo (qs 0) (qa 0) z.1 ++ wS I qo qs z.2 ++ wS I qo qa v) (u := ((xs o.1 0 (0 : Int32), o.2), a)) (u1 := ((s_X4_foresee o a mi wh), a)) z_1 hx hb hr rfl hlocks hP hK hD hS (by subst hg_1; unfold r_X4_foresee; rw [if_neg c_1, if_neg c_2, if_neg c_3, if_neg c_4, if_pos c_5]) (by subst hg_1; unfold s_X4_foresee; rw [if_neg c_1, if_neg c_2, if_neg c_3, if_neg c_4, if_pos c_5]) dX4_foresee_125
        · refine lv_aload_n hx hb dX4_foresee_85 rfl (lv_at hl 0 rfl) ?_
          refine va_get (D := D) (ci := 4) (v := .ref (qa 0)) (C := RX4) (T := TX4) (N := 8) hx hb hts hinX4 hown hK hP 0 rfl rfl 7 (by decide) w_2 (fun _ h9 => h9) rfl dX4_foresee_86 ?_
          refine xk_calli ([cMS qo qs a.1, cA I (qs 1) 40 (a.2 0), cA I (qs 2) 40 (a.2 1), cA I (qs 3) 40 (a.2 2), cA I (qs 4) 40 (a.2 3)]) (wO I qo (qs 0) (qa 0) (xs o.1 0 (0 : Int32), o.2) ++ wS I qo qs a ++ wS I qo qa z_1) [0, 1, 2, 3, 4, 10, 11, 12, 13, 14] [5, 6, 7, 8, 9] [5, 6, 7, 8, 9, 0, 1, 2, 3, 4, 10, 11, 12, 13, 14] hP hD hS hA (va_runV (As := []) (rest := []) ⟨hx, hb, hml, hown, hts⟩ (c_X3_sumWaited l D I qo (qs 0) (qa 0) qa H.size (xs o.1 0 (0 : Int32), o.2) z_1 hn) (cwV 0 hts gX4_foresee_X3_sumWaited rfl rfl rfl (by decide +kernel) ⟨Nat.le_of_ble_eq_true rfl, Nat.le_of_ble_eq_true rfl⟩) (xk_preV (wc := wO I qo (qs 0) (qa 0) (xs o.1 0 (0 : Int32), o.2) ++ wS I qo qa z_1) (q0 := 10) (ci := 3) hN hP hK hD [0, 1, 2, 3, 4, 10, 11, 12, 13, 14] rfl rfl rfl rfl) rfl rfl hl.1 rfl (lv_room (Nat.le_of_ble_eq_true rfl)) dX4_foresee_89 ⟨Nat.le_of_ble_eq_true rfl, Nat.le_of_ble_eq_true rfl⟩) rfl rfl rfl (by decide) rfl rfl (fun H locs hP hD hS => ?_)
          refine lv_aload_n hx hb dX4_foresee_92 rfl (lv_at hl 0 rfl) ?_
          refine va_get (D := D) (ci := 4) (v := .ref (qs 0)) (C := RX4) (T := TX4) (N := 8) hx hb hts hinX4 hown hK hP 0 rfl rfl 6 (by decide) w_3 (fun _ h9 => h9) rfl dX4_foresee_93 ?_
          refine xk_calli ([cMS qo qa z_1.1, cA I (qa 1) 40 (z_1.2 0), cA I (qa 2) 40 (z_1.2 1), cA I (qa 3) 40 (z_1.2 2), cA I (qa 4) 40 (z_1.2 3)]) (wO I qo (qs 0) (qa 0) (xs o.1 0 (0 : Int32), o.2) ++ wS I qo qs a ++ wS I qo qa z_1) [0, 1, 2, 3, 4, 5, 6, 7, 8, 9] [10, 11, 12, 13, 14] [5, 6, 7, 8, 9, 10, 11, 12, 13, 14, 0, 1, 2, 3, 4] hP hD hS hA (va_runV (As := []) (rest := [.int (r_X3_sumWaited (xs o.1 0 (0 : Int32), o.2) z_1)]) ⟨hx, hb, hml, hown, hts⟩ (c_X3_sumWaited l D I qo (qs 0) (qa 0) qs H.size (xs o.1 0 (0 : Int32), o.2) a hn) (cwV 0 hts gX4_foresee_X3_sumWaited rfl rfl rfl (by decide +kernel) ⟨Nat.le_of_ble_eq_true rfl, Nat.le_of_ble_eq_true rfl⟩) (xk_preV (wc := wO I qo (qs 0) (qa 0) (xs o.1 0 (0 : Int32), o.2) ++ wS I qo qs a) (q0 := 5) (ci := 3) hN hP hK hD [0, 1, 2, 3, 4, 5, 6, 7, 8, 9] rfl rfl rfl rfl) rfl rfl hl.1 rfl (lv_room (Nat.le_of_ble_eq_true rfl)) dX4_foresee_96 ⟨Nat.le_of_ble_eq_true rfl, Nat.le_of_ble_eq_true rfl⟩) rfl rfl rfl (by decide) rfl rfl (fun H locs hP hD hS => ?_)
          refine lv_isub hx hb dX4_foresee_99 ?_
          refine lv_goto (tgt := 125) hx hb dX4_foresee_100 (by decide) ?_
          exact xk_iretE (wf := fun (z : MO × MS) (v : MS) => wO I qo (qs 0) (qa 0) z.1 ++ wS I qo qs z.2 ++ wS I qo qa v) (u := ((xs o.1 0 (0 : Int32), o.2), a)) (u1 := ((s_X4_foresee o a mi wh), a)) z_1 hx hb hr rfl hlocks hP hK hD hS (by subst hg_1; unfold r_X4_foresee; rw [if_neg c_1, if_neg c_2, if_neg c_3, if_pos c_4]) (by subst hg_1; unfold s_X4_foresee; rw [if_neg c_1, if_neg c_2, if_neg c_3, if_pos c_4]) dX4_foresee_125
      · refine lv_aload_n hx hb dX4_foresee_60 rfl (lv_at hl 0 rfl) ?_
        refine va_get (D := D) (ci := 4) (v := .ref (qa 0)) (C := RX4) (T := TX4) (N := 8) hx hb hts hinX4 hown hK hP 0 rfl rfl 7 (by decide) w_2 (fun _ h9 => h9) rfl dX4_foresee_61 ?_
        refine lv_iconst (v := (2 : Int32)) hx hb dX4_foresee_64 (by decide) ?_
        refine lv_iconst (v := (2 : Int32)) hx hb dX4_foresee_65 (by decide) ?_
        refine xk_calli ([cMS qo qs a.1, cA I (qs 1) 40 (a.2 0), cA I (qs 2) 40 (a.2 1), cA I (qs 3) 40 (a.2 2), cA I (qs 4) 40 (a.2 3)]) (wO I qo (qs 0) (qa 0) (xs o.1 0 (0 : Int32), o.2) ++ wS I qo qs a ++ wS I qo qa z_1) [0, 1, 2, 3, 4, 10, 11, 12, 13, 14] [5, 6, 7, 8, 9] [5, 6, 7, 8, 9, 0, 1, 2, 3, 4, 10, 11, 12, 13, 14] hP hD hS hA (va_runV (As := [.int (2 : Int32), .int (2 : Int32)]) (rest := []) ⟨hx, hb, hml, hown, hts⟩ (c_X3_are l D I qo (qs 0) (qa 0) qa H.size (xs o.1 0 (0 : Int32), o.2) z_1 (2 : Int32) (2 : Int32) hn) (cwV 2 hts gX4_foresee_X3_are rfl rfl rfl (by decide +kernel) ⟨Nat.le_of_ble_eq_true rfl, Nat.le_of_ble_eq_true rfl⟩) (xk_preV (wc := wO I qo (qs 0) (qa 0) (xs o.1 0 (0 : Int32), o.2) ++ wS I qo qa z_1) (q0 := 10) (ci := 3) hN hP hK hD [0, 1, 2, 3, 4, 10, 11, 12, 13, 14] rfl rfl rfl rfl) rfl rfl hl.1 rfl (lv_room (Nat.le_of_ble_eq_true rfl)) dX4_foresee_66 ⟨Nat.le_of_ble_eq_true rfl, Nat.le_of_ble_eq_true rfl⟩) rfl rfl rfl (by decide) rfl rfl (fun H locs hP hD hS => ?_)
        refine lv_aload_n hx hb dX4_foresee_69 rfl (lv_at hl 0 rfl) ?_
        refine va_get (D := D) (ci := 4) (v := .ref (qs 0)) (C := RX4) (T := TX4) (N := 8) hx hb hts hinX4 hown hK hP 0 rfl rfl 6 (by decide) w_3 (fun _ h9 => h9) rfl dX4_foresee_70 ?_
        refine lv_iconst (v := (2 : Int32)) hx hb dX4_foresee_73 (by decide) ?_
        refine lv_iconst (v := (2 : Int32)) hx hb dX4_foresee_74 (by decide) ?_
        refine xk_calli ([cMS qo qa z_1.1, cA I (qa 1) 40 (z_1.2 0), cA I (qa 2) 40 (z_1.2 1), cA I (qa 3) 40 (z_1.2 2), cA I (qa 4) 40 (z_1.2 3)]) (wO I qo (qs 0) (qa 0) (xs o.1 0 (0 : Int32), o.2) ++ wS I qo qs a ++ wS I qo qa z_1) [0, 1, 2, 3, 4, 5, 6, 7, 8, 9] [10, 11, 12, 13, 14] [5, 6, 7, 8, 9, 10, 11, 12, 13, 14, 0, 1, 2, 3, 4] hP hD hS hA (va_runV (As := [.int (2 : Int32), .int (2 : Int32)]) (rest := [.int (r_X3_are (xs o.1 0 (0 : Int32), o.2) z_1 (2 : Int32) (2 : Int32))]) ⟨hx, hb, hml, hown, hts⟩ (c_X3_are l D I qo (qs 0) (qa 0) qs H.size (xs o.1 0 (0 : Int32), o.2) a (2 : Int32) (2 : Int32) hn) (cwV 2 hts gX4_foresee_X3_are rfl rfl rfl (by decide +kernel) ⟨Nat.le_of_ble_eq_true rfl, Nat.le_of_ble_eq_true rfl⟩) (xk_preV (wc := wO I qo (qs 0) (qa 0) (xs o.1 0 (0 : Int32), o.2) ++ wS I qo qs a) (q0 := 5) (ci := 3) hN hP hK hD [0, 1, 2, 3, 4, 5, 6, 7, 8, 9] rfl rfl rfl rfl) rfl rfl hl.1 rfl (lv_room (Nat.le_of_ble_eq_true rfl)) dX4_foresee_75 ⟨Nat.le_of_ble_eq_true rfl, Nat.le_of_ble_eq_true rfl⟩) rfl rfl rfl (by decide) rfl rfl (fun H locs hP hD hS => ?_)
        refine lv_isub hx hb dX4_foresee_78 ?_
        exact xk_iretE (wf := fun (z : MO × MS) (v : MS) => wO I qo (qs 0) (qa 0) z.1 ++ wS I qo qs z.2 ++ wS I qo qa v) (u := ((xs o.1 0 (0 : Int32), o.2), a)) (u1 := ((s_X4_foresee o a mi wh), a)) z_1 hx hb hr rfl hlocks hP hK hD hS (by subst hg_1; unfold r_X4_foresee; rw [if_neg c_1, if_neg c_2, if_pos c_3]) (by subst hg_1; unfold s_X4_foresee; rw [if_neg c_1, if_neg c_2, if_pos c_3]) dX4_foresee_79
    · refine lv_aload_n hx hb dX4_foresee_31 rfl (lv_at hl 0 rfl) ?_
      refine lv_iconst (v := (2 : Int32)) hx hb dX4_foresee_32 (by decide) ?_
      refine xk_calli ([cMS qo qs a.1, cA I (qs 1) 40 (a.2 0), cA I (qs 2) 40 (a.2 1), cA I (qs 3) 40 (a.2 2), cA I (qs 4) 40 (a.2 3), cMS qo qa z.1, cA I (qa 1) 40 (z.2 0), cA I (qa 2) 40 (z.2 1), cA I (qa 3) 40 (z.2 2), cA I (qa 4) 40 (z.2 3)]) (wO I qo (qs 0) (qa 0) (s_X4_no (xs o.1 0 (0 : Int32), o.2) (2 : Int32)) ++ wS I qo qs a ++ wS I qo qa z) [0, 1, 2, 3, 4] [5, 6, 7, 8, 9, 10, 11, 12, 13, 14] [10, 11, 12, 13, 14, 0, 1, 2, 3, 4, 5, 6, 7, 8, 9] hP hD hS hA (va_runV (As := [.int (2 : Int32)]) (rest := []) ⟨hx, hb, hml, hown, hts⟩ (c_X4_no l D I qo (qs 0) (qa 0) H.size (xs o.1 0 (0 : Int32), o.2) (2 : Int32) ) (cwV 1 hts gX4_foresee_X4_no rfl rfl rfl (by decide +kernel) ⟨Nat.le_of_ble_eq_true rfl, Nat.le_of_ble_eq_true rfl⟩) (xk_preV (wc := wO I qo (qs 0) (qa 0) (xs o.1 0 (0 : Int32), o.2)) (q0 := 0) (ci := 4) hN hP hK hD [0, 1, 2, 3, 4] rfl rfl rfl rfl) rfl rfl hl.1 rfl (lv_room (Nat.le_of_ble_eq_true rfl)) dX4_foresee_33 ⟨Nat.le_of_ble_eq_true rfl, Nat.le_of_ble_eq_true rfl⟩) rfl rfl rfl (by decide) rfl rfl (fun H locs hP hD hS => ?_)
      generalize hz_2 : s_X4_no (xs o.1 0 (0 : Int32), o.2) (2 : Int32) = z_2 at hP hD
      have hg_2 : g2_X4_foresee o a mi wh = z_2 := by rw [← hz_2]; rfl
      exact xk_iretE (wf := fun (z : MO × MS) (v : MS) => wO I qo (qs 0) (qa 0) z.1 ++ wS I qo qs z.2 ++ wS I qo qa v) (u := (z_2, a)) (u1 := ((s_X4_foresee o a mi wh), a)) z hx hb hr rfl hlocks hP hK hD hS (by subst hg_2; unfold r_X4_foresee; rw [if_neg c_1, if_pos c_2]) (by subst hg_2; unfold s_X4_foresee; rw [if_neg c_1, if_pos c_2]) dX4_foresee_36
  · refine lv_aload_n hx hb dX4_foresee_16 rfl (lv_at hl 0 rfl) ?_
    refine lv_iconst (v := (1 : Int32)) hx hb dX4_foresee_17 (by decide) ?_
    refine xk_calli ([cMS qo qs a.1, cA I (qs 1) 40 (a.2 0), cA I (qs 2) 40 (a.2 1), cA I (qs 3) 40 (a.2 2), cA I (qs 4) 40 (a.2 3), cMS qo qa z.1, cA I (qa 1) 40 (z.2 0), cA I (qa 2) 40 (z.2 1), cA I (qa 3) 40 (z.2 2), cA I (qa 4) 40 (z.2 3)]) (wO I qo (qs 0) (qa 0) (s_X4_no (xs o.1 0 (0 : Int32), o.2) (1 : Int32)) ++ wS I qo qs a ++ wS I qo qa z) [0, 1, 2, 3, 4] [5, 6, 7, 8, 9, 10, 11, 12, 13, 14] [10, 11, 12, 13, 14, 0, 1, 2, 3, 4, 5, 6, 7, 8, 9] hP hD hS hA (va_runV (As := [.int (1 : Int32)]) (rest := []) ⟨hx, hb, hml, hown, hts⟩ (c_X4_no l D I qo (qs 0) (qa 0) H.size (xs o.1 0 (0 : Int32), o.2) (1 : Int32) ) (cwV 1 hts gX4_foresee_X4_no rfl rfl rfl (by decide +kernel) ⟨Nat.le_of_ble_eq_true rfl, Nat.le_of_ble_eq_true rfl⟩) (xk_preV (wc := wO I qo (qs 0) (qa 0) (xs o.1 0 (0 : Int32), o.2)) (q0 := 0) (ci := 4) hN hP hK hD [0, 1, 2, 3, 4] rfl rfl rfl rfl) rfl rfl hl.1 rfl (lv_room (Nat.le_of_ble_eq_true rfl)) dX4_foresee_18 ⟨Nat.le_of_ble_eq_true rfl, Nat.le_of_ble_eq_true rfl⟩) rfl rfl rfl (by decide) rfl rfl (fun H locs hP hD hS => ?_)
    generalize hz_3 : s_X4_no (xs o.1 0 (0 : Int32), o.2) (1 : Int32) = z_3 at hP hD
    have hg_3 : g3_X4_foresee o a mi wh = z_3 := by rw [← hz_3]; rfl
    exact xk_iretE (wf := fun (z : MO × MS) (v : MS) => wO I qo (qs 0) (qa 0) z.1 ++ wS I qo qs z.2 ++ wS I qo qa v) (u := (z_3, a)) (u1 := ((s_X4_foresee o a mi wh), a)) z hx hb hr rfl hlocks hP hK hD hS (by subst hg_3; unfold r_X4_foresee; rw [if_pos c_1]) (by subst hg_3; unfold s_X4_foresee; rw [if_pos c_1]) dX4_foresee_21

/-- behind how many minutes it has passed -/
def m_when (o : MO) (k : Int32) : Nat → Nat → MS → Int32
  | 0, _, _ => -1
  | r + 1, j, z => if z.2 0 k.toNatClampNeg = 2 then nI j else m_when o k r (j + 1) (s_X3_pass o z)

def g2_X4_when (o : MO) (a : MS) (k : Int32) : MO := s_X4_no (xs o.1 0 (0 : Int32), o.2) (1 : Int32)
def r_X4_when (o : MO) (a : MS) (k : Int32) : Int32 :=
  if (r_X4_isTraveller (xs o.1 0 (0 : Int32), o.2) k) = 0 then
    (r_X4_no (xs o.1 0 (0 : Int32), o.2) (1 : Int32))
  else
    m_when (xs o.1 0 (0 : Int32), o.2) k 401 0 a
def s_X4_when (o : MO) (a : MS) (k : Int32) : MO :=
  if (r_X4_isTraveller (xs o.1 0 (0 : Int32), o.2) k) = 0 then
    (g2_X4_when o a k)
  else
    (xs o.1 0 (0 : Int32), o.2)
set_option maxHeartbeats 800000 in
set_option maxRecDepth 100000 in
theorem c_X4_when (l : Launch) (D : va_G) (I : ClassId) (qo qs qa : Nat → Nat) (sz : Nat) (o : MO) (a : MS) (z : MS) (k : Int32) (hn : nOk (o.1 1)) (hp : pOk (a.1 5)) (hm1 : 0 ≤ (a.1 0).toInt) (hm2 : (a.1 0).toInt < 1000000000) : xMiE l D [(I, .int)] yX4_when wsX4_when { frames := 4, cells := 0, slots := 0, locals := 79 } [.ref (qo 0), .int k] sz (wO I qo (qs 0) (qa 0) o ++ wS I qo qs a ++ wS I qo qa z) MS (r_X4_when o a k) (fun v : MS => wO I qo (qs 0) (qa 0) (s_X4_when o a k) ++ wS I qo qs a ++ wS I qo qa v) 0 0 := by
  refine xk_start (cc := cX4_when) (maxL := 3) (ret := (some .int)) (Qf := fun A => xQiE D [(I, .int)] A MS (r_X4_when o a k) (fun v : MS => wO I qo (qs 0) (qa 0) (s_X4_when o a k) ++ wS I qo qs a ++ wS I qo qa v)) (by decide) rfl (Nat.le_of_ble_eq_true rfl) ?_
  intro p e s m below meth c A H ls hst hAe hsz hl
  obtain ⟨hx, hb, hr, hts, hown, hlocks, hml, hin, hN, hK, hP, hD, hA, hS⟩ := hst
  have hl : lv_has ls 3 [(0, .ref (qo 0)), (1, .int k)] := hl
  have hP : va_P D vwCl (wO I qo (qs 0) (qa 0) o ++ wS I qo qs a ++ wS I qo qa z) H := hP
  have hinX4 : ∀ w ∈ u_ws RX4 TX4 8, w ∈ wsX4_when := by decide +kernel
  have hinX3 : ∀ w ∈ u_ws RX3 TX3 12, w ∈ wsX4_when := by decide +kernel
  have w_1 := hts (.fieldLink RX4 34 "BridgeBellsModel" "thrown" "I") (by decide +kernel)
  have w_2 := hts (.fieldLink RX4 31 "BridgeBellsModel" "ahead" "LBridgeBellsModel$State;") (by decide +kernel)
  have w_3 := hts (.fieldLink RX4 27 "BridgeBellsModel" "s" "LBridgeBellsModel$State;") (by decide +kernel)
  refine lv_aload_n hx hb dX4_when_0 rfl (lv_at hl 0 rfl) ?_
  refine lv_iconst (v := (0 : Int32)) hx hb dX4_when_1 (by decide) ?_
  refine va_put (D := D) (ci := 4) (v := .int (0 : Int32)) (ty := tyX4 0) (C := RX4) (T := TX4) (N := 8) hx hb hts hinX4 tyX4 tyX4_ok nmX4 hown hK hP hD hS 0 rfl rfl 0 (by decide) w_1 (fun _ h9 => h9) rfl (tyX4_ok 0 (by decide)) rfl rfl (Nat.le_of_ble_eq_true rfl) dX4_when_2 (fun H locs hP hD hS => ?_)
  have hP : va_P D vwCl (wO I qo (qs 0) (qa 0) (xs o.1 0 (0 : Int32), o.2) ++ wS I qo qs a ++ wS I qo qa z) H := hP
  have hD : va_D A (wO I qo (qs 0) (qa 0) (xs o.1 0 (0 : Int32), o.2) ++ wS I qo qs a ++ wS I qo qa z) := hD
  refine lv_aload_n hx hb dX4_when_5 rfl (lv_at hl 0 rfl) ?_
  refine lv_iload_n hx hb dX4_when_6 rfl (lv_at hl 1 rfl) ?_
  refine xk_calli ([cMS qo qs a.1, cA I (qs 1) 40 (a.2 0), cA I (qs 2) 40 (a.2 1), cA I (qs 3) 40 (a.2 2), cA I (qs 4) 40 (a.2 3), cMS qo qa z.1, cA I (qa 1) 40 (z.2 0), cA I (qa 2) 40 (z.2 1), cA I (qa 3) 40 (z.2 2), cA I (qa 4) 40 (z.2 3)]) (wO I qo (qs 0) (qa 0) (xs o.1 0 (0 : Int32), o.2) ++ wS I qo qs a ++ wS I qo qa z) [0, 1, 2, 3, 4] [5, 6, 7, 8, 9, 10, 11, 12, 13, 14] [10, 11, 12, 13, 14, 0, 1, 2, 3, 4, 5, 6, 7, 8, 9] hP hD hS hA (va_runV (As := [.int k]) (rest := []) ⟨hx, hb, hml, hown, hts⟩ (c_X4_isTraveller l D I qo (qs 0) (qa 0) H.size (xs o.1 0 (0 : Int32), o.2) k ) (cwV 1 hts gX4_when_X4_isTraveller rfl rfl rfl (by decide +kernel) ⟨Nat.le_of_ble_eq_true rfl, Nat.le_of_ble_eq_true rfl⟩) (xk_preV (wc := wO I qo (qs 0) (qa 0) (xs o.1 0 (0 : Int32), o.2)) (q0 := 0) (ci := 4) hN hP hK hD [0, 1, 2, 3, 4] rfl rfl rfl rfl) rfl rfl hl.1 rfl (lv_room (Nat.le_of_ble_eq_true rfl)) dX4_when_7 ⟨Nat.le_of_ble_eq_true rfl, Nat.le_of_ble_eq_true rfl⟩) rfl rfl rfl (by decide) rfl rfl (fun H locs hP hD hS => ?_)
  refine lv_if_ne (tgt := 19) hx hb dX4_when_10 (by decide) (fun c_1 => ?_) (fun c_1 => ?_)
  · refine lv_aload_n hx hb dX4_when_19 rfl (lv_at hl 0 rfl) ?_
    refine va_get (D := D) (ci := 4) (v := .ref (qa 0)) (C := RX4) (T := TX4) (N := 8) hx hb hts hinX4 hown hK hP 0 rfl rfl 7 (by decide) w_2 (fun _ h9 => h9) rfl dX4_when_20 ?_
    refine lv_aload_n hx hb dX4_when_23 rfl (lv_at hl 0 rfl) ?_
    refine va_get (D := D) (ci := 4) (v := .ref (qs 0)) (C := RX4) (T := TX4) (N := 8) hx hb hts hinX4 hown hK hP 0 rfl rfl 6 (by decide) w_3 (fun _ h9 => h9) rfl dX4_when_24 ?_
    refine xk_callv ([cMO qo (qs 0) (qa 0) (xs o.1 0 (0 : Int32)), cA I (qo 1) 40 (o.2 0), cA I (qo 2) 40 (o.2 1), cA I (qo 3) 40 (o.2 2), cA I (qo 4) 8 (o.2 3)]) (wO I qo (qs 0) (qa 0) (xs o.1 0 (0 : Int32), o.2) ++ wS I qo qs a ++ wS I qo qa a) [10, 11, 12, 13, 14, 5, 6, 7, 8, 9] [0, 1, 2, 3, 4] [0, 1, 2, 3, 4, 10, 11, 12, 13, 14, 5, 6, 7, 8, 9] hP hD hS hA (va_runV (As := [.ref (qs 0)]) (rest := []) ⟨hx, hb, hml, hown, hts⟩ (c_X3_become l D I qo qa qs H.size z a ) (cwV 1 hts gX4_when_X3_become rfl rfl rfl (by decide +kernel) ⟨Nat.le_of_ble_eq_true rfl, Nat.le_of_ble_eq_true rfl⟩) (xk_preV (wc := wS I qo qa z ++ wS I qo qs a) (q0 := 10) (ci := 3) hN hP hK hD [10, 11, 12, 13, 14, 5, 6, 7, 8, 9] rfl rfl rfl rfl) rfl rfl hl.1 rfl (lv_room (Nat.le_of_ble_eq_true rfl)) dX4_when_27 ⟨Nat.le_of_ble_eq_true rfl, Nat.le_of_ble_eq_true rfl⟩) rfl rfl rfl (by decide) rfl rfl (fun H locs hP hD hS => ?_)
    refine lv_iconst (v := (0 : Int32)) hx hb dX4_when_30 (by decide) ?_
    refine lv_istore_n (lv' := [(2, .int (0 : Int32)), (0, .ref (qo 0)), (1, .int k)]) hx hb dX4_when_31 rfl hl (by decide) rfl (fun ls hl => ?_)
    have hk : vp_in k 40 := isTr_v (o := (xs o.1 0 (0 : Int32), o.2)) hn c_1
    have e9 : r_X4_when o a k = m_when (xs o.1 0 (0 : Int32), o.2) k 401 0 a := by unfold r_X4_when; rw [if_neg c_1]
    have e8 : s_X4_when o a k = (xs o.1 0 (0 : Int32), o.2) := by unfold s_X4_when; rw [if_neg c_1]
    rw [e9, e8]
    have loop : ∀ (r j : Nat) (z : MS), r + j = 401 → pOk (z.1 5) → 0 ≤ (z.1 0).toInt → (z.1 0).toInt + r < 2000000000 → ∀ (H : Heap) (locs : List Loc), va_P D vwCl (wO I qo (qs 0) (qa 0) (xs o.1 0 (0 : Int32), o.2) ++ wS I qo qs a ++ wS I qo qa z) H → va_D A (wO I qo (qs 0) (qa 0) (xs o.1 0 (0 : Int32), o.2) ++ wS I qo qs a ++ wS I qo qa z) → va_S A s.heap H locs → ∀ ls, lv_has ls 3 [(2, .int (nI j)), (0, .ref (qo 0)), (1, .int k)] → W p l e { frames := 4, cells := 0, slots := 0, locals := 79 } s m #[.ref (qo 0), .int k] below meth c H locs 0 0 (MQ below (xQiE D [(I, .int)] A MS (m_when (xs o.1 0 (0 : Int32), o.2) k r j z) (fun v : MS => wO I qo (qs 0) (qa 0) (xs o.1 0 (0 : Int32), o.2) ++ wS I qo qs a ++ wS I qo qa v)) #[.ref (qo 0), .int k] s 0 0 A) (F0 m 32 ls []) := by
      intro r
      induction r with
      | zero =>
        intro j z hj hp hm1 hm2 H locs hP hD hS ls hl
        refine lv_iload_n hx hb dX4_when_32 rfl (lv_at hl 0 rfl) ?_
        refine lv_sipush (v := (400 : Int32)) hx hb dX4_when_33 (by decide) ?_
        refine lv_icmp_gt (tgt := 67) hx hb dX4_when_36 (by decide) (fun c_2 => ?_) (fun c_2 => ?_)
        · refine lv_iconst (v := (-1 : Int32)) hx hb dX4_when_67 (by decide) ?_
          exact xk_iretE (wf := fun (z : MO × MS) (v : MS) => wO I qo (qs 0) (qa 0) z.1 ++ wS I qo qs z.2 ++ wS I qo qa v) (u := ((xs o.1 0 (0 : Int32), o.2), a)) (u1 := ((xs o.1 0 (0 : Int32), o.2), a)) z hx hb hr rfl hlocks hP hK hD hS rfl rfl dX4_when_68
        · exact absurd (lt_nI (k := 400) (by decide) (by omega) (by omega)) c_2
      | succ r ih =>
        intro j z hj hp hm1 hm2 H locs hP hD hS ls hl
        refine lv_iload_n hx hb dX4_when_32 rfl (lv_at hl 0 rfl) ?_
        refine lv_sipush (v := (400 : Int32)) hx hb dX4_when_33 (by decide) ?_
        refine lv_icmp_gt (tgt := 67) hx hb dX4_when_36 (by decide) (fun c_3 => ?_) (fun c_3 => ?_)
        · exact absurd c_3 (nlt_nI (k := 400) (by decide) (by omega) (by omega))
        · refine lv_aload_n hx hb dX4_when_39 rfl (lv_at hl 1 rfl) ?_
          refine va_get (D := D) (ci := 4) (v := .ref (qa 0)) (C := RX4) (T := TX4) (N := 8) hx hb hts hinX4 hown hK hP 0 rfl rfl 7 (by decide) w_2 (fun _ h9 => h9) rfl dX4_when_40 ?_
          refine va_getN (D := D) (ci := 3) (v := .ref (qa 1)) (C := RX3) (T := TX3) (N := 12) hx hb hts hinX3 hown hK hP 10 rfl rfl 7 (by decide) (hN.use 8 rfl) (fun _ h9 => h9) rfl dX4_when_43 ?_
          refine lv_iload_n hx hb dX4_when_46 rfl (lv_at hl 2 rfl) ?_
          refine va_iald (f := (z.2 0)) hx hb hK hP 11 0 rfl rfl (show vp_in k 40 from hk) dX4_when_47 ?_
          refine lv_iconst (v := (2 : Int32)) hx hb dX4_when_48 (by decide) ?_
          refine lv_icmp_ne (tgt := 54) hx hb dX4_when_49 (by decide) (fun c_4 => ?_) (fun c_4 => ?_)
          · refine lv_aload_n hx hb dX4_when_54 rfl (lv_at hl 1 rfl) ?_
            refine va_get (D := D) (ci := 4) (v := .ref (qa 0)) (C := RX4) (T := TX4) (N := 8) hx hb hts hinX4 hown hK hP 0 rfl rfl 7 (by decide) w_2 (fun _ h9 => h9) rfl dX4_when_55 ?_
            refine xk_callv ([cMS qo qs a.1, cA I (qs 1) 40 (a.2 0), cA I (qs 2) 40 (a.2 1), cA I (qs 3) 40 (a.2 2), cA I (qs 4) 40 (a.2 3)]) (wO I qo (qs 0) (qa 0) (xs o.1 0 (0 : Int32), o.2) ++ wS I qo qs a ++ wS I qo qa (s_X3_pass (xs o.1 0 (0 : Int32), o.2) z)) [0, 1, 2, 3, 4, 10, 11, 12, 13, 14] [5, 6, 7, 8, 9] [5, 6, 7, 8, 9, 0, 1, 2, 3, 4, 10, 11, 12, 13, 14] hP hD hS hA (va_runV (As := []) (rest := []) ⟨hx, hb, hml, hown, hts⟩ (c_X3_pass l D I qo (qs 0) (qa 0) qa H.size (xs o.1 0 (0 : Int32), o.2) z hn hp ⟨hm1, by omega⟩) (cwV 0 hts gX4_when_X3_pass rfl rfl rfl (by decide +kernel) ⟨Nat.le_of_ble_eq_true rfl, Nat.le_of_ble_eq_true rfl⟩) (xk_preV (wc := wO I qo (qs 0) (qa 0) (xs o.1 0 (0 : Int32), o.2) ++ wS I qo qa z) (q0 := 10) (ci := 3) hN hP hK hD [0, 1, 2, 3, 4, 10, 11, 12, 13, 14] rfl rfl rfl rfl) rfl rfl hl.1 rfl (lv_room (Nat.le_of_ble_eq_true rfl)) dX4_when_58 ⟨Nat.le_of_ble_eq_true rfl, Nat.le_of_ble_eq_true rfl⟩) rfl rfl rfl (by decide) rfl rfl (fun H locs hP hD hS => ?_)
            generalize hz_1 : s_X3_pass (xs o.1 0 (0 : Int32), o.2) z = z_1 at hP hD
            refine lv_iinc (v := (nI (j + 1))) (lv' := [(2, .int (nI (j + 1))), (0, .ref (qo 0)), (1, .int k)]) hx hb dX4_when_61 hl (k := 0) rfl (nI_succ j).symm (by decide) rfl (fun ls hl => ?_)
            refine lv_goto (tgt := 32) hx hb dX4_when_64 (by decide) ?_
            have e7 : m_when (xs o.1 0 (0 : Int32), o.2) k (r + 1) j z = m_when (xs o.1 0 (0 : Int32), o.2) k r (j + 1) (s_X3_pass (xs o.1 0 (0 : Int32), o.2) z) := by rw [m_when, if_neg c_4]
            rw [e7]
            subst hz_1
            exact ih (j + 1) (s_X3_pass (xs o.1 0 (0 : Int32), o.2) z) (by omega) (passM_p (o := (xs o.1 0 (0 : Int32), o.2)) hn hp) (by rw [passM_m]; exact (p1_m hm1 (by omega)).1) (by rw [passM_m, (p1_m hm1 (by omega)).2]; omega) _ _ hP hD hS ls hl
          · refine lv_iload_n hx hb dX4_when_52 rfl (lv_at hl 0 rfl) ?_
            exact xk_iretE (wf := fun (z : MO × MS) (v : MS) => wO I qo (qs 0) (qa 0) z.1 ++ wS I qo qs z.2 ++ wS I qo qa v) (u := ((xs o.1 0 (0 : Int32), o.2), a)) (u1 := ((xs o.1 0 (0 : Int32), o.2), a)) z hx hb hr rfl hlocks hP hK hD hS (by rw [m_when, if_pos c_4]) rfl dX4_when_53
    exact loop 401 0 a (by omega) hp hm1 (by omega) _ _ hP hD hS ls (lv_sub hl [0, 1, 2] rfl)
  · refine lv_aload_n hx hb dX4_when_13 rfl (lv_at hl 0 rfl) ?_
    refine lv_iconst (v := (1 : Int32)) hx hb dX4_when_14 (by decide) ?_
    refine xk_calli ([cMS qo qs a.1, cA I (qs 1) 40 (a.2 0), cA I (qs 2) 40 (a.2 1), cA I (qs 3) 40 (a.2 2), cA I (qs 4) 40 (a.2 3), cMS qo qa z.1, cA I (qa 1) 40 (z.2 0), cA I (qa 2) 40 (z.2 1), cA I (qa 3) 40 (z.2 2), cA I (qa 4) 40 (z.2 3)]) (wO I qo (qs 0) (qa 0) (s_X4_no (xs o.1 0 (0 : Int32), o.2) (1 : Int32)) ++ wS I qo qs a ++ wS I qo qa z) [0, 1, 2, 3, 4] [5, 6, 7, 8, 9, 10, 11, 12, 13, 14] [10, 11, 12, 13, 14, 0, 1, 2, 3, 4, 5, 6, 7, 8, 9] hP hD hS hA (va_runV (As := [.int (1 : Int32)]) (rest := []) ⟨hx, hb, hml, hown, hts⟩ (c_X4_no l D I qo (qs 0) (qa 0) H.size (xs o.1 0 (0 : Int32), o.2) (1 : Int32) ) (cwV 1 hts gX4_when_X4_no rfl rfl rfl (by decide +kernel) ⟨Nat.le_of_ble_eq_true rfl, Nat.le_of_ble_eq_true rfl⟩) (xk_preV (wc := wO I qo (qs 0) (qa 0) (xs o.1 0 (0 : Int32), o.2)) (q0 := 0) (ci := 4) hN hP hK hD [0, 1, 2, 3, 4] rfl rfl rfl rfl) rfl rfl hl.1 rfl (lv_room (Nat.le_of_ble_eq_true rfl)) dX4_when_15 ⟨Nat.le_of_ble_eq_true rfl, Nat.le_of_ble_eq_true rfl⟩) rfl rfl rfl (by decide) rfl rfl (fun H locs hP hD hS => ?_)
    generalize hz_2 : s_X4_no (xs o.1 0 (0 : Int32), o.2) (1 : Int32) = z_2 at hP hD
    have hg_2 : g2_X4_when o a k = z_2 := by rw [← hz_2]; rfl
    exact xk_iretE (wf := fun (z : MO × MS) (v : MS) => wO I qo (qs 0) (qa 0) z.1 ++ wS I qo qs z.2 ++ wS I qo qa v) (u := (z_2, a)) (u1 := ((s_X4_when o a k), a)) z hx hb hr rfl hlocks hP hK hD hS (by subst hg_2; unfold r_X4_when; rw [if_pos c_1]) (by subst hg_2; unfold s_X4_when; rw [if_pos c_1]) dX4_when_18

/-- what would be, with the k-th code or counterpoise -/
def m_try (o : MO) (a : MS) (mi ic : Int32) (k : Nat) : MS := if ic = 0 then s_X3_pass_ o (xs a.1 2 (nI k), a.2) mi else s_X3_pass_ o (xs a.1 4 (nI k), a.2) mi
def m_best (o : MO) (a : MS) (mi ic : Int32) : Nat → Nat → Int32 → Int32 → Int32
  | 0, _, b, _ => b
  | r + 1, k, b, f => if b = -1 then m_best o a mi ic r (k + 1) (nI k) (r_X3_sumWaited o (m_try o a mi ic k)) else if r_X3_sumWaited o (m_try o a mi ic k) < f then m_best o a mi ic r (k + 1) (nI k) (r_X3_sumWaited o (m_try o a mi ic k)) else m_best o a mi ic r (k + 1) b f
def r_X4_best (o : MO) (a : MS) (mi ic mn : Int32) : Int32 := m_best o a mi ic mn.toNatClampNeg 0 (-1) 0

set_option maxHeartbeats 800000 in
set_option maxRecDepth 100000 in
theorem c_X4_best (l : Launch) (D : va_G) (I : ClassId) (qo qs qa : Nat → Nat) (sz : Nat) (o : MO) (a : MS) (z : MS) (mi : Int32) (ic : Int32) (mn : Int32) (hn : nOk (o.1 1)) (hp : pOk (a.1 5)) (hm1 : 0 ≤ (a.1 0).toInt) (hm2 : (a.1 0).toInt < 1000000000) (h1 : 0 ≤ mi.toInt) (h2 : mi.toInt ≤ 240) (hn1 : 0 ≤ mn.toInt) (hn2 : mn.toInt ≤ 31) : xMiE l D [(I, .int)] yX4_best wsX4_best { frames := 5, cells := 0, slots := 0, locals := 101 } [.ref (qo 0), .int mi, .int ic, .int mn] sz (wO I qo (qs 0) (qa 0) o ++ wS I qo qs a ++ wS I qo qa z) MS (r_X4_best o a mi ic mn) (fun v : MS => wO I qo (qs 0) (qa 0) o ++ wS I qo qs a ++ wS I qo qa v) 0 0 := by
  refine xk_start (cc := cX4_best) (maxL := 8) (ret := (some .int)) (Qf := fun A => xQiE D [(I, .int)] A MS (r_X4_best o a mi ic mn) (fun v : MS => wO I qo (qs 0) (qa 0) o ++ wS I qo qs a ++ wS I qo qa v)) (by decide) rfl (Nat.le_of_ble_eq_true rfl) ?_
  intro p e s m below meth c A H ls hst hAe hsz hl
  obtain ⟨hx, hb, hr, hts, hown, hlocks, hml, hin, hN, hK, hP, hD, hA, hS⟩ := hst
  have hl : lv_has ls 8 [(0, .ref (qo 0)), (1, .int mi), (2, .int ic), (3, .int mn)] := hl
  have hP : va_P D vwCl (wO I qo (qs 0) (qa 0) o ++ wS I qo qs a ++ wS I qo qa z) H := hP
  have hinX4 : ∀ w ∈ u_ws RX4 TX4 8, w ∈ wsX4_best := by decide +kernel
  have hinX3 : ∀ w ∈ u_ws RX3 TX3 12, w ∈ wsX4_best := by decide +kernel
  have w_1 := hts (.fieldLink RX4 31 "BridgeBellsModel" "ahead" "LBridgeBellsModel$State;") (by decide +kernel)
  have w_2 := hts (.fieldLink RX4 27 "BridgeBellsModel" "s" "LBridgeBellsModel$State;") (by decide +kernel)
  have hmn : mn = nI mn.toNatClampNeg := Int32.toInt_inj.mp (by rw [nI_toInt (by rw [clampInt]; omega), clampInt]; omega)
  have hmn9 : mn.toNatClampNeg ≤ 31 := by rw [clampInt]; omega
  refine lv_iconst (v := (-1 : Int32)) hx hb dX4_best_0 (by decide) ?_
  refine lv_istore (lv' := [(4, .int (-1 : Int32)), (0, .ref (qo 0)), (1, .int mi), (2, .int ic), (3, .int mn)]) hx hb dX4_best_1 hl (by decide) rfl (fun ls hl => ?_)
  refine lv_iconst (v := (0 : Int32)) hx hb dX4_best_3 (by decide) ?_
  refine lv_istore (lv' := [(5, .int (0 : Int32)), (4, .int (-1 : Int32)), (0, .ref (qo 0)), (1, .int mi), (2, .int ic), (3, .int mn)]) hx hb dX4_best_4 hl (by decide) rfl (fun ls hl => ?_)
  refine lv_iconst (v := (0 : Int32)) hx hb dX4_best_6 (by decide) ?_
  refine lv_istore (lv' := [(6, .int (0 : Int32)), (5, .int (0 : Int32)), (4, .int (-1 : Int32)), (0, .ref (qo 0)), (1, .int mi), (2, .int ic), (3, .int mn)]) hx hb dX4_best_7 hl (by decide) rfl (fun ls hl => ?_)
  have loop : ∀ (r k : Nat) (b f : Int32) (z : MS), r + k = mn.toNatClampNeg → ∀ (H : Heap) (locs : List Loc), va_P D vwCl (wO I qo (qs 0) (qa 0) o ++ wS I qo qs a ++ wS I qo qa z) H → va_D A (wO I qo (qs 0) (qa 0) o ++ wS I qo qs a ++ wS I qo qa z) → va_S A s.heap H locs → ∀ ls, lv_has ls 8 [(6, .int (nI k)), (5, .int f), (4, .int b), (0, .ref (qo 0)), (1, .int mi), (2, .int ic), (3, .int mn)] → W p l e { frames := 5, cells := 0, slots := 0, locals := 101 } s m #[.ref (qo 0), .int mi, .int ic, .int mn] below meth c H locs 0 0 (MQ below (xQiE D [(I, .int)] A MS (m_best o a mi ic r k b f) (fun v : MS => wO I qo (qs 0) (qa 0) o ++ wS I qo qs a ++ wS I qo qa v)) #[.ref (qo 0), .int mi, .int ic, .int mn] s 0 0 A) (F0 m 9 ls []) := by
    intro r
    induction r with
    | zero =>
      intro k b f z hk H locs hP hD hS ls hl
      refine lv_iload hx hb dX4_best_9 (lv_at hl 0 rfl) ?_
      refine lv_iload_n hx hb dX4_best_11 rfl (lv_at hl 6 rfl) ?_
      refine lv_icmp_ge (tgt := 98) hx hb dX4_best_12 (by decide) (fun c_1 => ?_) (fun c_1 => ?_)
      · refine lv_iload hx hb dX4_best_98 (lv_at hl 2 rfl) ?_
        exact xk_iretE (wf := fun (z : MO × MS) (v : MS) => wO I qo (qs 0) (qa 0) z.1 ++ wS I qo qs z.2 ++ wS I qo qa v) (u := (o, a)) (u1 := (o, a)) z hx hb hr rfl hlocks hP hK hD hS rfl rfl dX4_best_100
      · exact absurd (by rw [hmn]; exact nI_le (by omega) (by omega)) c_1
    | succ r ih =>
      intro k b f z hk H locs hP hD hS ls hl
      refine lv_iload hx hb dX4_best_9 (lv_at hl 0 rfl) ?_
      refine lv_iload_n hx hb dX4_best_11 rfl (lv_at hl 6 rfl) ?_
      refine lv_icmp_ge (tgt := 98) hx hb dX4_best_12 (by decide) (fun c_2 => ?_) (fun c_2 => ?_)
      · exact absurd c_2 (by rw [hmn]; exact nI_ge (by omega) (by omega))
      · refine lv_aload_n hx hb dX4_best_15 rfl (lv_at hl 3 rfl) ?_
        refine va_get (D := D) (ci := 4) (v := .ref (qa 0)) (C := RX4) (T := TX4) (N := 8) hx hb hts hinX4 hown hK hP 0 rfl rfl 7 (by decide) w_1 (fun _ h9 => h9) rfl dX4_best_16 ?_
        refine lv_aload_n hx hb dX4_best_19 rfl (lv_at hl 3 rfl) ?_
        refine va_get (D := D) (ci := 4) (v := .ref (qs 0)) (C := RX4) (T := TX4) (N := 8) hx hb hts hinX4 hown hK hP 0 rfl rfl 6 (by decide) w_2 (fun _ h9 => h9) rfl dX4_best_20 ?_
        refine xk_callv ([cMO qo (qs 0) (qa 0) o.1, cA I (qo 1) 40 (o.2 0), cA I (qo 2) 40 (o.2 1), cA I (qo 3) 40 (o.2 2), cA I (qo 4) 8 (o.2 3)]) (wO I qo (qs 0) (qa 0) o ++ wS I qo qs a ++ wS I qo qa a) [10, 11, 12, 13, 14, 5, 6, 7, 8, 9] [0, 1, 2, 3, 4] [0, 1, 2, 3, 4, 10, 11, 12, 13, 14, 5, 6, 7, 8, 9] hP hD hS hA (va_runV (As := [.ref (qs 0)]) (rest := []) ⟨hx, hb, hml, hown, hts⟩ (c_X3_become l D I qo qa qs H.size z a ) (cwV 1 hts gX4_best_X3_become rfl rfl rfl (by decide +kernel) ⟨Nat.le_of_ble_eq_true rfl, Nat.le_of_ble_eq_true rfl⟩) (xk_preV (wc := wS I qo qa z ++ wS I qo qs a) (q0 := 10) (ci := 3) hN hP hK hD [10, 11, 12, 13, 14, 5, 6, 7, 8, 9] rfl rfl rfl rfl) rfl rfl hl.1 rfl (lv_room (Nat.le_of_ble_eq_true rfl)) dX4_best_23 ⟨Nat.le_of_ble_eq_true rfl, Nat.le_of_ble_eq_true rfl⟩) rfl rfl rfl (by decide) rfl rfl (fun H locs hP hD hS => ?_)
        refine lv_iload_n hx hb dX4_best_26 rfl (lv_at hl 5 rfl) ?_
        refine lv_if_eq (tgt := 42) hx hb dX4_best_27 (by decide) (fun c_3 => ?_) (fun c_3 => ?_)
        · refine lv_aload_n hx hb dX4_best_42 rfl (lv_at hl 3 rfl) ?_
          refine va_get (D := D) (ci := 4) (v := .ref (qa 0)) (C := RX4) (T := TX4) (N := 8) hx hb hts hinX4 hown hK hP 0 rfl rfl 7 (by decide) w_1 (fun _ h9 => h9) rfl dX4_best_43 ?_
          refine lv_iload hx hb dX4_best_46 (lv_at hl 0 rfl) ?_
          refine va_putN (D := D) (ci := 3) (v := .int (nI k)) (ty := tyX3 2) (C := RX3) (T := TX3) (N := 12) hx hb hts hinX3 tyX3 tyX3_ok nmX3 hown hK hP hD hS 10 rfl rfl 2 (by decide) (hN.use 5 rfl) (fun _ h9 => h9) rfl (tyX3_ok 2 (by decide)) rfl rfl (Nat.le_of_ble_eq_true rfl) dX4_best_48 (fun H locs hP hD hS => ?_)
          have hP : va_P D vwCl (wO I qo (qs 0) (qa 0) o ++ wS I qo qs a ++ wS I qo qa (xs a.1 2 (nI k), a.2)) H := hP
          have hD : va_D A (wO I qo (qs 0) (qa 0) o ++ wS I qo qs a ++ wS I qo qa (xs a.1 2 (nI k), a.2)) := hD
          refine lv_aload_n hx hb dX4_best_51 rfl (lv_at hl 3 rfl) ?_
          refine va_get (D := D) (ci := 4) (v := .ref (qa 0)) (C := RX4) (T := TX4) (N := 8) hx hb hts hinX4 hown hK hP 0 rfl rfl 7 (by decide) w_1 (fun _ h9 => h9) rfl dX4_best_52 ?_
          refine lv_iload_n hx hb dX4_best_55 rfl (lv_at hl 4 rfl) ?_
          refine xk_callv ([cMS qo qs a.1, cA I (qs 1) 40 (a.2 0), cA I (qs 2) 40 (a.2 1), cA I (qs 3) 40 (a.2 2), cA I (qs 4) 40 (a.2 3)]) (wO I qo (qs 0) (qa 0) o ++ wS I qo qs a ++ wS I qo qa (s_X3_pass_ o (xs a.1 2 (nI k), a.2) mi)) [0, 1, 2, 3, 4, 10, 11, 12, 13, 14] [5, 6, 7, 8, 9] [5, 6, 7, 8, 9, 0, 1, 2, 3, 4, 10, 11, 12, 13, 14] hP hD hS hA (va_runV (As := [.int mi]) (rest := []) ⟨hx, hb, hml, hown, hts⟩ (c_X3_pass_ l D I qo (qs 0) (qa 0) qa H.size o (xs a.1 2 (nI k), a.2) mi hn hp hm1 hm2 h1 h2) (cwV 1 hts gX4_best_X3_pass_ rfl rfl rfl (by decide +kernel) ⟨Nat.le_of_ble_eq_true rfl, Nat.le_of_ble_eq_true rfl⟩) (xk_preV (wc := wO I qo (qs 0) (qa 0) o ++ wS I qo qa (xs a.1 2 (nI k), a.2)) (q0 := 10) (ci := 3) hN hP hK hD [0, 1, 2, 3, 4, 10, 11, 12, 13, 14] rfl rfl rfl rfl) rfl rfl hl.1 rfl (lv_room (Nat.le_of_ble_eq_true rfl)) dX4_best_56 ⟨Nat.le_of_ble_eq_true rfl, Nat.le_of_ble_eq_true rfl⟩) rfl rfl rfl (by decide) rfl rfl (fun H locs hP hD hS => ?_)
          generalize hz_1 : s_X3_pass_ o (xs a.1 2 (nI k), a.2) mi = z_1 at hP hD
          refine lv_aload_n hx hb dX4_best_59 rfl (lv_at hl 3 rfl) ?_
          refine va_get (D := D) (ci := 4) (v := .ref (qa 0)) (C := RX4) (T := TX4) (N := 8) hx hb hts hinX4 hown hK hP 0 rfl rfl 7 (by decide) w_1 (fun _ h9 => h9) rfl dX4_best_60 ?_
          refine xk_calli ([cMS qo qs a.1, cA I (qs 1) 40 (a.2 0), cA I (qs 2) 40 (a.2 1), cA I (qs 3) 40 (a.2 2), cA I (qs 4) 40 (a.2 3)]) (wO I qo (qs 0) (qa 0) o ++ wS I qo qs a ++ wS I qo qa z_1) [0, 1, 2, 3, 4, 10, 11, 12, 13, 14] [5, 6, 7, 8, 9] [5, 6, 7, 8, 9, 0, 1, 2, 3, 4, 10, 11, 12, 13, 14] hP hD hS hA (va_runV (As := []) (rest := []) ⟨hx, hb, hml, hown, hts⟩ (c_X3_sumWaited l D I qo (qs 0) (qa 0) qa H.size o z_1 hn) (cwV 0 hts gX4_best_X3_sumWaited rfl rfl rfl (by decide +kernel) ⟨Nat.le_of_ble_eq_true rfl, Nat.le_of_ble_eq_true rfl⟩) (xk_preV (wc := wO I qo (qs 0) (qa 0) o ++ wS I qo qa z_1) (q0 := 10) (ci := 3) hN hP hK hD [0, 1, 2, 3, 4, 10, 11, 12, 13, 14] rfl rfl rfl rfl) rfl rfl hl.1 rfl (lv_room (Nat.le_of_ble_eq_true rfl)) dX4_best_63 ⟨Nat.le_of_ble_eq_true rfl, Nat.le_of_ble_eq_true rfl⟩) rfl rfl rfl (by decide) rfl rfl (fun H locs hP hD hS => ?_)
          refine lv_istore (lv' := [(7, .int (r_X3_sumWaited o z_1)), (6, .int (nI k)), (5, .int f), (4, .int b), (0, .ref (qo 0)), (1, .int mi), (2, .int ic), (3, .int mn)]) hx hb dX4_best_66 hl (by decide) rfl (fun ls hl => ?_)
          refine lv_iload hx hb dX4_best_68 (lv_at hl 3 rfl) ?_
          refine lv_iconst (v := (-1 : Int32)) hx hb dX4_best_70 (by decide) ?_
          refine lv_icmp_eq (tgt := 84) hx hb dX4_best_71 (by decide) (fun c_4 => ?_) (fun c_4 => ?_)
          · refine lv_iload hx hb dX4_best_84 (lv_at hl 1 rfl) ?_
            refine lv_istore (lv' := [(4, .int (nI k)), (7, .int (r_X3_sumWaited o z_1)), (6, .int (nI k)), (5, .int f), (0, .ref (qo 0)), (1, .int mi), (2, .int ic), (3, .int mn)]) hx hb dX4_best_86 hl (by decide) rfl (fun ls hl => ?_)
            refine lv_iload hx hb dX4_best_88 (lv_at hl 1 rfl) ?_
            refine lv_istore (lv' := [(5, .int (r_X3_sumWaited o z_1)), (4, .int (nI k)), (7, .int (r_X3_sumWaited o z_1)), (6, .int (nI k)), (0, .ref (qo 0)), (1, .int mi), (2, .int ic), (3, .int mn)]) hx hb dX4_best_90 hl (by decide) rfl (fun ls hl => ?_)
            refine lv_iinc (v := (nI (k + 1))) (lv' := [(6, .int (nI (k + 1))), (5, .int (r_X3_sumWaited o z_1)), (4, .int (nI k)), (7, .int (r_X3_sumWaited o z_1)), (0, .ref (qo 0)), (1, .int mi), (2, .int ic), (3, .int mn)]) hx hb dX4_best_92 hl (k := 3) rfl (nI_succ k).symm (by decide) rfl (fun ls hl => ?_)
            refine lv_goto (tgt := 9) hx hb dX4_best_95 (by decide) ?_
            subst hz_1
            have e6 : m_try o a mi ic k = s_X3_pass_ o (xs a.1 2 (nI k), a.2) mi := by unfold m_try; rw [if_pos c_3]
            have e7 : m_best o a mi ic (r + 1) k b f = m_best o a mi ic r (k + 1) (nI k) (r_X3_sumWaited o (s_X3_pass_ o (xs a.1 2 (nI k), a.2) mi)) := by rw [m_best, e6, if_pos c_4]
            rw [e7]
            exact ih (k + 1) _ _ _ (by omega) _ _ hP hD hS ls (lv_sub hl [0, 1, 2, 4, 5, 6, 7] rfl)
          · refine lv_iload hx hb dX4_best_74 (lv_at hl 0 rfl) ?_
            refine lv_iload hx hb dX4_best_76 (lv_at hl 2 rfl) ?_
            refine lv_icmp_lt (tgt := 84) hx hb dX4_best_78 (by decide) (fun c_5 => ?_) (fun c_5 => ?_)
            · refine lv_iload hx hb dX4_best_84 (lv_at hl 1 rfl) ?_
              refine lv_istore (lv' := [(4, .int (nI k)), (7, .int (r_X3_sumWaited o z_1)), (6, .int (nI k)), (5, .int f), (0, .ref (qo 0)), (1, .int mi), (2, .int ic), (3, .int mn)]) hx hb dX4_best_86 hl (by decide) rfl (fun ls hl => ?_)
              refine lv_iload hx hb dX4_best_88 (lv_at hl 1 rfl) ?_
              refine lv_istore (lv' := [(5, .int (r_X3_sumWaited o z_1)), (4, .int (nI k)), (7, .int (r_X3_sumWaited o z_1)), (6, .int (nI k)), (0, .ref (qo 0)), (1, .int mi), (2, .int ic), (3, .int mn)]) hx hb dX4_best_90 hl (by decide) rfl (fun ls hl => ?_)
              refine lv_iinc (v := (nI (k + 1))) (lv' := [(6, .int (nI (k + 1))), (5, .int (r_X3_sumWaited o z_1)), (4, .int (nI k)), (7, .int (r_X3_sumWaited o z_1)), (0, .ref (qo 0)), (1, .int mi), (2, .int ic), (3, .int mn)]) hx hb dX4_best_92 hl (k := 3) rfl (nI_succ k).symm (by decide) rfl (fun ls hl => ?_)
              refine lv_goto (tgt := 9) hx hb dX4_best_95 (by decide) ?_
              subst hz_1
              have e6 : m_try o a mi ic k = s_X3_pass_ o (xs a.1 2 (nI k), a.2) mi := by unfold m_try; rw [if_pos c_3]
              have e7 : m_best o a mi ic (r + 1) k b f = m_best o a mi ic r (k + 1) (nI k) (r_X3_sumWaited o (s_X3_pass_ o (xs a.1 2 (nI k), a.2) mi)) := by rw [m_best, e6, if_neg c_4, if_pos c_5]
              rw [e7]
              exact ih (k + 1) _ _ _ (by omega) _ _ hP hD hS ls (lv_sub hl [0, 1, 2, 4, 5, 6, 7] rfl)
            · refine lv_goto (tgt := 92) hx hb dX4_best_81 (by decide) ?_
              refine lv_iinc (v := (nI (k + 1))) (lv' := [(6, .int (nI (k + 1))), (7, .int (r_X3_sumWaited o z_1)), (5, .int f), (4, .int b), (0, .ref (qo 0)), (1, .int mi), (2, .int ic), (3, .int mn)]) hx hb dX4_best_92 hl (k := 1) rfl (nI_succ k).symm (by decide) rfl (fun ls hl => ?_)
              refine lv_goto (tgt := 9) hx hb dX4_best_95 (by decide) ?_
              subst hz_1
              have e6 : m_try o a mi ic k = s_X3_pass_ o (xs a.1 2 (nI k), a.2) mi := by unfold m_try; rw [if_pos c_3]
              have e7 : m_best o a mi ic (r + 1) k b f = m_best o a mi ic r (k + 1) b f := by rw [m_best, e6, if_neg c_4, if_neg c_5]
              rw [e7]
              exact ih (k + 1) _ _ _ (by omega) _ _ hP hD hS ls (lv_sub hl [0, 2, 3, 4, 5, 6, 7] rfl)
        · refine lv_aload_n hx hb dX4_best_30 rfl (lv_at hl 3 rfl) ?_
          refine va_get (D := D) (ci := 4) (v := .ref (qa 0)) (C := RX4) (T := TX4) (N := 8) hx hb hts hinX4 hown hK hP 0 rfl rfl 7 (by decide) w_1 (fun _ h9 => h9) rfl dX4_best_31 ?_
          refine lv_iload hx hb dX4_best_34 (lv_at hl 0 rfl) ?_
          refine va_putN (D := D) (ci := 3) (v := .int (nI k)) (ty := tyX3 4) (C := RX3) (T := TX3) (N := 12) hx hb hts hinX3 tyX3 tyX3_ok nmX3 hown hK hP hD hS 10 rfl rfl 4 (by decide) (hN.use 7 rfl) (fun _ h9 => h9) rfl (tyX3_ok 4 (by decide)) rfl rfl (Nat.le_of_ble_eq_true rfl) dX4_best_36 (fun H locs hP hD hS => ?_)
          have hP : va_P D vwCl (wO I qo (qs 0) (qa 0) o ++ wS I qo qs a ++ wS I qo qa (xs a.1 4 (nI k), a.2)) H := hP
          have hD : va_D A (wO I qo (qs 0) (qa 0) o ++ wS I qo qs a ++ wS I qo qa (xs a.1 4 (nI k), a.2)) := hD
          refine lv_goto (tgt := 51) hx hb dX4_best_39 (by decide) ?_
          refine lv_aload_n hx hb dX4_best_51 rfl (lv_at hl 3 rfl) ?_
          refine va_get (D := D) (ci := 4) (v := .ref (qa 0)) (C := RX4) (T := TX4) (N := 8) hx hb hts hinX4 hown hK hP 0 rfl rfl 7 (by decide) w_1 (fun _ h9 => h9) rfl dX4_best_52 ?_
          refine lv_iload_n hx hb dX4_best_55 rfl (lv_at hl 4 rfl) ?_
          refine xk_callv ([cMS qo qs a.1, cA I (qs 1) 40 (a.2 0), cA I (qs 2) 40 (a.2 1), cA I (qs 3) 40 (a.2 2), cA I (qs 4) 40 (a.2 3)]) (wO I qo (qs 0) (qa 0) o ++ wS I qo qs a ++ wS I qo qa (s_X3_pass_ o (xs a.1 4 (nI k), a.2) mi)) [0, 1, 2, 3, 4, 10, 11, 12, 13, 14] [5, 6, 7, 8, 9] [5, 6, 7, 8, 9, 0, 1, 2, 3, 4, 10, 11, 12, 13, 14] hP hD hS hA (va_runV (As := [.int mi]) (rest := []) ⟨hx, hb, hml, hown, hts⟩ (c_X3_pass_ l D I qo (qs 0) (qa 0) qa H.size o (xs a.1 4 (nI k), a.2) mi hn hp hm1 hm2 h1 h2) (cwV 1 hts gX4_best_X3_pass_ rfl rfl rfl (by decide +kernel) ⟨Nat.le_of_ble_eq_true rfl, Nat.le_of_ble_eq_true rfl⟩) (xk_preV (wc := wO I qo (qs 0) (qa 0) o ++ wS I qo qa (xs a.1 4 (nI k), a.2)) (q0 := 10) (ci := 3) hN hP hK hD [0, 1, 2, 3, 4, 10, 11, 12, 13, 14] rfl rfl rfl rfl) rfl rfl hl.1 rfl (lv_room (Nat.le_of_ble_eq_true rfl)) dX4_best_56 ⟨Nat.le_of_ble_eq_true rfl, Nat.le_of_ble_eq_true rfl⟩) rfl rfl rfl (by decide) rfl rfl (fun H locs hP hD hS => ?_)
          generalize hz_2 : s_X3_pass_ o (xs a.1 4 (nI k), a.2) mi = z_2 at hP hD
          refine lv_aload_n hx hb dX4_best_59 rfl (lv_at hl 3 rfl) ?_
          refine va_get (D := D) (ci := 4) (v := .ref (qa 0)) (C := RX4) (T := TX4) (N := 8) hx hb hts hinX4 hown hK hP 0 rfl rfl 7 (by decide) w_1 (fun _ h9 => h9) rfl dX4_best_60 ?_
          refine xk_calli ([cMS qo qs a.1, cA I (qs 1) 40 (a.2 0), cA I (qs 2) 40 (a.2 1), cA I (qs 3) 40 (a.2 2), cA I (qs 4) 40 (a.2 3)]) (wO I qo (qs 0) (qa 0) o ++ wS I qo qs a ++ wS I qo qa z_2) [0, 1, 2, 3, 4, 10, 11, 12, 13, 14] [5, 6, 7, 8, 9] [5, 6, 7, 8, 9, 0, 1, 2, 3, 4, 10, 11, 12, 13, 14] hP hD hS hA (va_runV (As := []) (rest := []) ⟨hx, hb, hml, hown, hts⟩ (c_X3_sumWaited l D I qo (qs 0) (qa 0) qa H.size o z_2 hn) (cwV 0 hts gX4_best_X3_sumWaited rfl rfl rfl (by decide +kernel) ⟨Nat.le_of_ble_eq_true rfl, Nat.le_of_ble_eq_true rfl⟩) (xk_preV (wc := wO I qo (qs 0) (qa 0) o ++ wS I qo qa z_2) (q0 := 10) (ci := 3) hN hP hK hD [0, 1, 2, 3, 4, 10, 11, 12, 13, 14] rfl rfl rfl rfl) rfl rfl hl.1 rfl (lv_room (Nat.le_of_ble_eq_true rfl)) dX4_best_63 ⟨Nat.le_of_ble_eq_true rfl, Nat.le_of_ble_eq_true rfl⟩) rfl rfl rfl (by decide) rfl rfl (fun H locs hP hD hS => ?_)
          refine lv_istore (lv' := [(7, .int (r_X3_sumWaited o z_2)), (6, .int (nI k)), (5, .int f), (4, .int b), (0, .ref (qo 0)), (1, .int mi), (2, .int ic), (3, .int mn)]) hx hb dX4_best_66 hl (by decide) rfl (fun ls hl => ?_)
          refine lv_iload hx hb dX4_best_68 (lv_at hl 3 rfl) ?_
          refine lv_iconst (v := (-1 : Int32)) hx hb dX4_best_70 (by decide) ?_
          refine lv_icmp_eq (tgt := 84) hx hb dX4_best_71 (by decide) (fun c_6 => ?_) (fun c_6 => ?_)
          · refine lv_iload hx hb dX4_best_84 (lv_at hl 1 rfl) ?_
            refine lv_istore (lv' := [(4, .int (nI k)), (7, .int (r_X3_sumWaited o z_2)), (6, .int (nI k)), (5, .int f), (0, .ref (qo 0)), (1, .int mi), (2, .int ic), (3, .int mn)]) hx hb dX4_best_86 hl (by decide) rfl (fun ls hl => ?_)
            refine lv_iload hx hb dX4_best_88 (lv_at hl 1 rfl) ?_
            refine lv_istore (lv' := [(5, .int (r_X3_sumWaited o z_2)), (4, .int (nI k)), (7, .int (r_X3_sumWaited o z_2)), (6, .int (nI k)), (0, .ref (qo 0)), (1, .int mi), (2, .int ic), (3, .int mn)]) hx hb dX4_best_90 hl (by decide) rfl (fun ls hl => ?_)
            refine lv_iinc (v := (nI (k + 1))) (lv' := [(6, .int (nI (k + 1))), (5, .int (r_X3_sumWaited o z_2)), (4, .int (nI k)), (7, .int (r_X3_sumWaited o z_2)), (0, .ref (qo 0)), (1, .int mi), (2, .int ic), (3, .int mn)]) hx hb dX4_best_92 hl (k := 3) rfl (nI_succ k).symm (by decide) rfl (fun ls hl => ?_)
            refine lv_goto (tgt := 9) hx hb dX4_best_95 (by decide) ?_
            subst hz_2
            have e6 : m_try o a mi ic k = s_X3_pass_ o (xs a.1 4 (nI k), a.2) mi := by unfold m_try; rw [if_neg c_3]
            have e7 : m_best o a mi ic (r + 1) k b f = m_best o a mi ic r (k + 1) (nI k) (r_X3_sumWaited o (s_X3_pass_ o (xs a.1 4 (nI k), a.2) mi)) := by rw [m_best, e6, if_pos c_6]
            rw [e7]
            exact ih (k + 1) _ _ _ (by omega) _ _ hP hD hS ls (lv_sub hl [0, 1, 2, 4, 5, 6, 7] rfl)
          · refine lv_iload hx hb dX4_best_74 (lv_at hl 0 rfl) ?_
            refine lv_iload hx hb dX4_best_76 (lv_at hl 2 rfl) ?_
            refine lv_icmp_lt (tgt := 84) hx hb dX4_best_78 (by decide) (fun c_7 => ?_) (fun c_7 => ?_)
            · refine lv_iload hx hb dX4_best_84 (lv_at hl 1 rfl) ?_
              refine lv_istore (lv' := [(4, .int (nI k)), (7, .int (r_X3_sumWaited o z_2)), (6, .int (nI k)), (5, .int f), (0, .ref (qo 0)), (1, .int mi), (2, .int ic), (3, .int mn)]) hx hb dX4_best_86 hl (by decide) rfl (fun ls hl => ?_)
              refine lv_iload hx hb dX4_best_88 (lv_at hl 1 rfl) ?_
              refine lv_istore (lv' := [(5, .int (r_X3_sumWaited o z_2)), (4, .int (nI k)), (7, .int (r_X3_sumWaited o z_2)), (6, .int (nI k)), (0, .ref (qo 0)), (1, .int mi), (2, .int ic), (3, .int mn)]) hx hb dX4_best_90 hl (by decide) rfl (fun ls hl => ?_)
              refine lv_iinc (v := (nI (k + 1))) (lv' := [(6, .int (nI (k + 1))), (5, .int (r_X3_sumWaited o z_2)), (4, .int (nI k)), (7, .int (r_X3_sumWaited o z_2)), (0, .ref (qo 0)), (1, .int mi), (2, .int ic), (3, .int mn)]) hx hb dX4_best_92 hl (k := 3) rfl (nI_succ k).symm (by decide) rfl (fun ls hl => ?_)
              refine lv_goto (tgt := 9) hx hb dX4_best_95 (by decide) ?_
              subst hz_2
              have e6 : m_try o a mi ic k = s_X3_pass_ o (xs a.1 4 (nI k), a.2) mi := by unfold m_try; rw [if_neg c_3]
              have e7 : m_best o a mi ic (r + 1) k b f = m_best o a mi ic r (k + 1) (nI k) (r_X3_sumWaited o (s_X3_pass_ o (xs a.1 4 (nI k), a.2) mi)) := by rw [m_best, e6, if_neg c_6, if_pos c_7]
              rw [e7]
              exact ih (k + 1) _ _ _ (by omega) _ _ hP hD hS ls (lv_sub hl [0, 1, 2, 4, 5, 6, 7] rfl)
            · refine lv_goto (tgt := 92) hx hb dX4_best_81 (by decide) ?_
              refine lv_iinc (v := (nI (k + 1))) (lv' := [(6, .int (nI (k + 1))), (7, .int (r_X3_sumWaited o z_2)), (5, .int f), (4, .int b), (0, .ref (qo 0)), (1, .int mi), (2, .int ic), (3, .int mn)]) hx hb dX4_best_92 hl (k := 1) rfl (nI_succ k).symm (by decide) rfl (fun ls hl => ?_)
              refine lv_goto (tgt := 9) hx hb dX4_best_95 (by decide) ?_
              subst hz_2
              have e6 : m_try o a mi ic k = s_X3_pass_ o (xs a.1 4 (nI k), a.2) mi := by unfold m_try; rw [if_neg c_3]
              have e7 : m_best o a mi ic (r + 1) k b f = m_best o a mi ic r (k + 1) b f := by rw [m_best, e6, if_neg c_6, if_neg c_7]
              rw [e7]
              exact ih (k + 1) _ _ _ (by omega) _ _ hP hD hS ls (lv_sub hl [0, 2, 3, 4, 5, 6, 7] rfl)
  exact loop mn.toNatClampNeg 0 _ _ z (by omega) _ _ hP hD hS ls (lv_sub hl [0, 1, 2, 3, 4, 5, 6] rfl)

def g1_X4_bestCode (o : MO) (a : MS) (mi : Int32) : MO := s_X4_no (xs o.1 0 (0 : Int32), o.2) (1 : Int32)
def r_X4_bestCode (o : MO) (a : MS) (mi : Int32) : Int32 :=
  if (r_X4_isIn mi (1 : Int32) (240 : Int32)) = 0 then
    (r_X4_no (xs o.1 0 (0 : Int32), o.2) (1 : Int32))
  else
    (r_X4_best (xs o.1 0 (0 : Int32), o.2) a mi (1 : Int32) (4 : Int32))
def s_X4_bestCode (o : MO) (a : MS) (mi : Int32) : MO :=
  if (r_X4_isIn mi (1 : Int32) (240 : Int32)) = 0 then
    (g1_X4_bestCode o a mi)
  else
    (xs o.1 0 (0 : Int32), o.2)
set_option maxHeartbeats 800000 in
set_option maxRecDepth 100000 in
theorem c_X4_bestCode (l : Launch) (D : va_G) (I : ClassId) (qo qs qa : Nat → Nat) (sz : Nat) (o : MO) (a : MS) (z : MS) (mi : Int32) (hn : nOk (o.1 1)) (hp : pOk (a.1 5)) (hm1 : 0 ≤ (a.1 0).toInt) (hm2 : (a.1 0).toInt < 1000000000) : xMiE l D [(I, .int)] yX4_bestCode wsX4_bestCode { frames := 6, cells := 0, slots := 0, locals := 128 } [.ref (qo 0), .int mi] sz (wO I qo (qs 0) (qa 0) o ++ wS I qo qs a ++ wS I qo qa z) MS (r_X4_bestCode o a mi) (fun v : MS => wO I qo (qs 0) (qa 0) (s_X4_bestCode o a mi) ++ wS I qo qs a ++ wS I qo qa v) 0 0 := by
  refine xk_start (cc := cX4_bestCode) (maxL := 2) (ret := (some .int)) (Qf := fun A => xQiE D [(I, .int)] A MS (r_X4_bestCode o a mi) (fun v : MS => wO I qo (qs 0) (qa 0) (s_X4_bestCode o a mi) ++ wS I qo qs a ++ wS I qo qa v)) (by decide) rfl (Nat.le_of_ble_eq_true rfl) ?_
  intro p e s m below meth c A H ls hst hAe hsz hl
  obtain ⟨hx, hb, hr, hts, hown, hlocks, hml, hin, hN, hK, hP, hD, hA, hS⟩ := hst
  have hl : lv_has ls 2 [(0, .ref (qo 0)), (1, .int mi)] := hl
  have hP : va_P D vwCl (wO I qo (qs 0) (qa 0) o ++ wS I qo qs a ++ wS I qo qa z) H := hP
  have hinX4 : ∀ w ∈ u_ws RX4 TX4 8, w ∈ wsX4_bestCode := by decide +kernel
  have w_1 := hts (.fieldLink RX4 34 "BridgeBellsModel" "thrown" "I") (by decide +kernel)
  refine lv_aload_n hx hb dX4_bestCode_0 rfl (lv_at hl 0 rfl) ?_
  refine lv_iconst (v := (0 : Int32)) hx hb dX4_bestCode_1 (by decide) ?_
  refine va_put (D := D) (ci := 4) (v := .int (0 : Int32)) (ty := tyX4 0) (C := RX4) (T := TX4) (N := 8) hx hb hts hinX4 tyX4 tyX4_ok nmX4 hown hK hP hD hS 0 rfl rfl 0 (by decide) w_1 (fun _ h9 => h9) rfl (tyX4_ok 0 (by decide)) rfl rfl (Nat.le_of_ble_eq_true rfl) dX4_bestCode_2 (fun H locs hP hD hS => ?_)
  have hP : va_P D vwCl (wO I qo (qs 0) (qa 0) (xs o.1 0 (0 : Int32), o.2) ++ wS I qo qs a ++ wS I qo qa z) H := hP
  have hD : va_D A (wO I qo (qs 0) (qa 0) (xs o.1 0 (0 : Int32), o.2) ++ wS I qo qs a ++ wS I qo qa z) := hD
  refine lv_iload_n hx hb dX4_bestCode_5 rfl (lv_at hl 1 rfl) ?_
  refine lv_iconst (v := (1 : Int32)) hx hb dX4_bestCode_6 (by decide) ?_
  refine lv_sipush (v := (240 : Int32)) hx hb dX4_bestCode_7 (by decide) ?_
  refine xk_calli ([cMO qo (qs 0) (qa 0) (xs o.1 0 (0 : Int32)), cA I (qo 1) 40 (o.2 0), cA I (qo 2) 40 (o.2 1), cA I (qo 3) 40 (o.2 2), cA I (qo 4) 8 (o.2 3), cMS qo qs a.1, cA I (qs 1) 40 (a.2 0), cA I (qs 2) 40 (a.2 1), cA I (qs 3) 40 (a.2 2), cA I (qs 4) 40 (a.2 3), cMS qo qa z.1, cA I (qa 1) 40 (z.2 0), cA I (qa 2) 40 (z.2 1), cA I (qa 3) 40 (z.2 2), cA I (qa 4) 40 (z.2 3)]) (wO I qo (qs 0) (qa 0) (xs o.1 0 (0 : Int32), o.2) ++ wS I qo qs a ++ wS I qo qa z) [] [0, 1, 2, 3, 4, 5, 6, 7, 8, 9, 10, 11, 12, 13, 14] [0, 1, 2, 3, 4, 5, 6, 7, 8, 9, 10, 11, 12, 13, 14] hP hD hS hA (va_runS (As := [.int mi, .int (1 : Int32), .int (240 : Int32)]) (rest := []) ⟨hx, hb, hml, hown, hts⟩ (c_X4_isIn l D I  H.size mi (1 : Int32) (240 : Int32) ) (va_cwS 3 hts gX4_bestCode_X4_isIn rfl rfl rfl (by decide +kernel) ⟨Nat.le_of_ble_eq_true rfl, Nat.le_of_ble_eq_true rfl⟩) (xk_pre (wc := ([] : va_W)) hN hP hK hD [] rfl rfl) rfl rfl hl.1 rfl (lv_room (Nat.le_of_ble_eq_true rfl)) dX4_bestCode_10 ⟨Nat.le_of_ble_eq_true rfl, Nat.le_of_ble_eq_true rfl⟩) rfl rfl rfl (by decide) rfl rfl (fun H locs hP hD hS => ?_)
  refine lv_if_eq (tgt := 26) hx hb dX4_bestCode_13 (by decide) (fun c_1 => ?_) (fun c_1 => ?_)
  · refine lv_aload_n hx hb dX4_bestCode_26 rfl (lv_at hl 0 rfl) ?_
    refine lv_iconst (v := (1 : Int32)) hx hb dX4_bestCode_27 (by decide) ?_
    refine xk_calli ([cMS qo qs a.1, cA I (qs 1) 40 (a.2 0), cA I (qs 2) 40 (a.2 1), cA I (qs 3) 40 (a.2 2), cA I (qs 4) 40 (a.2 3), cMS qo qa z.1, cA I (qa 1) 40 (z.2 0), cA I (qa 2) 40 (z.2 1), cA I (qa 3) 40 (z.2 2), cA I (qa 4) 40 (z.2 3)]) (wO I qo (qs 0) (qa 0) (s_X4_no (xs o.1 0 (0 : Int32), o.2) (1 : Int32)) ++ wS I qo qs a ++ wS I qo qa z) [0, 1, 2, 3, 4] [5, 6, 7, 8, 9, 10, 11, 12, 13, 14] [10, 11, 12, 13, 14, 0, 1, 2, 3, 4, 5, 6, 7, 8, 9] hP hD hS hA (va_runV (As := [.int (1 : Int32)]) (rest := []) ⟨hx, hb, hml, hown, hts⟩ (c_X4_no l D I qo (qs 0) (qa 0) H.size (xs o.1 0 (0 : Int32), o.2) (1 : Int32) ) (cwV 1 hts gX4_bestCode_X4_no rfl rfl rfl (by decide +kernel) ⟨Nat.le_of_ble_eq_true rfl, Nat.le_of_ble_eq_true rfl⟩) (xk_preV (wc := wO I qo (qs 0) (qa 0) (xs o.1 0 (0 : Int32), o.2)) (q0 := 0) (ci := 4) hN hP hK hD [0, 1, 2, 3, 4] rfl rfl rfl rfl) rfl rfl hl.1 rfl (lv_room (Nat.le_of_ble_eq_true rfl)) dX4_bestCode_28 ⟨Nat.le_of_ble_eq_true rfl, Nat.le_of_ble_eq_true rfl⟩) rfl rfl rfl (by decide) rfl rfl (fun H locs hP hD hS => ?_)
    generalize hz_1 : s_X4_no (xs o.1 0 (0 : Int32), o.2) (1 : Int32) = z_1 at hP hD
    have hg_1 : g1_X4_bestCode o a mi = z_1 := by rw [← hz_1]; rfl
    exact xk_iretE (wf := fun (z : MO × MS) (v : MS) => wO I qo (qs 0) (qa 0) z.1 ++ wS I qo qs z.2 ++ wS I qo qa v) (u := (z_1, a)) (u1 := ((s_X4_bestCode o a mi), a)) z hx hb hr rfl hlocks hP hK hD hS (by subst hg_1; unfold r_X4_bestCode; rw [if_pos c_1]) (by subst hg_1; unfold s_X4_bestCode; rw [if_pos c_1]) dX4_bestCode_31
  · refine lv_aload_n hx hb dX4_bestCode_16 rfl (lv_at hl 0 rfl) ?_
    refine lv_iload_n hx hb dX4_bestCode_17 rfl (lv_at hl 1 rfl) ?_
    refine lv_iconst (v := (1 : Int32)) hx hb dX4_bestCode_18 (by decide) ?_
    refine lv_iconst (v := (4 : Int32)) hx hb dX4_bestCode_19 (by decide) ?_
    refine xk_calliE ([]) (fun v : MS => wO I qo (qs 0) (qa 0) (xs o.1 0 (0 : Int32), o.2) ++ wS I qo qs a ++ wS I qo qa v) [0, 1, 2, 3, 4, 5, 6, 7, 8, 9, 10, 11, 12, 13, 14] [] [0, 1, 2, 3, 4, 5, 6, 7, 8, 9, 10, 11, 12, 13, 14] hP hD hS hA (va_runV (As := [.int mi, .int (1 : Int32), .int (4 : Int32)]) (rest := []) ⟨hx, hb, hml, hown, hts⟩ (c_X4_best l D I qo qs qa H.size (xs o.1 0 (0 : Int32), o.2) a z mi (1 : Int32) (4 : Int32) hn hp hm1 hm2 (isIn_mi c_1).1 (isIn_mi c_1).2 (by decide) (by decide)) (cwV 3 hts gX4_bestCode_X4_best rfl rfl rfl (by decide +kernel) ⟨Nat.le_of_ble_eq_true rfl, Nat.le_of_ble_eq_true rfl⟩) (xk_preV (wc := wO I qo (qs 0) (qa 0) (xs o.1 0 (0 : Int32), o.2) ++ wS I qo qs a ++ wS I qo qa z) (q0 := 0) (ci := 4) hN hP hK hD [0, 1, 2, 3, 4, 5, 6, 7, 8, 9, 10, 11, 12, 13, 14] rfl rfl rfl rfl) rfl rfl hl.1 rfl (lv_room (Nat.le_of_ble_eq_true rfl)) dX4_bestCode_20 ⟨Nat.le_of_ble_eq_true rfl, Nat.le_of_ble_eq_true rfl⟩) rfl rfl rfl (by decide) rfl (fun _ => rfl) (fun z_2 H locs hP hD hS => ?_)
    have hP : va_P D vwCl (wO I qo (qs 0) (qa 0) (xs o.1 0 (0 : Int32), o.2) ++ wS I qo qs a ++ wS I qo qa z_2) H := hP
    have hD : va_D A (wO I qo (qs 0) (qa 0) (xs o.1 0 (0 : Int32), o.2) ++ wS I qo qs a ++ wS I qo qa z_2) := hD
    refine lv_goto (tgt := 31) hx hb dX4_bestCode_23 (by decide) ?_
    exact xk_iretE (wf := fun (z : MO × MS) (v : MS) => wO I qo (qs 0) (qa 0) z.1 ++ wS I qo qs z.2 ++ wS I qo qa v) (u := ((xs o.1 0 (0 : Int32), o.2), a)) (u1 := ((s_X4_bestCode o a mi), a)) z_2 hx hb hr rfl hlocks hP hK hD hS (by unfold r_X4_bestCode; rw [if_neg c_1]) (by unfold s_X4_bestCode; rw [if_neg c_1]) dX4_bestCode_31

def g1_X4_bestPoise (o : MO) (a : MS) (mi : Int32) : MO := s_X4_no (xs o.1 0 (0 : Int32), o.2) (1 : Int32)
def r_X4_bestPoise (o : MO) (a : MS) (mi : Int32) : Int32 :=
  if (r_X4_isIn mi (1 : Int32) (240 : Int32)) = 0 then
    (r_X4_no (xs o.1 0 (0 : Int32), o.2) (1 : Int32))
  else
    (r_X4_best (xs o.1 0 (0 : Int32), o.2) a mi (0 : Int32) (31 : Int32))
def s_X4_bestPoise (o : MO) (a : MS) (mi : Int32) : MO :=
  if (r_X4_isIn mi (1 : Int32) (240 : Int32)) = 0 then
    (g1_X4_bestPoise o a mi)
  else
    (xs o.1 0 (0 : Int32), o.2)
set_option maxHeartbeats 800000 in
set_option maxRecDepth 100000 in
theorem c_X4_bestPoise (l : Launch) (D : va_G) (I : ClassId) (qo qs qa : Nat → Nat) (sz : Nat) (o : MO) (a : MS) (z : MS) (mi : Int32) (hn : nOk (o.1 1)) (hp : pOk (a.1 5)) (hm1 : 0 ≤ (a.1 0).toInt) (hm2 : (a.1 0).toInt < 1000000000) : xMiE l D [(I, .int)] yX4_bestPoise wsX4_bestPoise { frames := 6, cells := 0, slots := 0, locals := 128 } [.ref (qo 0), .int mi] sz (wO I qo (qs 0) (qa 0) o ++ wS I qo qs a ++ wS I qo qa z) MS (r_X4_bestPoise o a mi) (fun v : MS => wO I qo (qs 0) (qa 0) (s_X4_bestPoise o a mi) ++ wS I qo qs a ++ wS I qo qa v) 0 0 := by
  refine xk_start (cc := cX4_bestPoise) (maxL := 2) (ret := (some .int)) (Qf := fun A => xQiE D [(I, .int)] A MS (r_X4_bestPoise o a mi) (fun v : MS => wO I qo (qs 0) (qa 0) (s_X4_bestPoise o a mi) ++ wS I qo qs a ++ wS I qo qa v)) (by decide) rfl (Nat.le_of_ble_eq_true rfl) ?_
  intro p e s m below meth c A H ls hst hAe hsz hl
  obtain ⟨hx, hb, hr, hts, hown, hlocks, hml, hin, hN, hK, hP, hD, hA, hS⟩ := hst
  have hl : lv_has ls 2 [(0, .ref (qo 0)), (1, .int mi)] := hl
  have hP : va_P D vwCl (wO I qo (qs 0) (qa 0) o ++ wS I qo qs a ++ wS I qo qa z) H := hP
  have hinX4 : ∀ w ∈ u_ws RX4 TX4 8, w ∈ wsX4_bestPoise := by decide +kernel
  have w_1 := hts (.fieldLink RX4 34 "BridgeBellsModel" "thrown" "I") (by decide +kernel)
  refine lv_aload_n hx hb dX4_bestPoise_0 rfl (lv_at hl 0 rfl) ?_
  refine lv_iconst (v := (0 : Int32)) hx hb dX4_bestPoise_1 (by decide) ?_
  refine va_put (D := D) (ci := 4) (v := .int (0 : Int32)) (ty := tyX4 0) (C := RX4) (T := TX4) (N := 8) hx hb hts hinX4 tyX4 tyX4_ok nmX4 hown hK hP hD hS 0 rfl rfl 0 (by decide) w_1 (fun _ h9 => h9) rfl (tyX4_ok 0 (by decide)) rfl rfl (Nat.le_of_ble_eq_true rfl) dX4_bestPoise_2 (fun H locs hP hD hS => ?_)
  have hP : va_P D vwCl (wO I qo (qs 0) (qa 0) (xs o.1 0 (0 : Int32), o.2) ++ wS I qo qs a ++ wS I qo qa z) H := hP
  have hD : va_D A (wO I qo (qs 0) (qa 0) (xs o.1 0 (0 : Int32), o.2) ++ wS I qo qs a ++ wS I qo qa z) := hD
  refine lv_iload_n hx hb dX4_bestPoise_5 rfl (lv_at hl 1 rfl) ?_
  refine lv_iconst (v := (1 : Int32)) hx hb dX4_bestPoise_6 (by decide) ?_
  refine lv_sipush (v := (240 : Int32)) hx hb dX4_bestPoise_7 (by decide) ?_
  refine xk_calli ([cMO qo (qs 0) (qa 0) (xs o.1 0 (0 : Int32)), cA I (qo 1) 40 (o.2 0), cA I (qo 2) 40 (o.2 1), cA I (qo 3) 40 (o.2 2), cA I (qo 4) 8 (o.2 3), cMS qo qs a.1, cA I (qs 1) 40 (a.2 0), cA I (qs 2) 40 (a.2 1), cA I (qs 3) 40 (a.2 2), cA I (qs 4) 40 (a.2 3), cMS qo qa z.1, cA I (qa 1) 40 (z.2 0), cA I (qa 2) 40 (z.2 1), cA I (qa 3) 40 (z.2 2), cA I (qa 4) 40 (z.2 3)]) (wO I qo (qs 0) (qa 0) (xs o.1 0 (0 : Int32), o.2) ++ wS I qo qs a ++ wS I qo qa z) [] [0, 1, 2, 3, 4, 5, 6, 7, 8, 9, 10, 11, 12, 13, 14] [0, 1, 2, 3, 4, 5, 6, 7, 8, 9, 10, 11, 12, 13, 14] hP hD hS hA (va_runS (As := [.int mi, .int (1 : Int32), .int (240 : Int32)]) (rest := []) ⟨hx, hb, hml, hown, hts⟩ (c_X4_isIn l D I  H.size mi (1 : Int32) (240 : Int32) ) (va_cwS 3 hts gX4_bestPoise_X4_isIn rfl rfl rfl (by decide +kernel) ⟨Nat.le_of_ble_eq_true rfl, Nat.le_of_ble_eq_true rfl⟩) (xk_pre (wc := ([] : va_W)) hN hP hK hD [] rfl rfl) rfl rfl hl.1 rfl (lv_room (Nat.le_of_ble_eq_true rfl)) dX4_bestPoise_10 ⟨Nat.le_of_ble_eq_true rfl, Nat.le_of_ble_eq_true rfl⟩) rfl rfl rfl (by decide) rfl rfl (fun H locs hP hD hS => ?_)
  refine lv_if_eq (tgt := 27) hx hb dX4_bestPoise_13 (by decide) (fun c_1 => ?_) (fun c_1 => ?_)
  · refine lv_aload_n hx hb dX4_bestPoise_27 rfl (lv_at hl 0 rfl) ?_
    refine lv_iconst (v := (1 : Int32)) hx hb dX4_bestPoise_28 (by decide) ?_
    refine xk_calli ([cMS qo qs a.1, cA I (qs 1) 40 (a.2 0), cA I (qs 2) 40 (a.2 1), cA I (qs 3) 40 (a.2 2), cA I (qs 4) 40 (a.2 3), cMS qo qa z.1, cA I (qa 1) 40 (z.2 0), cA I (qa 2) 40 (z.2 1), cA I (qa 3) 40 (z.2 2), cA I (qa 4) 40 (z.2 3)]) (wO I qo (qs 0) (qa 0) (s_X4_no (xs o.1 0 (0 : Int32), o.2) (1 : Int32)) ++ wS I qo qs a ++ wS I qo qa z) [0, 1, 2, 3, 4] [5, 6, 7, 8, 9, 10, 11, 12, 13, 14] [10, 11, 12, 13, 14, 0, 1, 2, 3, 4, 5, 6, 7, 8, 9] hP hD hS hA (va_runV (As := [.int (1 : Int32)]) (rest := []) ⟨hx, hb, hml, hown, hts⟩ (c_X4_no l D I qo (qs 0) (qa 0) H.size (xs o.1 0 (0 : Int32), o.2) (1 : Int32) ) (cwV 1 hts gX4_bestPoise_X4_no rfl rfl rfl (by decide +kernel) ⟨Nat.le_of_ble_eq_true rfl, Nat.le_of_ble_eq_true rfl⟩) (xk_preV (wc := wO I qo (qs 0) (qa 0) (xs o.1 0 (0 : Int32), o.2)) (q0 := 0) (ci := 4) hN hP hK hD [0, 1, 2, 3, 4] rfl rfl rfl rfl) rfl rfl hl.1 rfl (lv_room (Nat.le_of_ble_eq_true rfl)) dX4_bestPoise_29 ⟨Nat.le_of_ble_eq_true rfl, Nat.le_of_ble_eq_true rfl⟩) rfl rfl rfl (by decide) rfl rfl (fun H locs hP hD hS => ?_)
    generalize hz_1 : s_X4_no (xs o.1 0 (0 : Int32), o.2) (1 : Int32) = z_1 at hP hD
    have hg_1 : g1_X4_bestPoise o a mi = z_1 := by rw [← hz_1]; rfl
    exact xk_iretE (wf := fun (z : MO × MS) (v : MS) => wO I qo (qs 0) (qa 0) z.1 ++ wS I qo qs z.2 ++ wS I qo qa v) (u := (z_1, a)) (u1 := ((s_X4_bestPoise o a mi), a)) z hx hb hr rfl hlocks hP hK hD hS (by subst hg_1; unfold r_X4_bestPoise; rw [if_pos c_1]) (by subst hg_1; unfold s_X4_bestPoise; rw [if_pos c_1]) dX4_bestPoise_32
  · refine lv_aload_n hx hb dX4_bestPoise_16 rfl (lv_at hl 0 rfl) ?_
    refine lv_iload_n hx hb dX4_bestPoise_17 rfl (lv_at hl 1 rfl) ?_
    refine lv_iconst (v := (0 : Int32)) hx hb dX4_bestPoise_18 (by decide) ?_
    refine lv_bipush (v := (31 : Int32)) hx hb dX4_bestPoise_19 (by decide) ?_
    refine xk_calliE ([]) (fun v : MS => wO I qo (qs 0) (qa 0) (xs o.1 0 (0 : Int32), o.2) ++ wS I qo qs a ++ wS I qo qa v) [0, 1, 2, 3, 4, 5, 6, 7, 8, 9, 10, 11, 12, 13, 14] [] [0, 1, 2, 3, 4, 5, 6, 7, 8, 9, 10, 11, 12, 13, 14] hP hD hS hA (va_runV (As := [.int mi, .int (0 : Int32), .int (31 : Int32)]) (rest := []) ⟨hx, hb, hml, hown, hts⟩ (c_X4_best l D I qo qs qa H.size (xs o.1 0 (0 : Int32), o.2) a z mi (0 : Int32) (31 : Int32) hn hp hm1 hm2 (isIn_mi c_1).1 (isIn_mi c_1).2 (by decide) (by decide)) (cwV 3 hts gX4_bestPoise_X4_best rfl rfl rfl (by decide +kernel) ⟨Nat.le_of_ble_eq_true rfl, Nat.le_of_ble_eq_true rfl⟩) (xk_preV (wc := wO I qo (qs 0) (qa 0) (xs o.1 0 (0 : Int32), o.2) ++ wS I qo qs a ++ wS I qo qa z) (q0 := 0) (ci := 4) hN hP hK hD [0, 1, 2, 3, 4, 5, 6, 7, 8, 9, 10, 11, 12, 13, 14] rfl rfl rfl rfl) rfl rfl hl.1 rfl (lv_room (Nat.le_of_ble_eq_true rfl)) dX4_bestPoise_21 ⟨Nat.le_of_ble_eq_true rfl, Nat.le_of_ble_eq_true rfl⟩) rfl rfl rfl (by decide) rfl (fun _ => rfl) (fun z_2 H locs hP hD hS => ?_)
    have hP : va_P D vwCl (wO I qo (qs 0) (qa 0) (xs o.1 0 (0 : Int32), o.2) ++ wS I qo qs a ++ wS I qo qa z_2) H := hP
    have hD : va_D A (wO I qo (qs 0) (qa 0) (xs o.1 0 (0 : Int32), o.2) ++ wS I qo qs a ++ wS I qo qa z_2) := hD
    refine lv_goto (tgt := 32) hx hb dX4_bestPoise_24 (by decide) ?_
    exact xk_iretE (wf := fun (z : MO × MS) (v : MS) => wO I qo (qs 0) (qa 0) z.1 ++ wS I qo qs z.2 ++ wS I qo qa v) (u := ((xs o.1 0 (0 : Int32), o.2), a)) (u1 := ((s_X4_bestPoise o a mi), a)) z_2 hx hb hr rfl hlocks hP hK hD hS (by unfold r_X4_bestPoise; rw [if_neg c_1]) (by unfold s_X4_bestPoise; rw [if_neg c_1]) dX4_bestPoise_32

def r_X4_mean (o : MO) (a : MS) : UInt64 :=
  if (o.1 1) = 0 then
    FP.dconst0
  else
    (FP.ddiv (FP.i2d (r_X3_sumWaited (xs o.1 0 (0 : Int32), o.2) a)) (FP.i2d (o.1 1)))
def s_X4_mean (o : MO) (a : MS) : MO :=
  if (o.1 1) = 0 then
    (xs o.1 0 (0 : Int32), o.2)
  else
    (xs o.1 0 (0 : Int32), o.2)
set_option maxHeartbeats 800000 in
set_option maxRecDepth 100000 in
theorem c_X4_mean (l : Launch) (D : va_G) (I : ClassId) (qo qs qa : Nat → Nat) (sz : Nat) (o : MO) (a : MS) (z : MS) (hn : nOk (o.1 1)) : xMd l D [(I, .int)] yX4_mean wsX4_mean { frames := 1, cells := 0, slots := 0, locals := 22 } [.ref (qo 0)] sz (wO I qo (qs 0) (qa 0) o ++ wS I qo qs a ++ wS I qo qa z) (r_X4_mean o a) (wO I qo (qs 0) (qa 0) (s_X4_mean o a) ++ wS I qo qs a ++ wS I qo qa z) 0 0 := by
  refine xk_start (cc := cX4_mean) (maxL := 1) (ret := (some .double)) (Qf := fun A => xQd D [(I, .int)] A (r_X4_mean o a) (wO I qo (qs 0) (qa 0) (s_X4_mean o a) ++ wS I qo qs a ++ wS I qo qa z)) (by decide) rfl (Nat.le_of_ble_eq_true rfl) ?_
  intro p e s m below meth c A H ls hst hAe hsz hl
  obtain ⟨hx, hb, hr, hts, hown, hlocks, hml, hin, hN, hK, hP, hD, hA, hS⟩ := hst
  have hl : lv_has ls 1 [(0, .ref (qo 0))] := hl
  have hP : va_P D vwCl (wO I qo (qs 0) (qa 0) o ++ wS I qo qs a ++ wS I qo qa z) H := hP
  have hinX4 : ∀ w ∈ u_ws RX4 TX4 8, w ∈ wsX4_mean := by decide +kernel
  have w_1 := hts (.fieldLink RX4 34 "BridgeBellsModel" "thrown" "I") (by decide +kernel)
  have w_2 := hts (.fieldLink RX4 38 "BridgeBellsModel" "travellers" "I") (by decide +kernel)
  have w_3 := hts (.fieldLink RX4 27 "BridgeBellsModel" "s" "LBridgeBellsModel$State;") (by decide +kernel)
  refine lv_aload_n hx hb dX4_mean_0 rfl (lv_at hl 0 rfl) ?_
  refine lv_iconst (v := (0 : Int32)) hx hb dX4_mean_1 (by decide) ?_
  refine va_put (D := D) (ci := 4) (v := .int (0 : Int32)) (ty := tyX4 0) (C := RX4) (T := TX4) (N := 8) hx hb hts hinX4 tyX4 tyX4_ok nmX4 hown hK hP hD hS 0 rfl rfl 0 (by decide) w_1 (fun _ h9 => h9) rfl (tyX4_ok 0 (by decide)) rfl rfl (Nat.le_of_ble_eq_true rfl) dX4_mean_2 (fun H locs hP hD hS => ?_)
  have hP : va_P D vwCl (wO I qo (qs 0) (qa 0) (xs o.1 0 (0 : Int32), o.2) ++ wS I qo qs a ++ wS I qo qa z) H := hP
  have hD : va_D A (wO I qo (qs 0) (qa 0) (xs o.1 0 (0 : Int32), o.2) ++ wS I qo qs a ++ wS I qo qa z) := hD
  refine lv_aload_n hx hb dX4_mean_5 rfl (lv_at hl 0 rfl) ?_
  refine va_get (D := D) (ci := 4) (v := .int (o.1 1)) (C := RX4) (T := TX4) (N := 8) hx hb hts hinX4 hown hK hP 0 rfl rfl 1 (by decide) w_2 (fun _ h9 => h9) rfl dX4_mean_6 ?_
  refine lv_if_ne (tgt := 16) hx hb dX4_mean_9 (by decide) (fun c_1 => ?_) (fun c_1 => ?_)
  · refine lv_aload_n hx hb dX4_mean_16 rfl (lv_at hl 0 rfl) ?_
    refine va_get (D := D) (ci := 4) (v := .ref (qs 0)) (C := RX4) (T := TX4) (N := 8) hx hb hts hinX4 hown hK hP 0 rfl rfl 6 (by decide) w_3 (fun _ h9 => h9) rfl dX4_mean_17 ?_
    refine xk_calli ([cMS qo qa z.1, cA I (qa 1) 40 (z.2 0), cA I (qa 2) 40 (z.2 1), cA I (qa 3) 40 (z.2 2), cA I (qa 4) 40 (z.2 3)]) (wO I qo (qs 0) (qa 0) (xs o.1 0 (0 : Int32), o.2) ++ wS I qo qs a ++ wS I qo qa z) [0, 1, 2, 3, 4, 5, 6, 7, 8, 9] [10, 11, 12, 13, 14] [5, 6, 7, 8, 9, 10, 11, 12, 13, 14, 0, 1, 2, 3, 4] hP hD hS hA (va_runV (As := []) (rest := []) ⟨hx, hb, hml, hown, hts⟩ (c_X3_sumWaited l D I qo (qs 0) (qa 0) qs H.size (xs o.1 0 (0 : Int32), o.2) a hn) (cwV 0 hts gX4_mean_X3_sumWaited rfl rfl rfl (by decide +kernel) ⟨Nat.le_of_ble_eq_true rfl, Nat.le_of_ble_eq_true rfl⟩) (xk_preV (wc := wO I qo (qs 0) (qa 0) (xs o.1 0 (0 : Int32), o.2) ++ wS I qo qs a) (q0 := 5) (ci := 3) hN hP hK hD [0, 1, 2, 3, 4, 5, 6, 7, 8, 9] rfl rfl rfl rfl) rfl rfl hl.1 rfl (lv_room (Nat.le_of_ble_eq_true rfl)) dX4_mean_20 ⟨Nat.le_of_ble_eq_true rfl, Nat.le_of_ble_eq_true rfl⟩) rfl rfl rfl (by decide) rfl rfl (fun H locs hP hD hS => ?_)
    refine lv_i2d hx hb dX4_mean_23 ?_
    refine lv_aload_n hx hb dX4_mean_24 rfl (lv_at hl 0 rfl) ?_
    refine va_get (D := D) (ci := 4) (v := .int (o.1 1)) (C := RX4) (T := TX4) (N := 8) hx hb hts hinX4 hown hK hP 0 rfl rfl 1 (by decide) w_2 (fun _ h9 => h9) rfl dX4_mean_25 ?_
    refine lv_i2d hx hb dX4_mean_28 ?_
    refine lv_ddiv hx hb dX4_mean_29 (mean_nn _ _ c_1) ?_
    exact xk_dret (wf := fun z : MO × MS × MS => wO I qo (qs 0) (qa 0) z.1 ++ wS I qo qs z.2.1 ++ wS I qo qa z.2.2) (u := ((xs o.1 0 (0 : Int32), o.2), a, z)) (u1 := ((s_X4_mean o a), a, z)) hx hb hr hlocks hP hK hD hS (by unfold r_X4_mean; rw [if_neg c_1]) (by unfold s_X4_mean; rw [if_neg c_1]) dX4_mean_30
  · refine lv_dconst0 hx hb dX4_mean_12 ?_
    refine lv_goto (tgt := 30) hx hb dX4_mean_13 (by decide) ?_
    exact xk_dret (wf := fun z : MO × MS × MS => wO I qo (qs 0) (qa 0) z.1 ++ wS I qo qs z.2.1 ++ wS I qo qa z.2.2) (u := ((xs o.1 0 (0 : Int32), o.2), a, z)) (u1 := ((s_X4_mean o a), a, z)) hx hb hr hlocks hP hK hD hS (by unfold r_X4_mean; rw [if_pos c_1]) (by unfold s_X4_mean; rw [if_pos c_1]) dX4_mean_30

