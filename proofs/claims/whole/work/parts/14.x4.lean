set_option maxHeartbeats 800000 in
set_option maxRecDepth 100000 in
theorem c_X3_copy (l : Launch) (D : va_G) (I : ClassId) (h x1 x2 : Nat) (sz : Nat) (f : (Nat → Int32)) (g : (Nat → Int32))  : xMv l D [(I, .int)] yX3_copy wsX3_copy { frames := 1, cells := 0, slots := 0, locals := 18 } [.ref h, .ref x1, .ref x2] sz ([cA I x1 40 f] ++ [cA I x2 40 g]) ([cA I x1 40 f] ++ [cA I x2 40 f]) 0 0 := by
  refine xk_start (cc := cX3_copy) (maxL := 3) (ret := none) (Qf := fun A => xQv D [(I, .int)] A ([cA I x1 40 f] ++ [cA I x2 40 f])) (by decide) rfl (Nat.le_of_ble_eq_true rfl) ?_
  intro p e s m below meth c A H ls hst hAe hsz hl
  obtain ⟨hx, hb, hr, hts, hown, hlocks, hml, hin, hN, hK, hP, hD, hA, hS⟩ := hst
  have hl : lv_has ls 3 [(0, .ref h), (1, .ref x1), (2, .ref x2)] := hl
  have hP : va_P D vwCl ([cA I x1 40 f] ++ [cA I x2 40 g]) H := hP
  have w_1 := hts (.methodLink RX3 35 arraycopyName) (by decide +kernel)
  have w_2 := hts (.native arraycopyName) (by decide +kernel)
  have w_3 := hts (.static arraycopyName) (by decide +kernel)
  have w_4 := hts (.initialized "java/lang/System") (by decide +kernel)
  refine lv_aload_n hx hb dX3_copy_0 rfl (lv_at hl 1 rfl) ?_
  refine lv_iconst (v := (0 : Int32)) hx hb dX3_copy_1 (by decide) ?_
  refine lv_aload_n hx hb dX3_copy_2 rfl (lv_at hl 2 rfl) ?_
  refine lv_iconst (v := (0 : Int32)) hx hb dX3_copy_3 (by decide) ?_
  refine lv_aload_n hx hb dX3_copy_4 rfl (lv_at hl 1 rfl) ?_
  refine va_alen (v := (40 : Int32)) hx hb hK hP 0 0 rfl rfl rfl dX3_copy_5 ?_
  refine va_copyi hx hb (hml.trans hl.1.symm) hown w_1 w_2 w_3 w_4 hK hP hD hS 0 1 0 0 rfl rfl rfl rfl rfl (by decide) (by decide) (by decide) (by decide) (by decide) (fun _ _ => rfl) (Nat.le_of_ble_eq_true rfl) (Nat.le_of_ble_eq_true rfl) dX3_copy_6 (fun H locs hP hD hS => ?_)
  have hP := xk_arrP (g := f) 1 hP rfl (cpy_all (by decide))
  have hD := xk_arrD (g := f) 1 hD rfl
  have hP : va_P D vwCl ([cA I x1 40 f] ++ [cA I x2 40 f]) H := hP
  have hD : va_D A ([cA I x1 40 f] ++ [cA I x2 40 f]) := hD
  have hP : va_P D vwCl ([cA I x1 40 f] ++ [cA I x2 40 f]) H := hP
  have hD : va_D A ([cA I x1 40 f] ++ [cA I x2 40 f]) := hD
  exact xk_vret (wf := fun z : (Nat → Int32) × (Nat → Int32) => [cA I x1 40 z.1] ++ [cA I x2 40 z.2]) (u := (f, f)) (u1 := (f, f)) hx hb hr hlocks hP hK hD hS rfl dX3_copy_9

set_option maxHeartbeats 800000 in
set_option maxRecDepth 100000 in
theorem c_X3_become (l : Launch) (D : va_G) (I : ClassId) (qo qs qr : Nat → Nat) (sz : Nat) (a : MS) (b : MS)  : xMv l D [(I, .int)] yX3_become wsX3_become { frames := 2, cells := 0, slots := 0, locals := 40 } [.ref (qs 0), .ref (qr 0)] sz (wS I qo qs a ++ wS I qo qr b) (wS I qo qs b ++ wS I qo qr b) 0 0 := by
  refine xk_start (cc := cX3_become) (maxL := 2) (ret := none) (Qf := fun A => xQv D [(I, .int)] A (wS I qo qs b ++ wS I qo qr b)) (by decide) rfl (Nat.le_of_ble_eq_true rfl) ?_
  intro p e s m below meth c A H ls hst hAe hsz hl
  obtain ⟨hx, hb, hr, hts, hown, hlocks, hml, hin, hN, hK, hP, hD, hA, hS⟩ := hst
  have hl : lv_has ls 2 [(0, .ref (qs 0)), (1, .ref (qr 0))] := hl
  have hP : va_P D vwCl (wS I qo qs a ++ wS I qo qr b) H := hP
  have hinX3 : ∀ w ∈ u_ws RX3 TX3 12, w ∈ wsX3_become := by decide +kernel
  have w_1 := hts (.fieldLink RX3 41 "BridgeBellsModel$State" "minute" "I") (by decide +kernel)
  have w_2 := hts (.fieldLink RX3 44 "BridgeBellsModel$State" "angle" "I") (by decide +kernel)
  have w_3 := hts (.fieldLink RX3 15 "BridgeBellsModel$State" "poise" "I") (by decide +kernel)
  have w_4 := hts (.fieldLink RX3 47 "BridgeBellsModel$State" "ice" "I") (by decide +kernel)
  have w_5 := hts (.fieldLink RX3 50 "BridgeBellsModel$State" "code" "I") (by decide +kernel)
  have w_6 := hts (.fieldLink RX3 19 "BridgeBellsModel$State" "passer" "I") (by decide +kernel)
  have w_7 := hts (.fieldLink RX3 53 "BridgeBellsModel$State" "latest" "I") (by decide +kernel)
  have w_8 := hts (.fieldLink RX3 22 "BridgeBellsModel$State" "is" "[I") (by decide +kernel)
  have w_9 := hts (.fieldLink RX3 26 "BridgeBellsModel$State" "waited" "[I") (by decide +kernel)
  have w_10 := hts (.fieldLink RX3 29 "BridgeBellsModel$State" "left" "[I") (by decide +kernel)
  have w_11 := hts (.fieldLink RX3 32 "BridgeBellsModel$State" "when" "[I") (by decide +kernel)
  refine lv_aload_n hx hb dX3_become_0 rfl (lv_at hl 0 rfl) ?_
  refine lv_aload_n hx hb dX3_become_1 rfl (lv_at hl 1 rfl) ?_
  refine va_get (D := D) (ci := 3) (v := .int (b.1 0)) (C := RX3) (T := TX3) (N := 12) hx hb hts hinX3 hown hK hP 5 rfl rfl 0 (by decide) w_1 (fun _ h9 => h9) rfl dX3_become_2 ?_
  refine va_put (D := D) (ci := 3) (v := .int (b.1 0)) (ty := tyX3 0) (C := RX3) (T := TX3) (N := 12) hx hb hts hinX3 tyX3 tyX3_ok nmX3 hown hK hP hD hS 0 rfl rfl 0 (by decide) w_1 (fun _ h9 => h9) rfl (tyX3_ok 0 (by decide)) rfl rfl (Nat.le_of_ble_eq_true rfl) dX3_become_5 (fun H locs hP hD hS => ?_)
  have hP : va_P D vwCl (wS I qo qs (xs a.1 0 (b.1 0), a.2) ++ wS I qo qr b) H := hP
  have hD : va_D A (wS I qo qs (xs a.1 0 (b.1 0), a.2) ++ wS I qo qr b) := hD
  refine lv_aload_n hx hb dX3_become_8 rfl (lv_at hl 0 rfl) ?_
  refine lv_aload_n hx hb dX3_become_9 rfl (lv_at hl 1 rfl) ?_
  refine va_get (D := D) (ci := 3) (v := .int (b.1 1)) (C := RX3) (T := TX3) (N := 12) hx hb hts hinX3 hown hK hP 5 rfl rfl 1 (by decide) w_2 (fun _ h9 => h9) rfl dX3_become_10 ?_
  refine va_put (D := D) (ci := 3) (v := .int (b.1 1)) (ty := tyX3 1) (C := RX3) (T := TX3) (N := 12) hx hb hts hinX3 tyX3 tyX3_ok nmX3 hown hK hP hD hS 0 rfl rfl 1 (by decide) w_2 (fun _ h9 => h9) rfl (tyX3_ok 1 (by decide)) rfl rfl (Nat.le_of_ble_eq_true rfl) dX3_become_13 (fun H locs hP hD hS => ?_)
  have hP : va_P D vwCl (wS I qo qs (xs (xs a.1 0 (b.1 0)) 1 (b.1 1), a.2) ++ wS I qo qr b) H := hP
  have hD : va_D A (wS I qo qs (xs (xs a.1 0 (b.1 0)) 1 (b.1 1), a.2) ++ wS I qo qr b) := hD
  refine lv_aload_n hx hb dX3_become_16 rfl (lv_at hl 0 rfl) ?_
  refine lv_aload_n hx hb dX3_become_17 rfl (lv_at hl 1 rfl) ?_
  refine va_get (D := D) (ci := 3) (v := .int (b.1 2)) (C := RX3) (T := TX3) (N := 12) hx hb hts hinX3 hown hK hP 5 rfl rfl 2 (by decide) w_3 (fun _ h9 => h9) rfl dX3_become_18 ?_
  refine va_put (D := D) (ci := 3) (v := .int (b.1 2)) (ty := tyX3 2) (C := RX3) (T := TX3) (N := 12) hx hb hts hinX3 tyX3 tyX3_ok nmX3 hown hK hP hD hS 0 rfl rfl 2 (by decide) w_3 (fun _ h9 => h9) rfl (tyX3_ok 2 (by decide)) rfl rfl (Nat.le_of_ble_eq_true rfl) dX3_become_21 (fun H locs hP hD hS => ?_)
  have hP : va_P D vwCl (wS I qo qs (xs (xs (xs a.1 0 (b.1 0)) 1 (b.1 1)) 2 (b.1 2), a.2) ++ wS I qo qr b) H := hP
  have hD : va_D A (wS I qo qs (xs (xs (xs a.1 0 (b.1 0)) 1 (b.1 1)) 2 (b.1 2), a.2) ++ wS I qo qr b) := hD
  refine lv_aload_n hx hb dX3_become_24 rfl (lv_at hl 0 rfl) ?_
  refine lv_aload_n hx hb dX3_become_25 rfl (lv_at hl 1 rfl) ?_
  refine va_get (D := D) (ci := 3) (v := .int (b.1 3)) (C := RX3) (T := TX3) (N := 12) hx hb hts hinX3 hown hK hP 5 rfl rfl 3 (by decide) w_4 (fun _ h9 => h9) rfl dX3_become_26 ?_
  refine va_put (D := D) (ci := 3) (v := .int (b.1 3)) (ty := tyX3 3) (C := RX3) (T := TX3) (N := 12) hx hb hts hinX3 tyX3 tyX3_ok nmX3 hown hK hP hD hS 0 rfl rfl 3 (by decide) w_4 (fun _ h9 => h9) rfl (tyX3_ok 3 (by decide)) rfl rfl (Nat.le_of_ble_eq_true rfl) dX3_become_29 (fun H locs hP hD hS => ?_)
  have hP : va_P D vwCl (wS I qo qs (xs (xs (xs (xs a.1 0 (b.1 0)) 1 (b.1 1)) 2 (b.1 2)) 3 (b.1 3), a.2) ++ wS I qo qr b) H := hP
  have hD : va_D A (wS I qo qs (xs (xs (xs (xs a.1 0 (b.1 0)) 1 (b.1 1)) 2 (b.1 2)) 3 (b.1 3), a.2) ++ wS I qo qr b) := hD
  refine lv_aload_n hx hb dX3_become_32 rfl (lv_at hl 0 rfl) ?_
  refine lv_aload_n hx hb dX3_become_33 rfl (lv_at hl 1 rfl) ?_
  refine va_get (D := D) (ci := 3) (v := .int (b.1 4)) (C := RX3) (T := TX3) (N := 12) hx hb hts hinX3 hown hK hP 5 rfl rfl 4 (by decide) w_5 (fun _ h9 => h9) rfl dX3_become_34 ?_
  refine va_put (D := D) (ci := 3) (v := .int (b.1 4)) (ty := tyX3 4) (C := RX3) (T := TX3) (N := 12) hx hb hts hinX3 tyX3 tyX3_ok nmX3 hown hK hP hD hS 0 rfl rfl 4 (by decide) w_5 (fun _ h9 => h9) rfl (tyX3_ok 4 (by decide)) rfl rfl (Nat.le_of_ble_eq_true rfl) dX3_become_37 (fun H locs hP hD hS => ?_)
  have hP : va_P D vwCl (wS I qo qs (xs (xs (xs (xs (xs a.1 0 (b.1 0)) 1 (b.1 1)) 2 (b.1 2)) 3 (b.1 3)) 4 (b.1 4), a.2) ++ wS I qo qr b) H := hP
  have hD : va_D A (wS I qo qs (xs (xs (xs (xs (xs a.1 0 (b.1 0)) 1 (b.1 1)) 2 (b.1 2)) 3 (b.1 3)) 4 (b.1 4), a.2) ++ wS I qo qr b) := hD
  refine lv_aload_n hx hb dX3_become_40 rfl (lv_at hl 0 rfl) ?_
  refine lv_aload_n hx hb dX3_become_41 rfl (lv_at hl 1 rfl) ?_
  refine va_get (D := D) (ci := 3) (v := .int (b.1 5)) (C := RX3) (T := TX3) (N := 12) hx hb hts hinX3 hown hK hP 5 rfl rfl 5 (by decide) w_6 (fun _ h9 => h9) rfl dX3_become_42 ?_
  refine va_put (D := D) (ci := 3) (v := .int (b.1 5)) (ty := tyX3 5) (C := RX3) (T := TX3) (N := 12) hx hb hts hinX3 tyX3 tyX3_ok nmX3 hown hK hP hD hS 0 rfl rfl 5 (by decide) w_6 (fun _ h9 => h9) rfl (tyX3_ok 5 (by decide)) rfl rfl (Nat.le_of_ble_eq_true rfl) dX3_become_45 (fun H locs hP hD hS => ?_)
  have hP : va_P D vwCl (wS I qo qs (xs (xs (xs (xs (xs (xs a.1 0 (b.1 0)) 1 (b.1 1)) 2 (b.1 2)) 3 (b.1 3)) 4 (b.1 4)) 5 (b.1 5), a.2) ++ wS I qo qr b) H := hP
  have hD : va_D A (wS I qo qs (xs (xs (xs (xs (xs (xs a.1 0 (b.1 0)) 1 (b.1 1)) 2 (b.1 2)) 3 (b.1 3)) 4 (b.1 4)) 5 (b.1 5), a.2) ++ wS I qo qr b) := hD
  refine lv_aload_n hx hb dX3_become_48 rfl (lv_at hl 0 rfl) ?_
  refine lv_aload_n hx hb dX3_become_49 rfl (lv_at hl 1 rfl) ?_
  refine va_get (D := D) (ci := 3) (v := .int (b.1 6)) (C := RX3) (T := TX3) (N := 12) hx hb hts hinX3 hown hK hP 5 rfl rfl 6 (by decide) w_7 (fun _ h9 => h9) rfl dX3_become_50 ?_
  refine va_put (D := D) (ci := 3) (v := .int (b.1 6)) (ty := tyX3 6) (C := RX3) (T := TX3) (N := 12) hx hb hts hinX3 tyX3 tyX3_ok nmX3 hown hK hP hD hS 0 rfl rfl 6 (by decide) w_7 (fun _ h9 => h9) rfl (tyX3_ok 6 (by decide)) rfl rfl (Nat.le_of_ble_eq_true rfl) dX3_become_53 (fun H locs hP hD hS => ?_)
  have hP : va_P D vwCl (wS I qo qs (xs (xs (xs (xs (xs (xs (xs a.1 0 (b.1 0)) 1 (b.1 1)) 2 (b.1 2)) 3 (b.1 3)) 4 (b.1 4)) 5 (b.1 5)) 6 (b.1 6), a.2) ++ wS I qo qr b) H := hP
  have hD : va_D A (wS I qo qs (xs (xs (xs (xs (xs (xs (xs a.1 0 (b.1 0)) 1 (b.1 1)) 2 (b.1 2)) 3 (b.1 3)) 4 (b.1 4)) 5 (b.1 5)) 6 (b.1 6), a.2) ++ wS I qo qr b) := hD
  refine lv_aload_n hx hb dX3_become_56 rfl (lv_at hl 0 rfl) ?_
  refine lv_aload_n hx hb dX3_become_57 rfl (lv_at hl 1 rfl) ?_
  refine va_get (D := D) (ci := 3) (v := .ref (qr 1)) (C := RX3) (T := TX3) (N := 12) hx hb hts hinX3 hown hK hP 5 rfl rfl 7 (by decide) w_8 (fun _ h9 => h9) rfl dX3_become_58 ?_
  refine lv_aload_n hx hb dX3_become_61 rfl (lv_at hl 0 rfl) ?_
  refine va_get (D := D) (ci := 3) (v := .ref (qs 1)) (C := RX3) (T := TX3) (N := 12) hx hb hts hinX3 hown hK hP 0 rfl rfl 7 (by decide) w_8 (fun _ h9 => h9) rfl dX3_become_62 ?_
  refine xk_callv ([cMS qo qs (xs (xs (xs (xs (xs (xs (xs a.1 0 (b.1 0)) 1 (b.1 1)) 2 (b.1 2)) 3 (b.1 3)) 4 (b.1 4)) 5 (b.1 5)) 6 (b.1 6)), cA I (qs 2) 40 (a.2 1), cA I (qs 3) 40 (a.2 2), cA I (qs 4) 40 (a.2 3), cMS qo qr b.1, cA I (qr 2) 40 (b.2 1), cA I (qr 3) 40 (b.2 2), cA I (qr 4) 40 (b.2 3)]) (wS I qo qs (xs (xs (xs (xs (xs (xs (xs a.1 0 (b.1 0)) 1 (b.1 1)) 2 (b.1 2)) 3 (b.1 3)) 4 (b.1 4)) 5 (b.1 5)) 6 (b.1 6), xa a.2 0 (b.2 0)) ++ wS I qo qr b) [6, 1] [0, 2, 3, 4, 5, 7, 8, 9] [0, 9, 1, 2, 3, 4, 8, 5, 6, 7] hP hD hS hA (va_runV (As := [.ref (qr 1), .ref (qs 1)]) (rest := []) ⟨hx, hb, hml, hown, hts⟩ (c_X3_copy l D I (qs 0) (qr 1) (qs 1) H.size (b.2 0) (a.2 0) ) (cwV 2 hts gX3_become_X3_copy rfl rfl rfl (by decide +kernel) ⟨Nat.le_of_ble_eq_true rfl, Nat.le_of_ble_eq_true rfl⟩) (xk_preV (wc := [cA I (qr 1) 40 (b.2 0)] ++ [cA I (qs 1) 40 (a.2 0)]) (q0 := 0) (ci := 3) hN hP hK hD [6, 1] rfl rfl rfl rfl) rfl rfl hl.1 rfl (lv_room (Nat.le_of_ble_eq_true rfl)) dX3_become_65 ⟨Nat.le_of_ble_eq_true rfl, Nat.le_of_ble_eq_true rfl⟩) rfl rfl rfl (by decide) rfl rfl (fun H locs hP hD hS => ?_)
  refine lv_aload_n hx hb dX3_become_68 rfl (lv_at hl 0 rfl) ?_
  refine lv_aload_n hx hb dX3_become_69 rfl (lv_at hl 1 rfl) ?_
  refine va_get (D := D) (ci := 3) (v := .ref (qr 2)) (C := RX3) (T := TX3) (N := 12) hx hb hts hinX3 hown hK hP 5 rfl rfl 8 (by decide) w_9 (fun _ h9 => h9) rfl dX3_become_70 ?_
  refine lv_aload_n hx hb dX3_become_73 rfl (lv_at hl 0 rfl) ?_
  refine va_get (D := D) (ci := 3) (v := .ref (qs 2)) (C := RX3) (T := TX3) (N := 12) hx hb hts hinX3 hown hK hP 0 rfl rfl 8 (by decide) w_9 (fun _ h9 => h9) rfl dX3_become_74 ?_
  refine xk_callv ([cMS qo qs (xs (xs (xs (xs (xs (xs (xs a.1 0 (b.1 0)) 1 (b.1 1)) 2 (b.1 2)) 3 (b.1 3)) 4 (b.1 4)) 5 (b.1 5)) 6 (b.1 6)), cA I (qs 1) 40 (b.2 0), cA I (qs 3) 40 (a.2 2), cA I (qs 4) 40 (a.2 3), cMS qo qr b.1, cA I (qr 1) 40 (b.2 0), cA I (qr 3) 40 (b.2 2), cA I (qr 4) 40 (b.2 3)]) (wS I qo qs (xs (xs (xs (xs (xs (xs (xs a.1 0 (b.1 0)) 1 (b.1 1)) 2 (b.1 2)) 3 (b.1 3)) 4 (b.1 4)) 5 (b.1 5)) 6 (b.1 6), xa (xa a.2 0 (b.2 0)) 1 (b.2 1)) ++ wS I qo qr b) [7, 2] [0, 1, 3, 4, 5, 6, 8, 9] [0, 1, 9, 2, 3, 4, 5, 8, 6, 7] hP hD hS hA (va_runV (As := [.ref (qr 2), .ref (qs 2)]) (rest := []) ⟨hx, hb, hml, hown, hts⟩ (c_X3_copy l D I (qs 0) (qr 2) (qs 2) H.size (b.2 1) (a.2 1) ) (cwV 2 hts gX3_become_X3_copy rfl rfl rfl (by decide +kernel) ⟨Nat.le_of_ble_eq_true rfl, Nat.le_of_ble_eq_true rfl⟩) (xk_preV (wc := [cA I (qr 2) 40 (b.2 1)] ++ [cA I (qs 2) 40 (a.2 1)]) (q0 := 0) (ci := 3) hN hP hK hD [7, 2] rfl rfl rfl rfl) rfl rfl hl.1 rfl (lv_room (Nat.le_of_ble_eq_true rfl)) dX3_become_77 ⟨Nat.le_of_ble_eq_true rfl, Nat.le_of_ble_eq_true rfl⟩) rfl rfl rfl (by decide) rfl rfl (fun H locs hP hD hS => ?_)
  refine lv_aload_n hx hb dX3_become_80 rfl (lv_at hl 0 rfl) ?_
  refine lv_aload_n hx hb dX3_become_81 rfl (lv_at hl 1 rfl) ?_
  refine va_get (D := D) (ci := 3) (v := .ref (qr 3)) (C := RX3) (T := TX3) (N := 12) hx hb hts hinX3 hown hK hP 5 rfl rfl 9 (by decide) w_10 (fun _ h9 => h9) rfl dX3_become_82 ?_
  refine lv_aload_n hx hb dX3_become_85 rfl (lv_at hl 0 rfl) ?_
  refine va_get (D := D) (ci := 3) (v := .ref (qs 3)) (C := RX3) (T := TX3) (N := 12) hx hb hts hinX3 hown hK hP 0 rfl rfl 9 (by decide) w_10 (fun _ h9 => h9) rfl dX3_become_86 ?_
  refine xk_callv ([cMS qo qs (xs (xs (xs (xs (xs (xs (xs a.1 0 (b.1 0)) 1 (b.1 1)) 2 (b.1 2)) 3 (b.1 3)) 4 (b.1 4)) 5 (b.1 5)) 6 (b.1 6)), cA I (qs 1) 40 (b.2 0), cA I (qs 2) 40 (b.2 1), cA I (qs 4) 40 (a.2 3), cMS qo qr b.1, cA I (qr 1) 40 (b.2 0), cA I (qr 2) 40 (b.2 1), cA I (qr 4) 40 (b.2 3)]) (wS I qo qs (xs (xs (xs (xs (xs (xs (xs a.1 0 (b.1 0)) 1 (b.1 1)) 2 (b.1 2)) 3 (b.1 3)) 4 (b.1 4)) 5 (b.1 5)) 6 (b.1 6), xa (xa (xa a.2 0 (b.2 0)) 1 (b.2 1)) 2 (b.2 2)) ++ wS I qo qr b) [8, 3] [0, 1, 2, 4, 5, 6, 7, 9] [0, 1, 2, 9, 3, 4, 5, 6, 8, 7] hP hD hS hA (va_runV (As := [.ref (qr 3), .ref (qs 3)]) (rest := []) ⟨hx, hb, hml, hown, hts⟩ (c_X3_copy l D I (qs 0) (qr 3) (qs 3) H.size (b.2 2) (a.2 2) ) (cwV 2 hts gX3_become_X3_copy rfl rfl rfl (by decide +kernel) ⟨Nat.le_of_ble_eq_true rfl, Nat.le_of_ble_eq_true rfl⟩) (xk_preV (wc := [cA I (qr 3) 40 (b.2 2)] ++ [cA I (qs 3) 40 (a.2 2)]) (q0 := 0) (ci := 3) hN hP hK hD [8, 3] rfl rfl rfl rfl) rfl rfl hl.1 rfl (lv_room (Nat.le_of_ble_eq_true rfl)) dX3_become_89 ⟨Nat.le_of_ble_eq_true rfl, Nat.le_of_ble_eq_true rfl⟩) rfl rfl rfl (by decide) rfl rfl (fun H locs hP hD hS => ?_)
  refine lv_aload_n hx hb dX3_become_92 rfl (lv_at hl 0 rfl) ?_
  refine lv_aload_n hx hb dX3_become_93 rfl (lv_at hl 1 rfl) ?_
  refine va_get (D := D) (ci := 3) (v := .ref (qr 4)) (C := RX3) (T := TX3) (N := 12) hx hb hts hinX3 hown hK hP 5 rfl rfl 10 (by decide) w_11 (fun _ h9 => h9) rfl dX3_become_94 ?_
  refine lv_aload_n hx hb dX3_become_97 rfl (lv_at hl 0 rfl) ?_
  refine va_get (D := D) (ci := 3) (v := .ref (qs 4)) (C := RX3) (T := TX3) (N := 12) hx hb hts hinX3 hown hK hP 0 rfl rfl 10 (by decide) w_11 (fun _ h9 => h9) rfl dX3_become_98 ?_
  refine xk_callv ([cMS qo qs (xs (xs (xs (xs (xs (xs (xs a.1 0 (b.1 0)) 1 (b.1 1)) 2 (b.1 2)) 3 (b.1 3)) 4 (b.1 4)) 5 (b.1 5)) 6 (b.1 6)), cA I (qs 1) 40 (b.2 0), cA I (qs 2) 40 (b.2 1), cA I (qs 3) 40 (b.2 2), cMS qo qr b.1, cA I (qr 1) 40 (b.2 0), cA I (qr 2) 40 (b.2 1), cA I (qr 3) 40 (b.2 2)]) (wS I qo qs (xs (xs (xs (xs (xs (xs (xs a.1 0 (b.1 0)) 1 (b.1 1)) 2 (b.1 2)) 3 (b.1 3)) 4 (b.1 4)) 5 (b.1 5)) 6 (b.1 6), xa (xa (xa (xa a.2 0 (b.2 0)) 1 (b.2 1)) 2 (b.2 2)) 3 (b.2 3)) ++ wS I qo qr b) [9, 4] [0, 1, 2, 3, 5, 6, 7, 8] [0, 1, 2, 3, 9, 4, 5, 6, 7, 8] hP hD hS hA (va_runV (As := [.ref (qr 4), .ref (qs 4)]) (rest := []) ⟨hx, hb, hml, hown, hts⟩ (c_X3_copy l D I (qs 0) (qr 4) (qs 4) H.size (b.2 3) (a.2 3) ) (cwV 2 hts gX3_become_X3_copy rfl rfl rfl (by decide +kernel) ⟨Nat.le_of_ble_eq_true rfl, Nat.le_of_ble_eq_true rfl⟩) (xk_preV (wc := [cA I (qr 4) 40 (b.2 3)] ++ [cA I (qs 4) 40 (a.2 3)]) (q0 := 0) (ci := 3) hN hP hK hD [9, 4] rfl rfl rfl rfl) rfl rfl hl.1 rfl (lv_room (Nat.le_of_ble_eq_true rfl)) dX3_become_101 ⟨Nat.le_of_ble_eq_true rfl, Nat.le_of_ble_eq_true rfl⟩) rfl rfl rfl (by decide) rfl rfl (fun H locs hP hD hS => ?_)
  have hP : va_P D vwCl (wS I qo qs b ++ wS I qo qr b) H := hP
  have hD : va_D A (wS I qo qs b ++ wS I qo qr b) := hD
  exact xk_vret (wf := fun z : MS × MS => wS I qo qs z.1 ++ wS I qo qr z.2) (u := (b, b)) (u1 := (b, b)) hx hb hr hlocks hP hK hD hS rfl dX3_become_104

def r_X4_thrown (o : MO) : Int32 :=
  (o.1 0)
set_option maxHeartbeats 800000 in
set_option maxRecDepth 100000 in
theorem c_X4_thrown (l : Launch) (D : va_G) (I : ClassId) (qo : Nat → Nat) (ps pa : Nat) (sz : Nat) (o : MO)  : xMi l D [(I, .int)] yX4_thrown wsX4_thrown { frames := 0, cells := 0, slots := 0, locals := 0 } [.ref (qo 0)] sz (wO I qo ps pa o) (r_X4_thrown o) (wO I qo ps pa o) 0 0 := by
  refine xk_start (cc := cX4_thrown) (maxL := 1) (ret := (some .int)) (Qf := fun A => xQi D [(I, .int)] A (r_X4_thrown o) (wO I qo ps pa o)) (by decide) rfl (Nat.le_of_ble_eq_true rfl) ?_
  intro p e s m below meth c A H ls hst hAe hsz hl
  obtain ⟨hx, hb, hr, hts, hown, hlocks, hml, hin, hN, hK, hP, hD, hA, hS⟩ := hst
  have hl : lv_has ls 1 [(0, .ref (qo 0))] := hl
  have hP : va_P D vwCl (wO I qo ps pa o) H := hP
  have hinX4 : ∀ w ∈ u_ws RX4 TX4 8, w ∈ wsX4_thrown := by decide +kernel
  have w_1 := hts (.fieldLink RX4 34 "BridgeBellsModel" "thrown" "I") (by decide +kernel)
  refine lv_aload_n hx hb dX4_thrown_0 rfl (lv_at hl 0 rfl) ?_
  refine va_get (D := D) (ci := 4) (v := .int (o.1 0)) (C := RX4) (T := TX4) (N := 8) hx hb hts hinX4 hown hK hP 0 rfl rfl 0 (by decide) w_1 (fun _ h9 => h9) rfl dX4_thrown_1 ?_
  exact xk_iret (wf := fun z : MO => wO I qo ps pa z) (u := o) (u1 := o) hx hb hr rfl hlocks hP hK hD hS (by unfold r_X4_thrown; rfl) rfl dX4_thrown_4

def r_X4_no (o : MO) (nr : Int32) : Int32 :=
  (0 : Int32)
def s_X4_no (o : MO) (nr : Int32) : MO :=
  (xs o.1 0 nr, o.2)
set_option maxHeartbeats 800000 in
set_option maxRecDepth 100000 in
theorem c_X4_no (l : Launch) (D : va_G) (I : ClassId) (qo : Nat → Nat) (ps pa : Nat) (sz : Nat) (o : MO) (nr : Int32)  : xMi l D [(I, .int)] yX4_no wsX4_no { frames := 0, cells := 0, slots := 0, locals := 0 } [.ref (qo 0), .int nr] sz (wO I qo ps pa o) (r_X4_no o nr) (wO I qo ps pa (s_X4_no o nr)) 0 0 := by
  refine xk_start (cc := cX4_no) (maxL := 2) (ret := (some .int)) (Qf := fun A => xQi D [(I, .int)] A (r_X4_no o nr) (wO I qo ps pa (s_X4_no o nr))) (by decide) rfl (Nat.le_of_ble_eq_true rfl) ?_
  intro p e s m below meth c A H ls hst hAe hsz hl
  obtain ⟨hx, hb, hr, hts, hown, hlocks, hml, hin, hN, hK, hP, hD, hA, hS⟩ := hst
  have hl : lv_has ls 2 [(0, .ref (qo 0)), (1, .int nr)] := hl
  have hP : va_P D vwCl (wO I qo ps pa o) H := hP
  have hinX4 : ∀ w ∈ u_ws RX4 TX4 8, w ∈ wsX4_no := by decide +kernel
  have w_1 := hts (.fieldLink RX4 34 "BridgeBellsModel" "thrown" "I") (by decide +kernel)
  refine lv_aload_n hx hb dX4_no_0 rfl (lv_at hl 0 rfl) ?_
  refine lv_iload_n hx hb dX4_no_1 rfl (lv_at hl 1 rfl) ?_
  refine va_put (D := D) (ci := 4) (v := .int nr) (ty := tyX4 0) (C := RX4) (T := TX4) (N := 8) hx hb hts hinX4 tyX4 tyX4_ok nmX4 hown hK hP hD hS 0 rfl rfl 0 (by decide) w_1 (fun _ h9 => h9) rfl (tyX4_ok 0 (by decide)) rfl rfl (Nat.le_of_ble_eq_true rfl) dX4_no_2 (fun H locs hP hD hS => ?_)
  have hP : va_P D vwCl (wO I qo ps pa (xs o.1 0 nr, o.2)) H := hP
  have hD : va_D A (wO I qo ps pa (xs o.1 0 nr, o.2)) := hD
  refine lv_iconst (v := (0 : Int32)) hx hb dX4_no_5 (by decide) ?_
  exact xk_iret (wf := fun z : MO => wO I qo ps pa z) (u := (xs o.1 0 nr, o.2)) (u1 := (s_X4_no o nr)) hx hb hr rfl hlocks hP hK hD hS (by unfold r_X4_no; rfl) (by unfold s_X4_no; rfl) dX4_no_6

def r_X4_isIn (v lo hi : Int32) : Int32 :=
  if v < lo then
    (0 : Int32)
  else
    if hi < v then
      (0 : Int32)
    else
      (1 : Int32)
set_option maxHeartbeats 800000 in
set_option maxRecDepth 100000 in
theorem c_X4_isIn (l : Launch) (D : va_G) (I : ClassId) (sz : Nat) (v lo hi : Int32)  : xMi l D [(I, .int)] yX4_isIn wsX4_isIn { frames := 0, cells := 0, slots := 0, locals := 0 } [.int v, .int lo, .int hi] sz [] (r_X4_isIn v lo hi) [] 0 0 := by
  refine xk_start (cc := cX4_isIn) (maxL := 3) (ret := (some .boolean)) (Qf := fun A => xQi D [(I, .int)] A (r_X4_isIn v lo hi) []) (by decide) rfl (Nat.le_of_ble_eq_true rfl) ?_
  intro p e s m below meth c A H ls hst hAe hsz hl
  obtain ⟨hx, hb, hr, hts, hown, hlocks, hml, hin, hN, hK, hP, hD, hA, hS⟩ := hst
  have hl : lv_has ls 3 [(0, .int v), (1, .int lo), (2, .int hi)] := hl
  refine lv_iload_n hx hb dX4_isIn_0 rfl (lv_at hl 0 rfl) ?_
  refine lv_iload_n hx hb dX4_isIn_1 rfl (lv_at hl 1 rfl) ?_
  refine lv_icmp_lt (tgt := 14) hx hb dX4_isIn_2 (by decide) (fun c_1 => ?_) (fun c_1 => ?_)
  · refine lv_iconst (v := (0 : Int32)) hx hb dX4_isIn_14 (by decide) ?_
    exact xk_iret (wf := fun _ : Unit => ([] : va_W)) (u := ()) hx hb hr rfl hlocks hP hK hD hS (by unfold r_X4_isIn; rw [if_pos c_1]) rfl dX4_isIn_15
  · refine lv_iload_n hx hb dX4_isIn_5 rfl (lv_at hl 0 rfl) ?_
    refine lv_iload_n hx hb dX4_isIn_6 rfl (lv_at hl 2 rfl) ?_
    refine lv_icmp_gt (tgt := 14) hx hb dX4_isIn_7 (by decide) (fun c_2 => ?_) (fun c_2 => ?_)
    · refine lv_iconst (v := (0 : Int32)) hx hb dX4_isIn_14 (by decide) ?_
      exact xk_iret (wf := fun _ : Unit => ([] : va_W)) (u := ()) hx hb hr rfl hlocks hP hK hD hS (by unfold r_X4_isIn; rw [if_neg c_1, if_pos c_2]) rfl dX4_isIn_15
    · refine lv_iconst (v := (1 : Int32)) hx hb dX4_isIn_10 (by decide) ?_
      refine lv_goto (tgt := 15) hx hb dX4_isIn_11 (by decide) ?_
      exact xk_iret (wf := fun _ : Unit => ([] : va_W)) (u := ()) hx hb hr rfl hlocks hP hK hD hS (by unfold r_X4_isIn; rw [if_neg c_1, if_neg c_2]) rfl dX4_isIn_15

theorem isIn_01 (v lo hi : Int32) : r_X4_isIn v lo hi = 0 ∨ r_X4_isIn v lo hi = 1 := by
  unfold r_X4_isIn
  repeat' split
  all_goals first | exact Or.inl rfl | exact Or.inr rfl

def r_X4_isTraveller (o : MO) (k : Int32) : Int32 :=
  (r_X4_isIn k (0 : Int32) ((o.1 1) - (1 : Int32)))
set_option maxHeartbeats 800000 in
set_option maxRecDepth 100000 in
theorem c_X4_isTraveller (l : Launch) (D : va_G) (I : ClassId) (qo : Nat → Nat) (ps pa : Nat) (sz : Nat) (o : MO) (k : Int32)  : xMi l D [(I, .int)] yX4_isTraveller wsX4_isTraveller { frames := 1, cells := 0, slots := 0, locals := 22 } [.ref (qo 0), .int k] sz (wO I qo ps pa o) (r_X4_isTraveller o k) (wO I qo ps pa o) 0 0 := by
  refine xk_start (cc := cX4_isTraveller) (maxL := 2) (ret := (some .boolean)) (Qf := fun A => xQi D [(I, .int)] A (r_X4_isTraveller o k) (wO I qo ps pa o)) (by decide) rfl (Nat.le_of_ble_eq_true rfl) ?_
  intro p e s m below meth c A H ls hst hAe hsz hl
  obtain ⟨hx, hb, hr, hts, hown, hlocks, hml, hin, hN, hK, hP, hD, hA, hS⟩ := hst
  have hl : lv_has ls 2 [(0, .ref (qo 0)), (1, .int k)] := hl
  have hP : va_P D vwCl (wO I qo ps pa o) H := hP
  have hinX4 : ∀ w ∈ u_ws RX4 TX4 8, w ∈ wsX4_isTraveller := by decide +kernel
  have w_1 := hts (.fieldLink RX4 38 "BridgeBellsModel" "travellers" "I") (by decide +kernel)
  refine lv_iload_n hx hb dX4_isTraveller_0 rfl (lv_at hl 1 rfl) ?_
  refine lv_iconst (v := (0 : Int32)) hx hb dX4_isTraveller_1 (by decide) ?_
  refine lv_aload_n hx hb dX4_isTraveller_2 rfl (lv_at hl 0 rfl) ?_
  refine va_get (D := D) (ci := 4) (v := .int (o.1 1)) (C := RX4) (T := TX4) (N := 8) hx hb hts hinX4 hown hK hP 0 rfl rfl 1 (by decide) w_1 (fun _ h9 => h9) rfl dX4_isTraveller_3 ?_
  refine lv_iconst (v := (1 : Int32)) hx hb dX4_isTraveller_6 (by decide) ?_
  refine lv_isub hx hb dX4_isTraveller_7 ?_
  refine xk_calli ([cMO qo ps pa o.1, cA I (qo 1) 40 (o.2 0), cA I (qo 2) 40 (o.2 1), cA I (qo 3) 40 (o.2 2), cA I (qo 4) 8 (o.2 3)]) (wO I qo ps pa o) [] [0, 1, 2, 3, 4] [0, 1, 2, 3, 4] hP hD hS hA (va_runS (As := [.int k, .int (0 : Int32), .int ((o.1 1) - (1 : Int32))]) (rest := []) ⟨hx, hb, hml, hown, hts⟩ (c_X4_isIn l D I  H.size k (0 : Int32) ((o.1 1) - (1 : Int32)) ) (va_cwS 3 hts gX4_isTraveller_X4_isIn rfl rfl rfl (by decide +kernel) ⟨Nat.le_of_ble_eq_true rfl, Nat.le_of_ble_eq_true rfl⟩) (xk_pre (wc := ([] : va_W)) hN hP hK hD [] rfl rfl) rfl rfl hl.1 rfl (lv_room (Nat.le_of_ble_eq_true rfl)) dX4_isTraveller_8 ⟨Nat.le_of_ble_eq_true rfl, Nat.le_of_ble_eq_true rfl⟩) rfl rfl rfl (by decide) rfl rfl (fun H locs hP hD hS => ?_)
  exact xk_iret (wf := fun z : MO => wO I qo ps pa z) (u := o) (u1 := o) hx hb hr (nz01 (isIn_01 _ _ _)) hlocks hP hK hD hS (by unfold r_X4_isTraveller; rfl) rfl dX4_isTraveller_11

theorem isIn_b {v lo hi : Int32} (h : ¬ r_X4_isIn v lo hi = 0) : lo.toInt ≤ v.toInt ∧ v.toInt ≤ hi.toInt := by
  unfold r_X4_isIn at h
  by_cases h1 : v < lo
  · rw [if_pos h1] at h
    exact absurd rfl h
  · rw [if_neg h1] at h
    by_cases h2 : hi < v
    · rw [if_pos h2] at h
      exact absurd rfl h
    · rw [Int32.lt_iff_toInt_lt] at h1 h2
      omega
theorem isTr_b {o : MO} {k : Int32} (hn : nOk (o.1 1)) (h : ¬ r_X4_isTraveller o k = 0) : 0 ≤ k.toInt ∧ k.toInt < (o.1 1).toInt := by
  have h0 : (0 : Int32).toInt = 0 := by decide
  have h1 : (1 : Int32).toInt = 1 := by decide
  have hn1 := hn.1
  have hn2 := hn.2
  obtain ⟨h2, h3⟩ := isIn_b (v := k) (lo := 0) (hi := o.1 1 - 1) h
  rw [toInt_subS (by omega) (by omega)] at h3
  omega
theorem isTr_v {o : MO} {k : Int32} (hn : nOk (o.1 1)) (h : ¬ r_X4_isTraveller o k = 0) : vp_in k 40 := by
  have h1 := isTr_b hn h
  have h2 := hn.2
  exact vin40 h1.1 (by omega)
theorem ne40 {x : Int32} (hn : nOk x) (h : ¬ x = 40) : x.toInt < 40 := by
  have h1 := hn.1
  have h2 := hn.2
  have h3 : (40 : Int32).toInt = 40 := by decide
  have h4 : ¬ x.toInt = 40 := fun q => h (Int32.toInt_inj.mp (by rw [q, h3]))
  omega

def g1_X4_come (o : MO) (a : MS) (bg : Int32) (mn : Int32) : MO := s_X4_no (xs o.1 0 (0 : Int32), o.2) (2 : Int32)
def g2_X4_come (o : MO) (a : MS) (bg : Int32) (mn : Int32) : MO := s_X4_no (xs o.1 0 (0 : Int32), o.2) (1 : Int32)
def r_X4_come (o : MO) (a : MS) (bg : Int32) (mn : Int32) : Int32 :=
  if (r_X4_isIn mn (1 : Int32) (6 : Int32)) = 0 then
    (r_X4_no (xs o.1 0 (0 : Int32), o.2) (1 : Int32))
  else
    if (o.1 1) = (40 : Int32) then
      (r_X4_no (xs o.1 0 (0 : Int32), o.2) (2 : Int32))
    else
      if bg = 0 then
        (((o.1 1) + (1 : Int32)) - (1 : Int32))
      else
        (((o.1 1) + (1 : Int32)) - (1 : Int32))
def s_X4_come (o : MO) (a : MS) (bg : Int32) (mn : Int32) : MO × MS :=
  if (r_X4_isIn mn (1 : Int32) (6 : Int32)) = 0 then
    ((g2_X4_come o a bg mn), a)
  else
    if (o.1 1) = (40 : Int32) then
      ((g1_X4_come o a bg mn), a)
    else
      if bg = 0 then
        ((xs (xs o.1 0 (0 : Int32)) 1 ((o.1 1) + (1 : Int32)), xa (xa (xa o.2 0 (upd (o.2 0) (o.1 1).toNatClampNeg (0 : Int32))) 1 (upd (o.2 1) (o.1 1).toNatClampNeg mn)) 2 (upd (o.2 2) (o.1 1).toNatClampNeg (a.1 0))), (a.1, xa a.2 3 (upd (a.2 3) (o.1 1).toNatClampNeg (-1 : Int32))))
      else
        ((xs (xs o.1 0 (0 : Int32)) 1 ((o.1 1) + (1 : Int32)), xa (xa (xa o.2 0 (upd (o.2 0) (o.1 1).toNatClampNeg (1 : Int32))) 1 (upd (o.2 1) (o.1 1).toNatClampNeg mn)) 2 (upd (o.2 2) (o.1 1).toNatClampNeg (a.1 0))), (a.1, xa a.2 3 (upd (a.2 3) (o.1 1).toNatClampNeg (-1 : Int32))))
set_option maxHeartbeats 800000 in
set_option maxRecDepth 100000 in
theorem c_X4_come (l : Launch) (D : va_G) (I : ClassId) (qo qs qa : Nat → Nat) (sz : Nat) (o : MO) (a : MS) (z : MS) (bg : Int32) (mn : Int32) (hn : nOk (o.1 1)) : xMi l D [(I, .int)] yX4_come wsX4_come { frames := 1, cells := 0, slots := 0, locals := 22 } [.ref (qo 0), .int bg, .int mn] sz (wO I qo (qs 0) (qa 0) o ++ wS I qo qs a ++ wS I qo qa z) (r_X4_come o a bg mn) (wO I qo (qs 0) (qa 0) ((s_X4_come o a bg mn).1) ++ wS I qo qs ((s_X4_come o a bg mn).2) ++ wS I qo qa z) 0 0 := by
  refine xk_start (cc := cX4_come) (maxL := 3) (ret := (some .int)) (Qf := fun A => xQi D [(I, .int)] A (r_X4_come o a bg mn) (wO I qo (qs 0) (qa 0) ((s_X4_come o a bg mn).1) ++ wS I qo qs ((s_X4_come o a bg mn).2) ++ wS I qo qa z)) (by decide) rfl (Nat.le_of_ble_eq_true rfl) ?_
  intro p e s m below meth c A H ls hst hAe hsz hl
  obtain ⟨hx, hb, hr, hts, hown, hlocks, hml, hin, hN, hK, hP, hD, hA, hS⟩ := hst
  have hl : lv_has ls 3 [(0, .ref (qo 0)), (1, .int bg), (2, .int mn)] := hl
  have hP : va_P D vwCl (wO I qo (qs 0) (qa 0) o ++ wS I qo qs a ++ wS I qo qa z) H := hP
  have hinX4 : ∀ w ∈ u_ws RX4 TX4 8, w ∈ wsX4_come := by decide +kernel
  have hinX3 : ∀ w ∈ u_ws RX3 TX3 12, w ∈ wsX4_come := by decide +kernel
  have w_1 := hts (.fieldLink RX4 34 "BridgeBellsModel" "thrown" "I") (by decide +kernel)
  have w_2 := hts (.fieldLink RX4 38 "BridgeBellsModel" "travellers" "I") (by decide +kernel)
  have w_3 := hts (.fieldLink RX4 9 "BridgeBellsModel" "isBarge" "[I") (by decide +kernel)
  have w_4 := hts (.fieldLink RX4 13 "BridgeBellsModel" "needs" "[I") (by decide +kernel)
  have w_5 := hts (.fieldLink RX4 16 "BridgeBellsModel" "came" "[I") (by decide +kernel)
  have w_6 := hts (.fieldLink RX4 27 "BridgeBellsModel" "s" "LBridgeBellsModel$State;") (by decide +kernel)
  refine lv_aload_n hx hb dX4_come_0 rfl (lv_at hl 0 rfl) ?_
  refine lv_iconst (v := (0 : Int32)) hx hb dX4_come_1 (by decide) ?_
  refine va_put (D := D) (ci := 4) (v := .int (0 : Int32)) (ty := tyX4 0) (C := RX4) (T := TX4) (N := 8) hx hb hts hinX4 tyX4 tyX4_ok nmX4 hown hK hP hD hS 0 rfl rfl 0 (by decide) w_1 (fun _ h9 => h9) rfl (tyX4_ok 0 (by decide)) rfl rfl (Nat.le_of_ble_eq_true rfl) dX4_come_2 (fun H locs hP hD hS => ?_)
  have hP : va_P D vwCl (wO I qo (qs 0) (qa 0) (xs o.1 0 (0 : Int32), o.2) ++ wS I qo qs a ++ wS I qo qa z) H := hP
  have hD : va_D A (wO I qo (qs 0) (qa 0) (xs o.1 0 (0 : Int32), o.2) ++ wS I qo qs a ++ wS I qo qa z) := hD
  refine lv_iload_n hx hb dX4_come_5 rfl (lv_at hl 2 rfl) ?_
  refine lv_iconst (v := (1 : Int32)) hx hb dX4_come_6 (by decide) ?_
  refine lv_bipush (v := (6 : Int32)) hx hb dX4_come_7 (by decide) ?_
  refine xk_calli ([cMO qo (qs 0) (qa 0) (xs o.1 0 (0 : Int32)), cA I (qo 1) 40 (o.2 0), cA I (qo 2) 40 (o.2 1), cA I (qo 3) 40 (o.2 2), cA I (qo 4) 8 (o.2 3), cMS qo qs a.1, cA I (qs 1) 40 (a.2 0), cA I (qs 2) 40 (a.2 1), cA I (qs 3) 40 (a.2 2), cA I (qs 4) 40 (a.2 3), cMS qo qa z.1, cA I (qa 1) 40 (z.2 0), cA I (qa 2) 40 (z.2 1), cA I (qa 3) 40 (z.2 2), cA I (qa 4) 40 (z.2 3)]) (wO I qo (qs 0) (qa 0) (xs o.1 0 (0 : Int32), o.2) ++ wS I qo qs a ++ wS I qo qa z) [] [0, 1, 2, 3, 4, 5, 6, 7, 8, 9, 10, 11, 12, 13, 14] [0, 1, 2, 3, 4, 5, 6, 7, 8, 9, 10, 11, 12, 13, 14] hP hD hS hA (va_runS (As := [.int mn, .int (1 : Int32), .int (6 : Int32)]) (rest := []) ⟨hx, hb, hml, hown, hts⟩ (c_X4_isIn l D I  H.size mn (1 : Int32) (6 : Int32) ) (va_cwS 3 hts gX4_come_X4_isIn rfl rfl rfl (by decide +kernel) ⟨Nat.le_of_ble_eq_true rfl, Nat.le_of_ble_eq_true rfl⟩) (xk_pre (wc := ([] : va_W)) hN hP hK hD [] rfl rfl) rfl rfl hl.1 rfl (lv_room (Nat.le_of_ble_eq_true rfl)) dX4_come_9 ⟨Nat.le_of_ble_eq_true rfl, Nat.le_of_ble_eq_true rfl⟩) rfl rfl rfl (by decide) rfl rfl (fun H locs hP hD hS => ?_)
  refine lv_if_ne (tgt := 21) hx hb dX4_come_12 (by decide) (fun c_1 => ?_) (fun c_1 => ?_)
  · refine lv_aload_n hx hb dX4_come_21 rfl (lv_at hl 0 rfl) ?_
    refine va_get (D := D) (ci := 4) (v := .int (o.1 1)) (C := RX4) (T := TX4) (N := 8) hx hb hts hinX4 hown hK hP 0 rfl rfl 1 (by decide) w_2 (fun _ h9 => h9) rfl dX4_come_22 ?_
    refine lv_bipush (v := (40 : Int32)) hx hb dX4_come_25 (by decide) ?_
    refine lv_icmp_ne (tgt := 36) hx hb dX4_come_27 (by decide) (fun c_2 => ?_) (fun c_2 => ?_)
    · refine lv_aload_n hx hb dX4_come_36 rfl (lv_at hl 0 rfl) ?_
      refine va_get (D := D) (ci := 4) (v := .ref (qo 1)) (C := RX4) (T := TX4) (N := 8) hx hb hts hinX4 hown hK hP 0 rfl rfl 2 (by decide) w_3 (fun _ h9 => h9) rfl dX4_come_37 ?_
      refine lv_aload_n hx hb dX4_come_40 rfl (lv_at hl 0 rfl) ?_
      refine va_get (D := D) (ci := 4) (v := .int (o.1 1)) (C := RX4) (T := TX4) (N := 8) hx hb hts hinX4 hown hK hP 0 rfl rfl 1 (by decide) w_2 (fun _ h9 => h9) rfl dX4_come_41 ?_
      refine lv_iload_n hx hb dX4_come_44 rfl (lv_at hl 1 rfl) ?_
      refine lv_if_eq (tgt := 52) hx hb dX4_come_45 (by decide) (fun c_3 => ?_) (fun c_3 => ?_)
      · refine lv_iconst (v := (0 : Int32)) hx hb dX4_come_52 (by decide) ?_
        refine va_iast (f := (o.2 0)) hx hb hK hP hD hS 1 0 rfl rfl (show vp_in (o.1 1) 40 from (vin40 hn.1 (ne40 hn c_2))) dX4_come_53 (fun H locs hP hD hS => ?_)
        have hP : va_P D vwCl (wO I qo (qs 0) (qa 0) (xs o.1 0 (0 : Int32), xa o.2 0 (upd (o.2 0) (o.1 1).toNatClampNeg (0 : Int32))) ++ wS I qo qs a ++ wS I qo qa z) H := hP
        have hD : va_D A (wO I qo (qs 0) (qa 0) (xs o.1 0 (0 : Int32), xa o.2 0 (upd (o.2 0) (o.1 1).toNatClampNeg (0 : Int32))) ++ wS I qo qs a ++ wS I qo qa z) := hD
        refine lv_aload_n hx hb dX4_come_54 rfl (lv_at hl 0 rfl) ?_
        refine va_get (D := D) (ci := 4) (v := .ref (qo 2)) (C := RX4) (T := TX4) (N := 8) hx hb hts hinX4 hown hK hP 0 rfl rfl 3 (by decide) w_4 (fun _ h9 => h9) rfl dX4_come_55 ?_
        refine lv_aload_n hx hb dX4_come_58 rfl (lv_at hl 0 rfl) ?_
        refine va_get (D := D) (ci := 4) (v := .int (o.1 1)) (C := RX4) (T := TX4) (N := 8) hx hb hts hinX4 hown hK hP 0 rfl rfl 1 (by decide) w_2 (fun _ h9 => h9) rfl dX4_come_59 ?_
        refine lv_iload_n hx hb dX4_come_62 rfl (lv_at hl 2 rfl) ?_
        refine va_iast (f := (o.2 1)) hx hb hK hP hD hS 2 0 rfl rfl (show vp_in (o.1 1) 40 from (vin40 hn.1 (ne40 hn c_2))) dX4_come_63 (fun H locs hP hD hS => ?_)
        have hP : va_P D vwCl (wO I qo (qs 0) (qa 0) (xs o.1 0 (0 : Int32), xa (xa o.2 0 (upd (o.2 0) (o.1 1).toNatClampNeg (0 : Int32))) 1 (upd (o.2 1) (o.1 1).toNatClampNeg mn)) ++ wS I qo qs a ++ wS I qo qa z) H := hP
        have hD : va_D A (wO I qo (qs 0) (qa 0) (xs o.1 0 (0 : Int32), xa (xa o.2 0 (upd (o.2 0) (o.1 1).toNatClampNeg (0 : Int32))) 1 (upd (o.2 1) (o.1 1).toNatClampNeg mn)) ++ wS I qo qs a ++ wS I qo qa z) := hD
        refine lv_aload_n hx hb dX4_come_64 rfl (lv_at hl 0 rfl) ?_
        refine va_get (D := D) (ci := 4) (v := .ref (qo 3)) (C := RX4) (T := TX4) (N := 8) hx hb hts hinX4 hown hK hP 0 rfl rfl 4 (by decide) w_5 (fun _ h9 => h9) rfl dX4_come_65 ?_
        refine lv_aload_n hx hb dX4_come_68 rfl (lv_at hl 0 rfl) ?_
        refine va_get (D := D) (ci := 4) (v := .int (o.1 1)) (C := RX4) (T := TX4) (N := 8) hx hb hts hinX4 hown hK hP 0 rfl rfl 1 (by decide) w_2 (fun _ h9 => h9) rfl dX4_come_69 ?_
        refine lv_aload_n hx hb dX4_come_72 rfl (lv_at hl 0 rfl) ?_
        refine va_get (D := D) (ci := 4) (v := .ref (qs 0)) (C := RX4) (T := TX4) (N := 8) hx hb hts hinX4 hown hK hP 0 rfl rfl 6 (by decide) w_6 (fun _ h9 => h9) rfl dX4_come_73 ?_
        refine va_getN (D := D) (ci := 3) (v := .int (a.1 0)) (C := RX3) (T := TX3) (N := 12) hx hb hts hinX3 hown hK hP 5 rfl rfl 0 (by decide) (hN.use 3 rfl) (fun _ h9 => h9) rfl dX4_come_76 ?_
        refine va_iast (f := (o.2 2)) hx hb hK hP hD hS 3 0 rfl rfl (show vp_in (o.1 1) 40 from (vin40 hn.1 (ne40 hn c_2))) dX4_come_79 (fun H locs hP hD hS => ?_)
        have hP : va_P D vwCl (wO I qo (qs 0) (qa 0) (xs o.1 0 (0 : Int32), xa (xa (xa o.2 0 (upd (o.2 0) (o.1 1).toNatClampNeg (0 : Int32))) 1 (upd (o.2 1) (o.1 1).toNatClampNeg mn)) 2 (upd (o.2 2) (o.1 1).toNatClampNeg (a.1 0))) ++ wS I qo qs a ++ wS I qo qa z) H := hP
        have hD : va_D A (wO I qo (qs 0) (qa 0) (xs o.1 0 (0 : Int32), xa (xa (xa o.2 0 (upd (o.2 0) (o.1 1).toNatClampNeg (0 : Int32))) 1 (upd (o.2 1) (o.1 1).toNatClampNeg mn)) 2 (upd (o.2 2) (o.1 1).toNatClampNeg (a.1 0))) ++ wS I qo qs a ++ wS I qo qa z) := hD
        refine lv_aload_n hx hb dX4_come_80 rfl (lv_at hl 0 rfl) ?_
        refine va_get (D := D) (ci := 4) (v := .ref (qs 0)) (C := RX4) (T := TX4) (N := 8) hx hb hts hinX4 hown hK hP 0 rfl rfl 6 (by decide) w_6 (fun _ h9 => h9) rfl dX4_come_81 ?_
        refine va_getN (D := D) (ci := 3) (v := .ref (qs 4)) (C := RX3) (T := TX3) (N := 12) hx hb hts hinX3 hown hK hP 5 rfl rfl 10 (by decide) (hN.use 11 rfl) (fun _ h9 => h9) rfl dX4_come_84 ?_
        refine lv_aload_n hx hb dX4_come_87 rfl (lv_at hl 0 rfl) ?_
        refine va_get (D := D) (ci := 4) (v := .int (o.1 1)) (C := RX4) (T := TX4) (N := 8) hx hb hts hinX4 hown hK hP 0 rfl rfl 1 (by decide) w_2 (fun _ h9 => h9) rfl dX4_come_88 ?_
        refine lv_iconst (v := (-1 : Int32)) hx hb dX4_come_91 (by decide) ?_
        refine va_iast (f := (a.2 3)) hx hb hK hP hD hS 9 0 rfl rfl (show vp_in (o.1 1) 40 from (vin40 hn.1 (ne40 hn c_2))) dX4_come_92 (fun H locs hP hD hS => ?_)
        have hP : va_P D vwCl (wO I qo (qs 0) (qa 0) (xs o.1 0 (0 : Int32), xa (xa (xa o.2 0 (upd (o.2 0) (o.1 1).toNatClampNeg (0 : Int32))) 1 (upd (o.2 1) (o.1 1).toNatClampNeg mn)) 2 (upd (o.2 2) (o.1 1).toNatClampNeg (a.1 0))) ++ wS I qo qs (a.1, xa a.2 3 (upd (a.2 3) (o.1 1).toNatClampNeg (-1 : Int32))) ++ wS I qo qa z) H := hP
        have hD : va_D A (wO I qo (qs 0) (qa 0) (xs o.1 0 (0 : Int32), xa (xa (xa o.2 0 (upd (o.2 0) (o.1 1).toNatClampNeg (0 : Int32))) 1 (upd (o.2 1) (o.1 1).toNatClampNeg mn)) 2 (upd (o.2 2) (o.1 1).toNatClampNeg (a.1 0))) ++ wS I qo qs (a.1, xa a.2 3 (upd (a.2 3) (o.1 1).toNatClampNeg (-1 : Int32))) ++ wS I qo qa z) := hD
        refine lv_aload_n hx hb dX4_come_93 rfl (lv_at hl 0 rfl) ?_
        refine lv_dup hx hb dX4_come_94 rfl ?_
        refine va_get (D := D) (ci := 4) (v := .int (o.1 1)) (C := RX4) (T := TX4) (N := 8) hx hb hts hinX4 hown hK hP 0 rfl rfl 1 (by decide) w_2 (fun _ h9 => h9) rfl dX4_come_95 ?_
        refine lv_iconst (v := (1 : Int32)) hx hb dX4_come_98 (by decide) ?_
        refine lv_iadd hx hb dX4_come_99 ?_
        refine va_put (D := D) (ci := 4) (v := .int ((o.1 1) + (1 : Int32))) (ty := tyX4 1) (C := RX4) (T := TX4) (N := 8) hx hb hts hinX4 tyX4 tyX4_ok nmX4 hown hK hP hD hS 0 rfl rfl 1 (by decide) w_2 (fun _ h9 => h9) rfl (tyX4_ok 1 (by decide)) rfl rfl (Nat.le_of_ble_eq_true rfl) dX4_come_100 (fun H locs hP hD hS => ?_)
        have hP : va_P D vwCl (wO I qo (qs 0) (qa 0) (xs (xs o.1 0 (0 : Int32)) 1 ((o.1 1) + (1 : Int32)), xa (xa (xa o.2 0 (upd (o.2 0) (o.1 1).toNatClampNeg (0 : Int32))) 1 (upd (o.2 1) (o.1 1).toNatClampNeg mn)) 2 (upd (o.2 2) (o.1 1).toNatClampNeg (a.1 0))) ++ wS I qo qs (a.1, xa a.2 3 (upd (a.2 3) (o.1 1).toNatClampNeg (-1 : Int32))) ++ wS I qo qa z) H := hP
        have hD : va_D A (wO I qo (qs 0) (qa 0) (xs (xs o.1 0 (0 : Int32)) 1 ((o.1 1) + (1 : Int32)), xa (xa (xa o.2 0 (upd (o.2 0) (o.1 1).toNatClampNeg (0 : Int32))) 1 (upd (o.2 1) (o.1 1).toNatClampNeg mn)) 2 (upd (o.2 2) (o.1 1).toNatClampNeg (a.1 0))) ++ wS I qo qs (a.1, xa a.2 3 (upd (a.2 3) (o.1 1).toNatClampNeg (-1 : Int32))) ++ wS I qo qa z) := hD
        refine lv_aload_n hx hb dX4_come_103 rfl (lv_at hl 0 rfl) ?_
        refine va_get (D := D) (ci := 4) (v := .int ((o.1 1) + (1 : Int32))) (C := RX4) (T := TX4) (N := 8) hx hb hts hinX4 hown hK hP 0 rfl rfl 1 (by decide) w_2 (fun _ h9 => h9) rfl dX4_come_104 ?_
        refine lv_iconst (v := (1 : Int32)) hx hb dX4_come_107 (by decide) ?_
        refine lv_isub hx hb dX4_come_108 ?_
        exact xk_iret (wf := fun z : MO × MS × MS => wO I qo (qs 0) (qa 0) z.1 ++ wS I qo qs z.2.1 ++ wS I qo qa z.2.2) (u := ((xs (xs o.1 0 (0 : Int32)) 1 ((o.1 1) + (1 : Int32)), xa (xa (xa o.2 0 (upd (o.2 0) (o.1 1).toNatClampNeg (0 : Int32))) 1 (upd (o.2 1) (o.1 1).toNatClampNeg mn)) 2 (upd (o.2 2) (o.1 1).toNatClampNeg (a.1 0))), (a.1, xa a.2 3 (upd (a.2 3) (o.1 1).toNatClampNeg (-1 : Int32))), z)) (u1 := ((s_X4_come o a bg mn).1, (s_X4_come o a bg mn).2, z)) hx hb hr rfl hlocks hP hK hD hS (by unfold r_X4_come; rw [if_neg c_1, if_neg c_2, if_pos c_3]) (by unfold s_X4_come; rw [if_neg c_1, if_neg c_2, if_pos c_3]) dX4_come_109
      · refine lv_iconst (v := (1 : Int32)) hx hb dX4_come_48 (by decide) ?_
        refine lv_goto (tgt := 53) hx hb dX4_come_49 (by decide) ?_
        refine va_iast (f := (o.2 0)) hx hb hK hP hD hS 1 0 rfl rfl (show vp_in (o.1 1) 40 from (vin40 hn.1 (ne40 hn c_2))) dX4_come_53 (fun H locs hP hD hS => ?_)
        have hP : va_P D vwCl (wO I qo (qs 0) (qa 0) (xs o.1 0 (0 : Int32), xa o.2 0 (upd (o.2 0) (o.1 1).toNatClampNeg (1 : Int32))) ++ wS I qo qs a ++ wS I qo qa z) H := hP
        have hD : va_D A (wO I qo (qs 0) (qa 0) (xs o.1 0 (0 : Int32), xa o.2 0 (upd (o.2 0) (o.1 1).toNatClampNeg (1 : Int32))) ++ wS I qo qs a ++ wS I qo qa z) := hD
        refine lv_aload_n hx hb dX4_come_54 rfl (lv_at hl 0 rfl) ?_
        refine va_get (D := D) (ci := 4) (v := .ref (qo 2)) (C := RX4) (T := TX4) (N := 8) hx hb hts hinX4 hown hK hP 0 rfl rfl 3 (by decide) w_4 (fun _ h9 => h9) rfl dX4_come_55 ?_
        refine lv_aload_n hx hb dX4_come_58 rfl (lv_at hl 0 rfl) ?_
        refine va_get (D := D) (ci := 4) (v := .int (o.1 1)) (C := RX4) (T := TX4) (N := 8) hx hb hts hinX4 hown hK hP 0 rfl rfl 1 (by decide) w_2 (fun _ h9 => h9) rfl dX4_come_59 ?_
        refine lv_iload_n hx hb dX4_come_62 rfl (lv_at hl 2 rfl) ?_
        refine va_iast (f := (o.2 1)) hx hb hK hP hD hS 2 0 rfl rfl (show vp_in (o.1 1) 40 from (vin40 hn.1 (ne40 hn c_2))) dX4_come_63 (fun H locs hP hD hS => ?_)
        have hP : va_P D vwCl (wO I qo (qs 0) (qa 0) (xs o.1 0 (0 : Int32), xa (xa o.2 0 (upd (o.2 0) (o.1 1).toNatClampNeg (1 : Int32))) 1 (upd (o.2 1) (o.1 1).toNatClampNeg mn)) ++ wS I qo qs a ++ wS I qo qa z) H := hP
        have hD : va_D A (wO I qo (qs 0) (qa 0) (xs o.1 0 (0 : Int32), xa (xa o.2 0 (upd (o.2 0) (o.1 1).toNatClampNeg (1 : Int32))) 1 (upd (o.2 1) (o.1 1).toNatClampNeg mn)) ++ wS I qo qs a ++ wS I qo qa z) := hD
        refine lv_aload_n hx hb dX4_come_64 rfl (lv_at hl 0 rfl) ?_
        refine va_get (D := D) (ci := 4) (v := .ref (qo 3)) (C := RX4) (T := TX4) (N := 8) hx hb hts hinX4 hown hK hP 0 rfl rfl 4 (by decide) w_5 (fun _ h9 => h9) rfl dX4_come_65 ?_
        refine lv_aload_n hx hb dX4_come_68 rfl (lv_at hl 0 rfl) ?_
        refine va_get (D := D) (ci := 4) (v := .int (o.1 1)) (C := RX4) (T := TX4) (N := 8) hx hb hts hinX4 hown hK hP 0 rfl rfl 1 (by decide) w_2 (fun _ h9 => h9) rfl dX4_come_69 ?_
        refine lv_aload_n hx hb dX4_come_72 rfl (lv_at hl 0 rfl) ?_
        refine va_get (D := D) (ci := 4) (v := .ref (qs 0)) (C := RX4) (T := TX4) (N := 8) hx hb hts hinX4 hown hK hP 0 rfl rfl 6 (by decide) w_6 (fun _ h9 => h9) rfl dX4_come_73 ?_
        refine va_getN (D := D) (ci := 3) (v := .int (a.1 0)) (C := RX3) (T := TX3) (N := 12) hx hb hts hinX3 hown hK hP 5 rfl rfl 0 (by decide) (hN.use 3 rfl) (fun _ h9 => h9) rfl dX4_come_76 ?_
        refine va_iast (f := (o.2 2)) hx hb hK hP hD hS 3 0 rfl rfl (show vp_in (o.1 1) 40 from (vin40 hn.1 (ne40 hn c_2))) dX4_come_79 (fun H locs hP hD hS => ?_)
        have hP : va_P D vwCl (wO I qo (qs 0) (qa 0) (xs o.1 0 (0 : Int32), xa (xa (xa o.2 0 (upd (o.2 0) (o.1 1).toNatClampNeg (1 : Int32))) 1 (upd (o.2 1) (o.1 1).toNatClampNeg mn)) 2 (upd (o.2 2) (o.1 1).toNatClampNeg (a.1 0))) ++ wS I qo qs a ++ wS I qo qa z) H := hP
        have hD : va_D A (wO I qo (qs 0) (qa 0) (xs o.1 0 (0 : Int32), xa (xa (xa o.2 0 (upd (o.2 0) (o.1 1).toNatClampNeg (1 : Int32))) 1 (upd (o.2 1) (o.1 1).toNatClampNeg mn)) 2 (upd (o.2 2) (o.1 1).toNatClampNeg (a.1 0))) ++ wS I qo qs a ++ wS I qo qa z) := hD
        refine lv_aload_n hx hb dX4_come_80 rfl (lv_at hl 0 rfl) ?_
        refine va_get (D := D) (ci := 4) (v := .ref (qs 0)) (C := RX4) (T := TX4) (N := 8) hx hb hts hinX4 hown hK hP 0 rfl rfl 6 (by decide) w_6 (fun _ h9 => h9) rfl dX4_come_81 ?_
        refine va_getN (D := D) (ci := 3) (v := .ref (qs 4)) (C := RX3) (T := TX3) (N := 12) hx hb hts hinX3 hown hK hP 5 rfl rfl 10 (by decide) (hN.use 11 rfl) (fun _ h9 => h9) rfl dX4_come_84 ?_
        refine lv_aload_n hx hb dX4_come_87 rfl (lv_at hl 0 rfl) ?_
        refine va_get (D := D) (ci := 4) (v := .int (o.1 1)) (C := RX4) (T := TX4) (N := 8) hx hb hts hinX4 hown hK hP 0 rfl rfl 1 (by decide) w_2 (fun _ h9 => h9) rfl dX4_come_88 ?_
        refine lv_iconst (v := (-1 : Int32)) hx hb dX4_come_91 (by decide) ?_
        refine va_iast (f := (a.2 3)) hx hb hK hP hD hS 9 0 rfl rfl (show vp_in (o.1 1) 40 from (vin40 hn.1 (ne40 hn c_2))) dX4_come_92 (fun H locs hP hD hS => ?_)
        have hP : va_P D vwCl (wO I qo (qs 0) (qa 0) (xs o.1 0 (0 : Int32), xa (xa (xa o.2 0 (upd (o.2 0) (o.1 1).toNatClampNeg (1 : Int32))) 1 (upd (o.2 1) (o.1 1).toNatClampNeg mn)) 2 (upd (o.2 2) (o.1 1).toNatClampNeg (a.1 0))) ++ wS I qo qs (a.1, xa a.2 3 (upd (a.2 3) (o.1 1).toNatClampNeg (-1 : Int32))) ++ wS I qo qa z) H := hP
        have hD : va_D A (wO I qo (qs 0) (qa 0) (xs o.1 0 (0 : Int32), xa (xa (xa o.2 0 (upd (o.2 0) (o.1 1).toNatClampNeg (1 : Int32))) 1 (upd (o.2 1) (o.1 1).toNatClampNeg mn)) 2 (upd (o.2 2) (o.1 1).toNatClampNeg (a.1 0))) ++ wS I qo qs (a.1, xa a.2 3 (upd (a.2 3) (o.1 1).toNatClampNeg (-1 : Int32))) ++ wS I qo qa z) := hD
        refine lv_aload_n hx hb dX4_come_93 rfl (lv_at hl 0 rfl) ?_
        refine lv_dup hx hb dX4_come_94 rfl ?_
        refine va_get (D := D) (ci := 4) (v := .int (o.1 1)) (C := RX4) (T := TX4) (N := 8) hx hb hts hinX4 hown hK hP 0 rfl rfl 1 (by decide) w_2 (fun _ h9 => h9) rfl dX4_come_95 ?_
        refine lv_iconst (v := (1 : Int32)) hx hb dX4_come_98 (by decide) ?_
        refine lv_iadd hx hb dX4_come_99 ?_
        refine va_put (D := D) (ci := 4) (v := .int ((o.1 1) + (1 : Int32))) (ty := tyX4 1) (C := RX4) (T := TX4) (N := 8) hx hb hts hinX4 tyX4 tyX4_ok nmX4 hown hK hP hD hS 0 rfl rfl 1 (by decide) w_2 (fun _ h9 => h9) rfl (tyX4_ok 1 (by decide)) rfl rfl (Nat.le_of_ble_eq_true rfl) dX4_come_100 (fun H locs hP hD hS => ?_)
        have hP : va_P D vwCl (wO I qo (qs 0) (qa 0) (xs (xs o.1 0 (0 : Int32)) 1 ((o.1 1) + (1 : Int32)), xa (xa (xa o.2 0 (upd (o.2 0) (o.1 1).toNatClampNeg (1 : Int32))) 1 (upd (o.2 1) (o.1 1).toNatClampNeg mn)) 2 (upd (o.2 2) (o.1 1).toNatClampNeg (a.1 0))) ++ wS I qo qs (a.1, xa a.2 3 (upd (a.2 3) (o.1 1).toNatClampNeg (-1 : Int32))) ++ wS I qo qa z) H := hP
        have hD : va_D A (wO I qo (qs 0) (qa 0) (xs (xs o.1 0 (0 : Int32)) 1 ((o.1 1) + (1 : Int32)), xa (xa (xa o.2 0 (upd (o.2 0) (o.1 1).toNatClampNeg (1 : Int32))) 1 (upd (o.2 1) (o.1 1).toNatClampNeg mn)) 2 (upd (o.2 2) (o.1 1).toNatClampNeg (a.1 0))) ++ wS I qo qs (a.1, xa a.2 3 (upd (a.2 3) (o.1 1).toNatClampNeg (-1 : Int32))) ++ wS I qo qa z) := hD
        refine lv_aload_n hx hb dX4_come_103 rfl (lv_at hl 0 rfl) ?_
        refine va_get (D := D) (ci := 4) (v := .int ((o.1 1) + (1 : Int32))) (C := RX4) (T := TX4) (N := 8) hx hb hts hinX4 hown hK hP 0 rfl rfl 1 (by decide) w_2 (fun _ h9 => h9) rfl dX4_come_104 ?_
        refine lv_iconst (v := (1 : Int32)) hx hb dX4_come_107 (by decide) ?_
        refine lv_isub hx hb dX4_come_108 ?_
        exact xk_iret (wf := fun z : MO × MS × MS => wO I qo (qs 0) (qa 0) z.1 ++ wS I qo qs z.2.1 ++ wS I qo qa z.2.2) (u := ((xs (xs o.1 0 (0 : Int32)) 1 ((o.1 1) + (1 : Int32)), xa (xa (xa o.2 0 (upd (o.2 0) (o.1 1).toNatClampNeg (1 : Int32))) 1 (upd (o.2 1) (o.1 1).toNatClampNeg mn)) 2 (upd (o.2 2) (o.1 1).toNatClampNeg (a.1 0))), (a.1, xa a.2 3 (upd (a.2 3) (o.1 1).toNatClampNeg (-1 : Int32))), z)) (u1 := ((s_X4_come o a bg mn).1, (s_X4_come o a bg mn).2, z)) hx hb hr rfl hlocks hP hK hD hS (by unfold r_X4_come; rw [if_neg c_1, if_neg c_2, if_neg c_3]) (by unfold s_X4_come; rw [if_neg c_1, if_neg c_2, if_neg c_3]) dX4_come_109
    · refine lv_aload_n hx hb dX4_come_30 rfl (lv_at hl 0 rfl) ?_
      refine lv_iconst (v := (2 : Int32)) hx hb dX4_come_31 (by decide) ?_
      refine xk_calli ([cMS qo qs a.1, cA I (qs 1) 40 (a.2 0), cA I (qs 2) 40 (a.2 1), cA I (qs 3) 40 (a.2 2), cA I (qs 4) 40 (a.2 3), cMS qo qa z.1, cA I (qa 1) 40 (z.2 0), cA I (qa 2) 40 (z.2 1), cA I (qa 3) 40 (z.2 2), cA I (qa 4) 40 (z.2 3)]) (wO I qo (qs 0) (qa 0) (s_X4_no (xs o.1 0 (0 : Int32), o.2) (2 : Int32)) ++ wS I qo qs a ++ wS I qo qa z) [0, 1, 2, 3, 4] [5, 6, 7, 8, 9, 10, 11, 12, 13, 14] [10, 11, 12, 13, 14, 0, 1, 2, 3, 4, 5, 6, 7, 8, 9] hP hD hS hA (va_runV (As := [.int (2 : Int32)]) (rest := []) ⟨hx, hb, hml, hown, hts⟩ (c_X4_no l D I qo (qs 0) (qa 0) H.size (xs o.1 0 (0 : Int32), o.2) (2 : Int32) ) (cwV 1 hts gX4_come_X4_no rfl rfl rfl (by decide +kernel) ⟨Nat.le_of_ble_eq_true rfl, Nat.le_of_ble_eq_true rfl⟩) (xk_preV (wc := wO I qo (qs 0) (qa 0) (xs o.1 0 (0 : Int32), o.2)) (q0 := 0) (ci := 4) hN hP hK hD [0, 1, 2, 3, 4] rfl rfl rfl rfl) rfl rfl hl.1 rfl (lv_room (Nat.le_of_ble_eq_true rfl)) dX4_come_32 ⟨Nat.le_of_ble_eq_true rfl, Nat.le_of_ble_eq_true rfl⟩) rfl rfl rfl (by decide) rfl rfl (fun H locs hP hD hS => ?_)
      generalize hz_1 : s_X4_no (xs o.1 0 (0 : Int32), o.2) (2 : Int32) = z_1 at hP hD
      have hg_1 : g1_X4_come o a bg mn = z_1 := by rw [← hz_1]; rfl
      exact xk_iret (wf := fun z : MO × MS × MS => wO I qo (qs 0) (qa 0) z.1 ++ wS I qo qs z.2.1 ++ wS I qo qa z.2.2) (u := (z_1, a, z)) (u1 := ((s_X4_come o a bg mn).1, (s_X4_come o a bg mn).2, z)) hx hb hr rfl hlocks hP hK hD hS (by subst hg_1; unfold r_X4_come; rw [if_neg c_1, if_pos c_2]) (by subst hg_1; unfold s_X4_come; rw [if_neg c_1, if_pos c_2]) dX4_come_35
  · refine lv_aload_n hx hb dX4_come_15 rfl (lv_at hl 0 rfl) ?_
    refine lv_iconst (v := (1 : Int32)) hx hb dX4_come_16 (by decide) ?_
    refine xk_calli ([cMS qo qs a.1, cA I (qs 1) 40 (a.2 0), cA I (qs 2) 40 (a.2 1), cA I (qs 3) 40 (a.2 2), cA I (qs 4) 40 (a.2 3), cMS qo qa z.1, cA I (qa 1) 40 (z.2 0), cA I (qa 2) 40 (z.2 1), cA I (qa 3) 40 (z.2 2), cA I (qa 4) 40 (z.2 3)]) (wO I qo (qs 0) (qa 0) (s_X4_no (xs o.1 0 (0 : Int32), o.2) (1 : Int32)) ++ wS I qo qs a ++ wS I qo qa z) [0, 1, 2, 3, 4] [5, 6, 7, 8, 9, 10, 11, 12, 13, 14] [10, 11, 12, 13, 14, 0, 1, 2, 3, 4, 5, 6, 7, 8, 9] hP hD hS hA (va_runV (As := [.int (1 : Int32)]) (rest := []) ⟨hx, hb, hml, hown, hts⟩ (c_X4_no l D I qo (qs 0) (qa 0) H.size (xs o.1 0 (0 : Int32), o.2) (1 : Int32) ) (cwV 1 hts gX4_come_X4_no rfl rfl rfl (by decide +kernel) ⟨Nat.le_of_ble_eq_true rfl, Nat.le_of_ble_eq_true rfl⟩) (xk_preV (wc := wO I qo (qs 0) (qa 0) (xs o.1 0 (0 : Int32), o.2)) (q0 := 0) (ci := 4) hN hP hK hD [0, 1, 2, 3, 4] rfl rfl rfl rfl) rfl rfl hl.1 rfl (lv_room (Nat.le_of_ble_eq_true rfl)) dX4_come_17 ⟨Nat.le_of_ble_eq_true rfl, Nat.le_of_ble_eq_true rfl⟩) rfl rfl rfl (by decide) rfl rfl (fun H locs hP hD hS => ?_)
    generalize hz_2 : s_X4_no (xs o.1 0 (0 : Int32), o.2) (1 : Int32) = z_2 at hP hD
    have hg_2 : g2_X4_come o a bg mn = z_2 := by rw [← hz_2]; rfl
    exact xk_iret (wf := fun z : MO × MS × MS => wO I qo (qs 0) (qa 0) z.1 ++ wS I qo qs z.2.1 ++ wS I qo qa z.2.2) (u := (z_2, a, z)) (u1 := ((s_X4_come o a bg mn).1, (s_X4_come o a bg mn).2, z)) hx hb hr rfl hlocks hP hK hD hS (by subst hg_2; unfold r_X4_come; rw [if_pos c_1]) (by subst hg_2; unfold s_X4_come; rw [if_pos c_1]) dX4_come_20

def g1_X4_leave (o : MO) (a : MS) (k : Int32) : MO := s_X4_no (xs o.1 0 (0 : Int32), o.2) (2 : Int32)
def g2_X4_leave (o : MO) (a : MS) (k : Int32) : MO := s_X4_no (xs o.1 0 (0 : Int32), o.2) (1 : Int32)
def r_X4_leave (o : MO) (a : MS) (k : Int32) : Int32 :=
  if (r_X4_isTraveller (xs o.1 0 (0 : Int32), o.2) k) = 0 then
    (r_X4_no (xs o.1 0 (0 : Int32), o.2) (1 : Int32))
  else
    if ((a.2 0) k.toNatClampNeg) = 0 then
      ((a.2 1) k.toNatClampNeg)
    else
      (r_X4_no (xs o.1 0 (0 : Int32), o.2) (2 : Int32))
def s_X4_leave (o : MO) (a : MS) (k : Int32) : MO × MS :=
  if (r_X4_isTraveller (xs o.1 0 (0 : Int32), o.2) k) = 0 then
    ((g2_X4_leave o a k), a)
  else
    if ((a.2 0) k.toNatClampNeg) = 0 then
      ((xs o.1 0 (0 : Int32), o.2), (a.1, xa a.2 0 (upd (a.2 0) k.toNatClampNeg (3 : Int32))))
    else
      ((g1_X4_leave o a k), a)
set_option maxHeartbeats 800000 in
set_option maxRecDepth 100000 in
theorem c_X4_leave (l : Launch) (D : va_G) (I : ClassId) (qo qs qa : Nat → Nat) (sz : Nat) (o : MO) (a : MS) (z : MS) (k : Int32) (hn : nOk (o.1 1)) : xMi l D [(I, .int)] yX4_leave wsX4_leave { frames := 2, cells := 0, slots := 0, locals := 43 } [.ref (qo 0), .int k] sz (wO I qo (qs 0) (qa 0) o ++ wS I qo qs a ++ wS I qo qa z) (r_X4_leave o a k) (wO I qo (qs 0) (qa 0) ((s_X4_leave o a k).1) ++ wS I qo qs ((s_X4_leave o a k).2) ++ wS I qo qa z) 0 0 := by
  refine xk_start (cc := cX4_leave) (maxL := 2) (ret := (some .int)) (Qf := fun A => xQi D [(I, .int)] A (r_X4_leave o a k) (wO I qo (qs 0) (qa 0) ((s_X4_leave o a k).1) ++ wS I qo qs ((s_X4_leave o a k).2) ++ wS I qo qa z)) (by decide) rfl (Nat.le_of_ble_eq_true rfl) ?_
  intro p e s m below meth c A H ls hst hAe hsz hl
  obtain ⟨hx, hb, hr, hts, hown, hlocks, hml, hin, hN, hK, hP, hD, hA, hS⟩ := hst
  have hl : lv_has ls 2 [(0, .ref (qo 0)), (1, .int k)] := hl
  have hP : va_P D vwCl (wO I qo (qs 0) (qa 0) o ++ wS I qo qs a ++ wS I qo qa z) H := hP
  have hinX4 : ∀ w ∈ u_ws RX4 TX4 8, w ∈ wsX4_leave := by decide +kernel
  have hinX3 : ∀ w ∈ u_ws RX3 TX3 12, w ∈ wsX4_leave := by decide +kernel
  have w_1 := hts (.fieldLink RX4 34 "BridgeBellsModel" "thrown" "I") (by decide +kernel)
  have w_2 := hts (.fieldLink RX4 27 "BridgeBellsModel" "s" "LBridgeBellsModel$State;") (by decide +kernel)
  refine lv_aload_n hx hb dX4_leave_0 rfl (lv_at hl 0 rfl) ?_
  refine lv_iconst (v := (0 : Int32)) hx hb dX4_leave_1 (by decide) ?_
  refine va_put (D := D) (ci := 4) (v := .int (0 : Int32)) (ty := tyX4 0) (C := RX4) (T := TX4) (N := 8) hx hb hts hinX4 tyX4 tyX4_ok nmX4 hown hK hP hD hS 0 rfl rfl 0 (by decide) w_1 (fun _ h9 => h9) rfl (tyX4_ok 0 (by decide)) rfl rfl (Nat.le_of_ble_eq_true rfl) dX4_leave_2 (fun H locs hP hD hS => ?_)
  have hP : va_P D vwCl (wO I qo (qs 0) (qa 0) (xs o.1 0 (0 : Int32), o.2) ++ wS I qo qs a ++ wS I qo qa z) H := hP
  have hD : va_D A (wO I qo (qs 0) (qa 0) (xs o.1 0 (0 : Int32), o.2) ++ wS I qo qs a ++ wS I qo qa z) := hD
  refine lv_aload_n hx hb dX4_leave_5 rfl (lv_at hl 0 rfl) ?_
  refine lv_iload_n hx hb dX4_leave_6 rfl (lv_at hl 1 rfl) ?_
  refine xk_calli ([cMS qo qs a.1, cA I (qs 1) 40 (a.2 0), cA I (qs 2) 40 (a.2 1), cA I (qs 3) 40 (a.2 2), cA I (qs 4) 40 (a.2 3), cMS qo qa z.1, cA I (qa 1) 40 (z.2 0), cA I (qa 2) 40 (z.2 1), cA I (qa 3) 40 (z.2 2), cA I (qa 4) 40 (z.2 3)]) (wO I qo (qs 0) (qa 0) (xs o.1 0 (0 : Int32), o.2) ++ wS I qo qs a ++ wS I qo qa z) [0, 1, 2, 3, 4] [5, 6, 7, 8, 9, 10, 11, 12, 13, 14] [10, 11, 12, 13, 14, 0, 1, 2, 3, 4, 5, 6, 7, 8, 9] hP hD hS hA (va_runV (As := [.int k]) (rest := []) ⟨hx, hb, hml, hown, hts⟩ (c_X4_isTraveller l D I qo (qs 0) (qa 0) H.size (xs o.1 0 (0 : Int32), o.2) k ) (cwV 1 hts gX4_leave_X4_isTraveller rfl rfl rfl (by decide +kernel) ⟨Nat.le_of_ble_eq_true rfl, Nat.le_of_ble_eq_true rfl⟩) (xk_preV (wc := wO I qo (qs 0) (qa 0) (xs o.1 0 (0 : Int32), o.2)) (q0 := 0) (ci := 4) hN hP hK hD [0, 1, 2, 3, 4] rfl rfl rfl rfl) rfl rfl hl.1 rfl (lv_room (Nat.le_of_ble_eq_true rfl)) dX4_leave_7 ⟨Nat.le_of_ble_eq_true rfl, Nat.le_of_ble_eq_true rfl⟩) rfl rfl rfl (by decide) rfl rfl (fun H locs hP hD hS => ?_)
  refine lv_if_ne (tgt := 19) hx hb dX4_leave_10 (by decide) (fun c_1 => ?_) (fun c_1 => ?_)
  · refine lv_aload_n hx hb dX4_leave_19 rfl (lv_at hl 0 rfl) ?_
    refine va_get (D := D) (ci := 4) (v := .ref (qs 0)) (C := RX4) (T := TX4) (N := 8) hx hb hts hinX4 hown hK hP 0 rfl rfl 6 (by decide) w_2 (fun _ h9 => h9) rfl dX4_leave_20 ?_
    refine va_getN (D := D) (ci := 3) (v := .ref (qs 1)) (C := RX3) (T := TX3) (N := 12) hx hb hts hinX3 hown hK hP 5 rfl rfl 7 (by decide) (hN.use 8 rfl) (fun _ h9 => h9) rfl dX4_leave_23 ?_
    refine lv_iload_n hx hb dX4_leave_26 rfl (lv_at hl 1 rfl) ?_
    refine va_iald (f := (a.2 0)) hx hb hK hP 6 0 rfl rfl (show vp_in k 40 from (isTr_v (o := (xs o.1 0 (0 : Int32), o.2)) hn c_1)) dX4_leave_27 ?_
    refine lv_if_eq (tgt := 37) hx hb dX4_leave_28 (by decide) (fun c_2 => ?_) (fun c_2 => ?_)
    · refine lv_aload_n hx hb dX4_leave_37 rfl (lv_at hl 0 rfl) ?_
      refine va_get (D := D) (ci := 4) (v := .ref (qs 0)) (C := RX4) (T := TX4) (N := 8) hx hb hts hinX4 hown hK hP 0 rfl rfl 6 (by decide) w_2 (fun _ h9 => h9) rfl dX4_leave_38 ?_
      refine va_getN (D := D) (ci := 3) (v := .ref (qs 1)) (C := RX3) (T := TX3) (N := 12) hx hb hts hinX3 hown hK hP 5 rfl rfl 7 (by decide) (hN.use 8 rfl) (fun _ h9 => h9) rfl dX4_leave_41 ?_
      refine lv_iload_n hx hb dX4_leave_44 rfl (lv_at hl 1 rfl) ?_
      refine lv_iconst (v := (3 : Int32)) hx hb dX4_leave_45 (by decide) ?_
      refine va_iast (f := (a.2 0)) hx hb hK hP hD hS 6 0 rfl rfl (show vp_in k 40 from (isTr_v (o := (xs o.1 0 (0 : Int32), o.2)) hn c_1)) dX4_leave_46 (fun H locs hP hD hS => ?_)
      have hP : va_P D vwCl (wO I qo (qs 0) (qa 0) (xs o.1 0 (0 : Int32), o.2) ++ wS I qo qs (a.1, xa a.2 0 (upd (a.2 0) k.toNatClampNeg (3 : Int32))) ++ wS I qo qa z) H := hP
      have hD : va_D A (wO I qo (qs 0) (qa 0) (xs o.1 0 (0 : Int32), o.2) ++ wS I qo qs (a.1, xa a.2 0 (upd (a.2 0) k.toNatClampNeg (3 : Int32))) ++ wS I qo qa z) := hD
      refine lv_aload_n hx hb dX4_leave_47 rfl (lv_at hl 0 rfl) ?_
      refine va_get (D := D) (ci := 4) (v := .ref (qs 0)) (C := RX4) (T := TX4) (N := 8) hx hb hts hinX4 hown hK hP 0 rfl rfl 6 (by decide) w_2 (fun _ h9 => h9) rfl dX4_leave_48 ?_
      refine va_getN (D := D) (ci := 3) (v := .ref (qs 2)) (C := RX3) (T := TX3) (N := 12) hx hb hts hinX3 hown hK hP 5 rfl rfl 8 (by decide) (hN.use 9 rfl) (fun _ h9 => h9) rfl dX4_leave_51 ?_
      refine lv_iload_n hx hb dX4_leave_54 rfl (lv_at hl 1 rfl) ?_
      refine va_iald (f := (a.2 1)) hx hb hK hP 7 0 rfl rfl (show vp_in k 40 from (isTr_v (o := (xs o.1 0 (0 : Int32), o.2)) hn c_1)) dX4_leave_55 ?_
      exact xk_iret (wf := fun z : MO × MS × MS => wO I qo (qs 0) (qa 0) z.1 ++ wS I qo qs z.2.1 ++ wS I qo qa z.2.2) (u := ((xs o.1 0 (0 : Int32), o.2), (a.1, xa a.2 0 (upd (a.2 0) k.toNatClampNeg (3 : Int32))), z)) (u1 := ((s_X4_leave o a k).1, (s_X4_leave o a k).2, z)) hx hb hr rfl hlocks hP hK hD hS (by unfold r_X4_leave; rw [if_neg c_1, if_pos c_2]) (by unfold s_X4_leave; rw [if_neg c_1, if_pos c_2]) dX4_leave_56
    · refine lv_aload_n hx hb dX4_leave_31 rfl (lv_at hl 0 rfl) ?_
      refine lv_iconst (v := (2 : Int32)) hx hb dX4_leave_32 (by decide) ?_
      refine xk_calli ([cMS qo qs a.1, cA I (qs 1) 40 (a.2 0), cA I (qs 2) 40 (a.2 1), cA I (qs 3) 40 (a.2 2), cA I (qs 4) 40 (a.2 3), cMS qo qa z.1, cA I (qa 1) 40 (z.2 0), cA I (qa 2) 40 (z.2 1), cA I (qa 3) 40 (z.2 2), cA I (qa 4) 40 (z.2 3)]) (wO I qo (qs 0) (qa 0) (s_X4_no (xs o.1 0 (0 : Int32), o.2) (2 : Int32)) ++ wS I qo qs a ++ wS I qo qa z) [0, 1, 2, 3, 4] [5, 6, 7, 8, 9, 10, 11, 12, 13, 14] [10, 11, 12, 13, 14, 0, 1, 2, 3, 4, 5, 6, 7, 8, 9] hP hD hS hA (va_runV (As := [.int (2 : Int32)]) (rest := []) ⟨hx, hb, hml, hown, hts⟩ (c_X4_no l D I qo (qs 0) (qa 0) H.size (xs o.1 0 (0 : Int32), o.2) (2 : Int32) ) (cwV 1 hts gX4_leave_X4_no rfl rfl rfl (by decide +kernel) ⟨Nat.le_of_ble_eq_true rfl, Nat.le_of_ble_eq_true rfl⟩) (xk_preV (wc := wO I qo (qs 0) (qa 0) (xs o.1 0 (0 : Int32), o.2)) (q0 := 0) (ci := 4) hN hP hK hD [0, 1, 2, 3, 4] rfl rfl rfl rfl) rfl rfl hl.1 rfl (lv_room (Nat.le_of_ble_eq_true rfl)) dX4_leave_33 ⟨Nat.le_of_ble_eq_true rfl, Nat.le_of_ble_eq_true rfl⟩) rfl rfl rfl (by decide) rfl rfl (fun H locs hP hD hS => ?_)
      generalize hz_1 : s_X4_no (xs o.1 0 (0 : Int32), o.2) (2 : Int32) = z_1 at hP hD
      have hg_1 : g1_X4_leave o a k = z_1 := by rw [← hz_1]; rfl
      exact xk_iret (wf := fun z : MO × MS × MS => wO I qo (qs 0) (qa 0) z.1 ++ wS I qo qs z.2.1 ++ wS I qo qa z.2.2) (u := (z_1, a, z)) (u1 := ((s_X4_leave o a k).1, (s_X4_leave o a k).2, z)) hx hb hr rfl hlocks hP hK hD hS (by subst hg_1; unfold r_X4_leave; rw [if_neg c_1, if_neg c_2]) (by subst hg_1; unfold s_X4_leave; rw [if_neg c_1, if_neg c_2]) dX4_leave_36
  · refine lv_aload_n hx hb dX4_leave_13 rfl (lv_at hl 0 rfl) ?_
    refine lv_iconst (v := (1 : Int32)) hx hb dX4_leave_14 (by decide) ?_
    refine xk_calli ([cMS qo qs a.1, cA I (qs 1) 40 (a.2 0), cA I (qs 2) 40 (a.2 1), cA I (qs 3) 40 (a.2 2), cA I (qs 4) 40 (a.2 3), cMS qo qa z.1, cA I (qa 1) 40 (z.2 0), cA I (qa 2) 40 (z.2 1), cA I (qa 3) 40 (z.2 2), cA I (qa 4) 40 (z.2 3)]) (wO I qo (qs 0) (qa 0) (s_X4_no (xs o.1 0 (0 : Int32), o.2) (1 : Int32)) ++ wS I qo qs a ++ wS I qo qa z) [0, 1, 2, 3, 4] [5, 6, 7, 8, 9, 10, 11, 12, 13, 14] [10, 11, 12, 13, 14, 0, 1, 2, 3, 4, 5, 6, 7, 8, 9] hP hD hS hA (va_runV (As := [.int (1 : Int32)]) (rest := []) ⟨hx, hb, hml, hown, hts⟩ (c_X4_no l D I qo (qs 0) (qa 0) H.size (xs o.1 0 (0 : Int32), o.2) (1 : Int32) ) (cwV 1 hts gX4_leave_X4_no rfl rfl rfl (by decide +kernel) ⟨Nat.le_of_ble_eq_true rfl, Nat.le_of_ble_eq_true rfl⟩) (xk_preV (wc := wO I qo (qs 0) (qa 0) (xs o.1 0 (0 : Int32), o.2)) (q0 := 0) (ci := 4) hN hP hK hD [0, 1, 2, 3, 4] rfl rfl rfl rfl) rfl rfl hl.1 rfl (lv_room (Nat.le_of_ble_eq_true rfl)) dX4_leave_15 ⟨Nat.le_of_ble_eq_true rfl, Nat.le_of_ble_eq_true rfl⟩) rfl rfl rfl (by decide) rfl rfl (fun H locs hP hD hS => ?_)
    generalize hz_2 : s_X4_no (xs o.1 0 (0 : Int32), o.2) (1 : Int32) = z_2 at hP hD
    have hg_2 : g2_X4_leave o a k = z_2 := by rw [← hz_2]; rfl
    exact xk_iret (wf := fun z : MO × MS × MS => wO I qo (qs 0) (qa 0) z.1 ++ wS I qo qs z.2.1 ++ wS I qo qa z.2.2) (u := (z_2, a, z)) (u1 := ((s_X4_leave o a k).1, (s_X4_leave o a k).2, z)) hx hb hr rfl hlocks hP hK hD hS (by subst hg_2; unfold r_X4_leave; rw [if_pos c_1]) (by subst hg_2; unfold s_X4_leave; rw [if_pos c_1]) dX4_leave_18

def g1_X4_ring (o : MO) (a : MS) (nc : Int32) : MO := s_X4_no (xs o.1 0 (0 : Int32), o.2) (1 : Int32)
def r_X4_ring (o : MO) (a : MS) (nc : Int32) : Int32 :=
  if (r_X4_isIn nc (0 : Int32) (4 : Int32)) = 0 then
    (r_X4_no (xs o.1 0 (0 : Int32), o.2) (1 : Int32))
  else
    (a.1 4)
def s_X4_ring (o : MO) (a : MS) (nc : Int32) : MO × MS :=
  if (r_X4_isIn nc (0 : Int32) (4 : Int32)) = 0 then
    ((g1_X4_ring o a nc), a)
  else
    ((xs o.1 0 (0 : Int32), o.2), (xs a.1 4 nc, a.2))
set_option maxHeartbeats 800000 in
set_option maxRecDepth 100000 in
theorem c_X4_ring (l : Launch) (D : va_G) (I : ClassId) (qo qs qa : Nat → Nat) (sz : Nat) (o : MO) (a : MS) (z : MS) (nc : Int32)  : xMi l D [(I, .int)] yX4_ring wsX4_ring { frames := 1, cells := 0, slots := 0, locals := 22 } [.ref (qo 0), .int nc] sz (wO I qo (qs 0) (qa 0) o ++ wS I qo qs a ++ wS I qo qa z) (r_X4_ring o a nc) (wO I qo (qs 0) (qa 0) ((s_X4_ring o a nc).1) ++ wS I qo qs ((s_X4_ring o a nc).2) ++ wS I qo qa z) 0 0 := by
  refine xk_start (cc := cX4_ring) (maxL := 3) (ret := (some .int)) (Qf := fun A => xQi D [(I, .int)] A (r_X4_ring o a nc) (wO I qo (qs 0) (qa 0) ((s_X4_ring o a nc).1) ++ wS I qo qs ((s_X4_ring o a nc).2) ++ wS I qo qa z)) (by decide) rfl (Nat.le_of_ble_eq_true rfl) ?_
  intro p e s m below meth c A H ls hst hAe hsz hl
  obtain ⟨hx, hb, hr, hts, hown, hlocks, hml, hin, hN, hK, hP, hD, hA, hS⟩ := hst
  have hl : lv_has ls 3 [(0, .ref (qo 0)), (1, .int nc)] := hl
  have hP : va_P D vwCl (wO I qo (qs 0) (qa 0) o ++ wS I qo qs a ++ wS I qo qa z) H := hP
  have hinX4 : ∀ w ∈ u_ws RX4 TX4 8, w ∈ wsX4_ring := by decide +kernel
  have hinX3 : ∀ w ∈ u_ws RX3 TX3 12, w ∈ wsX4_ring := by decide +kernel
  have w_1 := hts (.fieldLink RX4 34 "BridgeBellsModel" "thrown" "I") (by decide +kernel)
  have w_2 := hts (.fieldLink RX4 27 "BridgeBellsModel" "s" "LBridgeBellsModel$State;") (by decide +kernel)
  refine lv_aload_n hx hb dX4_ring_0 rfl (lv_at hl 0 rfl) ?_
  refine lv_iconst (v := (0 : Int32)) hx hb dX4_ring_1 (by decide) ?_
  refine va_put (D := D) (ci := 4) (v := .int (0 : Int32)) (ty := tyX4 0) (C := RX4) (T := TX4) (N := 8) hx hb hts hinX4 tyX4 tyX4_ok nmX4 hown hK hP hD hS 0 rfl rfl 0 (by decide) w_1 (fun _ h9 => h9) rfl (tyX4_ok 0 (by decide)) rfl rfl (Nat.le_of_ble_eq_true rfl) dX4_ring_2 (fun H locs hP hD hS => ?_)
  have hP : va_P D vwCl (wO I qo (qs 0) (qa 0) (xs o.1 0 (0 : Int32), o.2) ++ wS I qo qs a ++ wS I qo qa z) H := hP
  have hD : va_D A (wO I qo (qs 0) (qa 0) (xs o.1 0 (0 : Int32), o.2) ++ wS I qo qs a ++ wS I qo qa z) := hD
  refine lv_iload_n hx hb dX4_ring_5 rfl (lv_at hl 1 rfl) ?_
  refine lv_iconst (v := (0 : Int32)) hx hb dX4_ring_6 (by decide) ?_
  refine lv_iconst (v := (4 : Int32)) hx hb dX4_ring_7 (by decide) ?_
  refine xk_calli ([cMO qo (qs 0) (qa 0) (xs o.1 0 (0 : Int32)), cA I (qo 1) 40 (o.2 0), cA I (qo 2) 40 (o.2 1), cA I (qo 3) 40 (o.2 2), cA I (qo 4) 8 (o.2 3), cMS qo qs a.1, cA I (qs 1) 40 (a.2 0), cA I (qs 2) 40 (a.2 1), cA I (qs 3) 40 (a.2 2), cA I (qs 4) 40 (a.2 3), cMS qo qa z.1, cA I (qa 1) 40 (z.2 0), cA I (qa 2) 40 (z.2 1), cA I (qa 3) 40 (z.2 2), cA I (qa 4) 40 (z.2 3)]) (wO I qo (qs 0) (qa 0) (xs o.1 0 (0 : Int32), o.2) ++ wS I qo qs a ++ wS I qo qa z) [] [0, 1, 2, 3, 4, 5, 6, 7, 8, 9, 10, 11, 12, 13, 14] [0, 1, 2, 3, 4, 5, 6, 7, 8, 9, 10, 11, 12, 13, 14] hP hD hS hA (va_runS (As := [.int nc, .int (0 : Int32), .int (4 : Int32)]) (rest := []) ⟨hx, hb, hml, hown, hts⟩ (c_X4_isIn l D I  H.size nc (0 : Int32) (4 : Int32) ) (va_cwS 3 hts gX4_ring_X4_isIn rfl rfl rfl (by decide +kernel) ⟨Nat.le_of_ble_eq_true rfl, Nat.le_of_ble_eq_true rfl⟩) (xk_pre (wc := ([] : va_W)) hN hP hK hD [] rfl rfl) rfl rfl hl.1 rfl (lv_room (Nat.le_of_ble_eq_true rfl)) dX4_ring_8 ⟨Nat.le_of_ble_eq_true rfl, Nat.le_of_ble_eq_true rfl⟩) rfl rfl rfl (by decide) rfl rfl (fun H locs hP hD hS => ?_)
  refine lv_if_ne (tgt := 20) hx hb dX4_ring_11 (by decide) (fun c_1 => ?_) (fun c_1 => ?_)
  · refine lv_aload_n hx hb dX4_ring_20 rfl (lv_at hl 0 rfl) ?_
    refine va_get (D := D) (ci := 4) (v := .ref (qs 0)) (C := RX4) (T := TX4) (N := 8) hx hb hts hinX4 hown hK hP 0 rfl rfl 6 (by decide) w_2 (fun _ h9 => h9) rfl dX4_ring_21 ?_
    refine va_getN (D := D) (ci := 3) (v := .int (a.1 4)) (C := RX3) (T := TX3) (N := 12) hx hb hts hinX3 hown hK hP 5 rfl rfl 4 (by decide) (hN.use 7 rfl) (fun _ h9 => h9) rfl dX4_ring_24 ?_
    refine lv_istore_n (lv' := [(2, .int (a.1 4)), (0, .ref (qo 0)), (1, .int nc)]) hx hb dX4_ring_27 rfl hl (by decide) rfl (fun ls hl => ?_)
    refine lv_aload_n hx hb dX4_ring_28 rfl (lv_at hl 1 rfl) ?_
    refine va_get (D := D) (ci := 4) (v := .ref (qs 0)) (C := RX4) (T := TX4) (N := 8) hx hb hts hinX4 hown hK hP 0 rfl rfl 6 (by decide) w_2 (fun _ h9 => h9) rfl dX4_ring_29 ?_
    refine lv_iload_n hx hb dX4_ring_32 rfl (lv_at hl 2 rfl) ?_
    refine va_putN (D := D) (ci := 3) (v := .int nc) (ty := tyX3 4) (C := RX3) (T := TX3) (N := 12) hx hb hts hinX3 tyX3 tyX3_ok nmX3 hown hK hP hD hS 5 rfl rfl 4 (by decide) (hN.use 7 rfl) (fun _ h9 => h9) rfl (tyX3_ok 4 (by decide)) rfl rfl (Nat.le_of_ble_eq_true rfl) dX4_ring_33 (fun H locs hP hD hS => ?_)
    have hP : va_P D vwCl (wO I qo (qs 0) (qa 0) (xs o.1 0 (0 : Int32), o.2) ++ wS I qo qs (xs a.1 4 nc, a.2) ++ wS I qo qa z) H := hP
    have hD : va_D A (wO I qo (qs 0) (qa 0) (xs o.1 0 (0 : Int32), o.2) ++ wS I qo qs (xs a.1 4 nc, a.2) ++ wS I qo qa z) := hD
    refine lv_iload_n hx hb dX4_ring_36 rfl (lv_at hl 0 rfl) ?_
    exact xk_iret (wf := fun z : MO × MS × MS => wO I qo (qs 0) (qa 0) z.1 ++ wS I qo qs z.2.1 ++ wS I qo qa z.2.2) (u := ((xs o.1 0 (0 : Int32), o.2), (xs a.1 4 nc, a.2), z)) (u1 := ((s_X4_ring o a nc).1, (s_X4_ring o a nc).2, z)) hx hb hr rfl hlocks hP hK hD hS (by unfold r_X4_ring; rw [if_neg c_1]) (by unfold s_X4_ring; rw [if_neg c_1]) dX4_ring_37
  · refine lv_aload_n hx hb dX4_ring_14 rfl (lv_at hl 0 rfl) ?_
    refine lv_iconst (v := (1 : Int32)) hx hb dX4_ring_15 (by decide) ?_
    refine xk_calli ([cMS qo qs a.1, cA I (qs 1) 40 (a.2 0), cA I (qs 2) 40 (a.2 1), cA I (qs 3) 40 (a.2 2), cA I (qs 4) 40 (a.2 3), cMS qo qa z.1, cA I (qa 1) 40 (z.2 0), cA I (qa 2) 40 (z.2 1), cA I (qa 3) 40 (z.2 2), cA I (qa 4) 40 (z.2 3)]) (wO I qo (qs 0) (qa 0) (s_X4_no (xs o.1 0 (0 : Int32), o.2) (1 : Int32)) ++ wS I qo qs a ++ wS I qo qa z) [0, 1, 2, 3, 4] [5, 6, 7, 8, 9, 10, 11, 12, 13, 14] [10, 11, 12, 13, 14, 0, 1, 2, 3, 4, 5, 6, 7, 8, 9] hP hD hS hA (va_runV (As := [.int (1 : Int32)]) (rest := []) ⟨hx, hb, hml, hown, hts⟩ (c_X4_no l D I qo (qs 0) (qa 0) H.size (xs o.1 0 (0 : Int32), o.2) (1 : Int32) ) (cwV 1 hts gX4_ring_X4_no rfl rfl rfl (by decide +kernel) ⟨Nat.le_of_ble_eq_true rfl, Nat.le_of_ble_eq_true rfl⟩) (xk_preV (wc := wO I qo (qs 0) (qa 0) (xs o.1 0 (0 : Int32), o.2)) (q0 := 0) (ci := 4) hN hP hK hD [0, 1, 2, 3, 4] rfl rfl rfl rfl) rfl rfl hl.1 rfl (lv_room (Nat.le_of_ble_eq_true rfl)) dX4_ring_16 ⟨Nat.le_of_ble_eq_true rfl, Nat.le_of_ble_eq_true rfl⟩) rfl rfl rfl (by decide) rfl rfl (fun H locs hP hD hS => ?_)
    generalize hz_1 : s_X4_no (xs o.1 0 (0 : Int32), o.2) (1 : Int32) = z_1 at hP hD
    have hg_1 : g1_X4_ring o a nc = z_1 := by rw [← hz_1]; rfl
    exact xk_iret (wf := fun z : MO × MS × MS => wO I qo (qs 0) (qa 0) z.1 ++ wS I qo qs z.2.1 ++ wS I qo qa z.2.2) (u := (z_1, a, z)) (u1 := ((s_X4_ring o a nc).1, (s_X4_ring o a nc).2, z)) hx hb hr rfl hlocks hP hK hD hS (by subst hg_1; unfold r_X4_ring; rw [if_pos c_1]) (by subst hg_1; unfold s_X4_ring; rw [if_pos c_1]) dX4_ring_19

def g1_X4_poise (o : MO) (a : MS) (cp : Int32) : MO := s_X4_no (xs o.1 0 (0 : Int32), o.2) (2 : Int32)
def g2_X4_poise (o : MO) (a : MS) (cp : Int32) : MO := s_X4_no (xs o.1 0 (0 : Int32), o.2) (1 : Int32)
def r_X4_poise (o : MO) (a : MS) (cp : Int32) : Int32 :=
  if (r_X4_isIn cp (0 : Int32) (30 : Int32)) = 0 then
    (r_X4_no (xs o.1 0 (0 : Int32), o.2) (1 : Int32))
  else
    if (a.1 1) = 0 then
      (a.1 2)
    else
      if (a.1 1) = (60 : Int32) then
        (a.1 2)
      else
        (r_X4_no (xs o.1 0 (0 : Int32), o.2) (2 : Int32))
def s_X4_poise (o : MO) (a : MS) (cp : Int32) : MO × MS :=
  if (r_X4_isIn cp (0 : Int32) (30 : Int32)) = 0 then
    ((g2_X4_poise o a cp), a)
  else
    if (a.1 1) = 0 then
      ((xs o.1 0 (0 : Int32), o.2), (xs a.1 2 cp, a.2))
    else
      if (a.1 1) = (60 : Int32) then
        ((xs o.1 0 (0 : Int32), o.2), (xs a.1 2 cp, a.2))
      else
        ((g1_X4_poise o a cp), a)
set_option maxHeartbeats 800000 in
set_option maxRecDepth 100000 in
theorem c_X4_poise (l : Launch) (D : va_G) (I : ClassId) (qo qs qa : Nat → Nat) (sz : Nat) (o : MO) (a : MS) (z : MS) (cp : Int32)  : xMi l D [(I, .int)] yX4_poise wsX4_poise { frames := 1, cells := 0, slots := 0, locals := 22 } [.ref (qo 0), .int cp] sz (wO I qo (qs 0) (qa 0) o ++ wS I qo qs a ++ wS I qo qa z) (r_X4_poise o a cp) (wO I qo (qs 0) (qa 0) ((s_X4_poise o a cp).1) ++ wS I qo qs ((s_X4_poise o a cp).2) ++ wS I qo qa z) 0 0 := by
  refine xk_start (cc := cX4_poise) (maxL := 3) (ret := (some .int)) (Qf := fun A => xQi D [(I, .int)] A (r_X4_poise o a cp) (wO I qo (qs 0) (qa 0) ((s_X4_poise o a cp).1) ++ wS I qo qs ((s_X4_poise o a cp).2) ++ wS I qo qa z)) (by decide) rfl (Nat.le_of_ble_eq_true rfl) ?_
  intro p e s m below meth c A H ls hst hAe hsz hl
  obtain ⟨hx, hb, hr, hts, hown, hlocks, hml, hin, hN, hK, hP, hD, hA, hS⟩ := hst
  have hl : lv_has ls 3 [(0, .ref (qo 0)), (1, .int cp)] := hl
  have hP : va_P D vwCl (wO I qo (qs 0) (qa 0) o ++ wS I qo qs a ++ wS I qo qa z) H := hP
  have hinX4 : ∀ w ∈ u_ws RX4 TX4 8, w ∈ wsX4_poise := by decide +kernel
  have hinX3 : ∀ w ∈ u_ws RX3 TX3 12, w ∈ wsX4_poise := by decide +kernel
  have w_1 := hts (.fieldLink RX4 34 "BridgeBellsModel" "thrown" "I") (by decide +kernel)
  have w_2 := hts (.fieldLink RX4 27 "BridgeBellsModel" "s" "LBridgeBellsModel$State;") (by decide +kernel)
  refine lv_aload_n hx hb dX4_poise_0 rfl (lv_at hl 0 rfl) ?_
  refine lv_iconst (v := (0 : Int32)) hx hb dX4_poise_1 (by decide) ?_
  refine va_put (D := D) (ci := 4) (v := .int (0 : Int32)) (ty := tyX4 0) (C := RX4) (T := TX4) (N := 8) hx hb hts hinX4 tyX4 tyX4_ok nmX4 hown hK hP hD hS 0 rfl rfl 0 (by decide) w_1 (fun _ h9 => h9) rfl (tyX4_ok 0 (by decide)) rfl rfl (Nat.le_of_ble_eq_true rfl) dX4_poise_2 (fun H locs hP hD hS => ?_)
  have hP : va_P D vwCl (wO I qo (qs 0) (qa 0) (xs o.1 0 (0 : Int32), o.2) ++ wS I qo qs a ++ wS I qo qa z) H := hP
  have hD : va_D A (wO I qo (qs 0) (qa 0) (xs o.1 0 (0 : Int32), o.2) ++ wS I qo qs a ++ wS I qo qa z) := hD
  refine lv_iload_n hx hb dX4_poise_5 rfl (lv_at hl 1 rfl) ?_
  refine lv_iconst (v := (0 : Int32)) hx hb dX4_poise_6 (by decide) ?_
  refine lv_bipush (v := (30 : Int32)) hx hb dX4_poise_7 (by decide) ?_
  refine xk_calli ([cMO qo (qs 0) (qa 0) (xs o.1 0 (0 : Int32)), cA I (qo 1) 40 (o.2 0), cA I (qo 2) 40 (o.2 1), cA I (qo 3) 40 (o.2 2), cA I (qo 4) 8 (o.2 3), cMS qo qs a.1, cA I (qs 1) 40 (a.2 0), cA I (qs 2) 40 (a.2 1), cA I (qs 3) 40 (a.2 2), cA I (qs 4) 40 (a.2 3), cMS qo qa z.1, cA I (qa 1) 40 (z.2 0), cA I (qa 2) 40 (z.2 1), cA I (qa 3) 40 (z.2 2), cA I (qa 4) 40 (z.2 3)]) (wO I qo (qs 0) (qa 0) (xs o.1 0 (0 : Int32), o.2) ++ wS I qo qs a ++ wS I qo qa z) [] [0, 1, 2, 3, 4, 5, 6, 7, 8, 9, 10, 11, 12, 13, 14] [0, 1, 2, 3, 4, 5, 6, 7, 8, 9, 10, 11, 12, 13, 14] hP hD hS hA (va_runS (As := [.int cp, .int (0 : Int32), .int (30 : Int32)]) (rest := []) ⟨hx, hb, hml, hown, hts⟩ (c_X4_isIn l D I  H.size cp (0 : Int32) (30 : Int32) ) (va_cwS 3 hts gX4_poise_X4_isIn rfl rfl rfl (by decide +kernel) ⟨Nat.le_of_ble_eq_true rfl, Nat.le_of_ble_eq_true rfl⟩) (xk_pre (wc := ([] : va_W)) hN hP hK hD [] rfl rfl) rfl rfl hl.1 rfl (lv_room (Nat.le_of_ble_eq_true rfl)) dX4_poise_9 ⟨Nat.le_of_ble_eq_true rfl, Nat.le_of_ble_eq_true rfl⟩) rfl rfl rfl (by decide) rfl rfl (fun H locs hP hD hS => ?_)
  refine lv_if_ne (tgt := 21) hx hb dX4_poise_12 (by decide) (fun c_1 => ?_) (fun c_1 => ?_)
  · refine lv_aload_n hx hb dX4_poise_21 rfl (lv_at hl 0 rfl) ?_
    refine va_get (D := D) (ci := 4) (v := .ref (qs 0)) (C := RX4) (T := TX4) (N := 8) hx hb hts hinX4 hown hK hP 0 rfl rfl 6 (by decide) w_2 (fun _ h9 => h9) rfl dX4_poise_22 ?_
    refine va_getN (D := D) (ci := 3) (v := .int (a.1 1)) (C := RX3) (T := TX3) (N := 12) hx hb hts hinX3 hown hK hP 5 rfl rfl 1 (by decide) (hN.use 4 rfl) (fun _ h9 => h9) rfl dX4_poise_25 ?_
    refine lv_if_eq (tgt := 49) hx hb dX4_poise_28 (by decide) (fun c_2 => ?_) (fun c_2 => ?_)
    · refine lv_aload_n hx hb dX4_poise_49 rfl (lv_at hl 0 rfl) ?_
      refine va_get (D := D) (ci := 4) (v := .ref (qs 0)) (C := RX4) (T := TX4) (N := 8) hx hb hts hinX4 hown hK hP 0 rfl rfl 6 (by decide) w_2 (fun _ h9 => h9) rfl dX4_poise_50 ?_
      refine va_getN (D := D) (ci := 3) (v := .int (a.1 2)) (C := RX3) (T := TX3) (N := 12) hx hb hts hinX3 hown hK hP 5 rfl rfl 2 (by decide) (hN.use 5 rfl) (fun _ h9 => h9) rfl dX4_poise_53 ?_
      refine lv_istore_n (lv' := [(2, .int (a.1 2)), (0, .ref (qo 0)), (1, .int cp)]) hx hb dX4_poise_56 rfl hl (by decide) rfl (fun ls hl => ?_)
      refine lv_aload_n hx hb dX4_poise_57 rfl (lv_at hl 1 rfl) ?_
      refine va_get (D := D) (ci := 4) (v := .ref (qs 0)) (C := RX4) (T := TX4) (N := 8) hx hb hts hinX4 hown hK hP 0 rfl rfl 6 (by decide) w_2 (fun _ h9 => h9) rfl dX4_poise_58 ?_
      refine lv_iload_n hx hb dX4_poise_61 rfl (lv_at hl 2 rfl) ?_
      refine va_putN (D := D) (ci := 3) (v := .int cp) (ty := tyX3 2) (C := RX3) (T := TX3) (N := 12) hx hb hts hinX3 tyX3 tyX3_ok nmX3 hown hK hP hD hS 5 rfl rfl 2 (by decide) (hN.use 5 rfl) (fun _ h9 => h9) rfl (tyX3_ok 2 (by decide)) rfl rfl (Nat.le_of_ble_eq_true rfl) dX4_poise_62 (fun H locs hP hD hS => ?_)
      have hP : va_P D vwCl (wO I qo (qs 0) (qa 0) (xs o.1 0 (0 : Int32), o.2) ++ wS I qo qs (xs a.1 2 cp, a.2) ++ wS I qo qa z) H := hP
      have hD : va_D A (wO I qo (qs 0) (qa 0) (xs o.1 0 (0 : Int32), o.2) ++ wS I qo qs (xs a.1 2 cp, a.2) ++ wS I qo qa z) := hD
      refine lv_iload_n hx hb dX4_poise_65 rfl (lv_at hl 0 rfl) ?_
      exact xk_iret (wf := fun z : MO × MS × MS => wO I qo (qs 0) (qa 0) z.1 ++ wS I qo qs z.2.1 ++ wS I qo qa z.2.2) (u := ((xs o.1 0 (0 : Int32), o.2), (xs a.1 2 cp, a.2), z)) (u1 := ((s_X4_poise o a cp).1, (s_X4_poise o a cp).2, z)) hx hb hr rfl hlocks hP hK hD hS (by unfold r_X4_poise; rw [if_neg c_1, if_pos c_2]) (by unfold s_X4_poise; rw [if_neg c_1, if_pos c_2]) dX4_poise_66
    · refine lv_aload_n hx hb dX4_poise_31 rfl (lv_at hl 0 rfl) ?_
      refine va_get (D := D) (ci := 4) (v := .ref (qs 0)) (C := RX4) (T := TX4) (N := 8) hx hb hts hinX4 hown hK hP 0 rfl rfl 6 (by decide) w_2 (fun _ h9 => h9) rfl dX4_poise_32 ?_
      refine va_getN (D := D) (ci := 3) (v := .int (a.1 1)) (C := RX3) (T := TX3) (N := 12) hx hb hts hinX3 hown hK hP 5 rfl rfl 1 (by decide) (hN.use 4 rfl) (fun _ h9 => h9) rfl dX4_poise_35 ?_
      refine lv_bipush (v := (60 : Int32)) hx hb dX4_poise_38 (by decide) ?_
      refine lv_icmp_eq (tgt := 49) hx hb dX4_poise_40 (by decide) (fun c_3 => ?_) (fun c_3 => ?_)
      · refine lv_aload_n hx hb dX4_poise_49 rfl (lv_at hl 0 rfl) ?_
        refine va_get (D := D) (ci := 4) (v := .ref (qs 0)) (C := RX4) (T := TX4) (N := 8) hx hb hts hinX4 hown hK hP 0 rfl rfl 6 (by decide) w_2 (fun _ h9 => h9) rfl dX4_poise_50 ?_
        refine va_getN (D := D) (ci := 3) (v := .int (a.1 2)) (C := RX3) (T := TX3) (N := 12) hx hb hts hinX3 hown hK hP 5 rfl rfl 2 (by decide) (hN.use 5 rfl) (fun _ h9 => h9) rfl dX4_poise_53 ?_
        refine lv_istore_n (lv' := [(2, .int (a.1 2)), (0, .ref (qo 0)), (1, .int cp)]) hx hb dX4_poise_56 rfl hl (by decide) rfl (fun ls hl => ?_)
        refine lv_aload_n hx hb dX4_poise_57 rfl (lv_at hl 1 rfl) ?_
        refine va_get (D := D) (ci := 4) (v := .ref (qs 0)) (C := RX4) (T := TX4) (N := 8) hx hb hts hinX4 hown hK hP 0 rfl rfl 6 (by decide) w_2 (fun _ h9 => h9) rfl dX4_poise_58 ?_
        refine lv_iload_n hx hb dX4_poise_61 rfl (lv_at hl 2 rfl) ?_
        refine va_putN (D := D) (ci := 3) (v := .int cp) (ty := tyX3 2) (C := RX3) (T := TX3) (N := 12) hx hb hts hinX3 tyX3 tyX3_ok nmX3 hown hK hP hD hS 5 rfl rfl 2 (by decide) (hN.use 5 rfl) (fun _ h9 => h9) rfl (tyX3_ok 2 (by decide)) rfl rfl (Nat.le_of_ble_eq_true rfl) dX4_poise_62 (fun H locs hP hD hS => ?_)
        have hP : va_P D vwCl (wO I qo (qs 0) (qa 0) (xs o.1 0 (0 : Int32), o.2) ++ wS I qo qs (xs a.1 2 cp, a.2) ++ wS I qo qa z) H := hP
        have hD : va_D A (wO I qo (qs 0) (qa 0) (xs o.1 0 (0 : Int32), o.2) ++ wS I qo qs (xs a.1 2 cp, a.2) ++ wS I qo qa z) := hD
        refine lv_iload_n hx hb dX4_poise_65 rfl (lv_at hl 0 rfl) ?_
        exact xk_iret (wf := fun z : MO × MS × MS => wO I qo (qs 0) (qa 0) z.1 ++ wS I qo qs z.2.1 ++ wS I qo qa z.2.2) (u := ((xs o.1 0 (0 : Int32), o.2), (xs a.1 2 cp, a.2), z)) (u1 := ((s_X4_poise o a cp).1, (s_X4_poise o a cp).2, z)) hx hb hr rfl hlocks hP hK hD hS (by unfold r_X4_poise; rw [if_neg c_1, if_neg c_2, if_pos c_3]) (by unfold s_X4_poise; rw [if_neg c_1, if_neg c_2, if_pos c_3]) dX4_poise_66
      · refine lv_aload_n hx hb dX4_poise_43 rfl (lv_at hl 0 rfl) ?_
        refine lv_iconst (v := (2 : Int32)) hx hb dX4_poise_44 (by decide) ?_
        refine xk_calli ([cMS qo qs a.1, cA I (qs 1) 40 (a.2 0), cA I (qs 2) 40 (a.2 1), cA I (qs 3) 40 (a.2 2), cA I (qs 4) 40 (a.2 3), cMS qo qa z.1, cA I (qa 1) 40 (z.2 0), cA I (qa 2) 40 (z.2 1), cA I (qa 3) 40 (z.2 2), cA I (qa 4) 40 (z.2 3)]) (wO I qo (qs 0) (qa 0) (s_X4_no (xs o.1 0 (0 : Int32), o.2) (2 : Int32)) ++ wS I qo qs a ++ wS I qo qa z) [0, 1, 2, 3, 4] [5, 6, 7, 8, 9, 10, 11, 12, 13, 14] [10, 11, 12, 13, 14, 0, 1, 2, 3, 4, 5, 6, 7, 8, 9] hP hD hS hA (va_runV (As := [.int (2 : Int32)]) (rest := []) ⟨hx, hb, hml, hown, hts⟩ (c_X4_no l D I qo (qs 0) (qa 0) H.size (xs o.1 0 (0 : Int32), o.2) (2 : Int32) ) (cwV 1 hts gX4_poise_X4_no rfl rfl rfl (by decide +kernel) ⟨Nat.le_of_ble_eq_true rfl, Nat.le_of_ble_eq_true rfl⟩) (xk_preV (wc := wO I qo (qs 0) (qa 0) (xs o.1 0 (0 : Int32), o.2)) (q0 := 0) (ci := 4) hN hP hK hD [0, 1, 2, 3, 4] rfl rfl rfl rfl) rfl rfl hl.1 rfl (lv_room (Nat.le_of_ble_eq_true rfl)) dX4_poise_45 ⟨Nat.le_of_ble_eq_true rfl, Nat.le_of_ble_eq_true rfl⟩) rfl rfl rfl (by decide) rfl rfl (fun H locs hP hD hS => ?_)
        generalize hz_1 : s_X4_no (xs o.1 0 (0 : Int32), o.2) (2 : Int32) = z_1 at hP hD
        have hg_1 : g1_X4_poise o a cp = z_1 := by rw [← hz_1]; rfl
        exact xk_iret (wf := fun z : MO × MS × MS => wO I qo (qs 0) (qa 0) z.1 ++ wS I qo qs z.2.1 ++ wS I qo qa z.2.2) (u := (z_1, a, z)) (u1 := ((s_X4_poise o a cp).1, (s_X4_poise o a cp).2, z)) hx hb hr rfl hlocks hP hK hD hS (by subst hg_1; unfold r_X4_poise; rw [if_neg c_1, if_neg c_2, if_neg c_3]) (by subst hg_1; unfold s_X4_poise; rw [if_neg c_1, if_neg c_2, if_neg c_3]) dX4_poise_48
  · refine lv_aload_n hx hb dX4_poise_15 rfl (lv_at hl 0 rfl) ?_
    refine lv_iconst (v := (1 : Int32)) hx hb dX4_poise_16 (by decide) ?_
    refine xk_calli ([cMS qo qs a.1, cA I (qs 1) 40 (a.2 0), cA I (qs 2) 40 (a.2 1), cA I (qs 3) 40 (a.2 2), cA I (qs 4) 40 (a.2 3), cMS qo qa z.1, cA I (qa 1) 40 (z.2 0), cA I (qa 2) 40 (z.2 1), cA I (qa 3) 40 (z.2 2), cA I (qa 4) 40 (z.2 3)]) (wO I qo (qs 0) (qa 0) (s_X4_no (xs o.1 0 (0 : Int32), o.2) (1 : Int32)) ++ wS I qo qs a ++ wS I qo qa z) [0, 1, 2, 3, 4] [5, 6, 7, 8, 9, 10, 11, 12, 13, 14] [10, 11, 12, 13, 14, 0, 1, 2, 3, 4, 5, 6, 7, 8, 9] hP hD hS hA (va_runV (As := [.int (1 : Int32)]) (rest := []) ⟨hx, hb, hml, hown, hts⟩ (c_X4_no l D I qo (qs 0) (qa 0) H.size (xs o.1 0 (0 : Int32), o.2) (1 : Int32) ) (cwV 1 hts gX4_poise_X4_no rfl rfl rfl (by decide +kernel) ⟨Nat.le_of_ble_eq_true rfl, Nat.le_of_ble_eq_true rfl⟩) (xk_preV (wc := wO I qo (qs 0) (qa 0) (xs o.1 0 (0 : Int32), o.2)) (q0 := 0) (ci := 4) hN hP hK hD [0, 1, 2, 3, 4] rfl rfl rfl rfl) rfl rfl hl.1 rfl (lv_room (Nat.le_of_ble_eq_true rfl)) dX4_poise_17 ⟨Nat.le_of_ble_eq_true rfl, Nat.le_of_ble_eq_true rfl⟩) rfl rfl rfl (by decide) rfl rfl (fun H locs hP hD hS => ?_)
    generalize hz_2 : s_X4_no (xs o.1 0 (0 : Int32), o.2) (1 : Int32) = z_2 at hP hD
    have hg_2 : g2_X4_poise o a cp = z_2 := by rw [← hz_2]; rfl
    exact xk_iret (wf := fun z : MO × MS × MS => wO I qo (qs 0) (qa 0) z.1 ++ wS I qo qs z.2.1 ++ wS I qo qa z.2.2) (u := (z_2, a, z)) (u1 := ((s_X4_poise o a cp).1, (s_X4_poise o a cp).2, z)) hx hb hr rfl hlocks hP hK hD hS (by subst hg_2; unfold r_X4_poise; rw [if_pos c_1]) (by subst hg_2; unfold s_X4_poise; rw [if_pos c_1]) dX4_poise_20

theorem isIn_v {v : Int32} (h : ¬ r_X4_isIn v (0 : Int32) (7 : Int32) = 0) : vp_in v 8 := by
  obtain ⟨h1, h2⟩ := isIn_b h
  have h0 : (0 : Int32).toInt = 0 := by decide
  have h7 : (7 : Int32).toInt = 7 := by decide
  exact vinN (by omega) (by omega)
theorem isIn_v7 {v : Int32} (h : ¬ r_X4_isIn v (0 : Int32) (6 : Int32) = 0) : vp_in v 7 := by
  obtain ⟨h1, h2⟩ := isIn_b h
  have h0 : (0 : Int32).toInt = 0 := by decide
  have h7 : (6 : Int32).toInt = 6 := by decide
  exact vinN (by omega) (by omega)
theorem isIn_mi {v : Int32} (h : ¬ r_X4_isIn v (1 : Int32) (240 : Int32) = 0) : 0 ≤ v.toInt ∧ v.toInt ≤ 240 := by
  obtain ⟨h1, h2⟩ := isIn_b h
  have h0 : (1 : Int32).toInt = 1 := by decide
  have h7 : (240 : Int32).toInt = 240 := by decide
  omega

def g1_X4_setCold (o : MO) (a : MS) (k : Int32) (cv : Int32) : MO := s_X4_no (xs o.1 0 (0 : Int32), o.2) (2 : Int32)
def g2_X4_setCold (o : MO) (a : MS) (k : Int32) (cv : Int32) : MO := s_X4_no (xs o.1 0 (0 : Int32), o.2) (1 : Int32)
def r_X4_setCold (o : MO) (a : MS) (k : Int32) (cv : Int32) : Int32 :=
  if (r_X4_isIn k (0 : Int32) (7 : Int32)) = 0 then
    (r_X4_no (xs o.1 0 (0 : Int32), o.2) (1 : Int32))
  else
    if (r_X4_isIn cv (-3 : Int32) (3 : Int32)) = 0 then
      (r_X4_no (xs o.1 0 (0 : Int32), o.2) (2 : Int32))
    else
      ((o.2 3) k.toNatClampNeg)
def s_X4_setCold (o : MO) (a : MS) (k : Int32) (cv : Int32) : MO :=
  if (r_X4_isIn k (0 : Int32) (7 : Int32)) = 0 then
    (g2_X4_setCold o a k cv)
  else
    if (r_X4_isIn cv (-3 : Int32) (3 : Int32)) = 0 then
      (g1_X4_setCold o a k cv)
    else
      (xs o.1 0 (0 : Int32), xa o.2 3 (upd (o.2 3) k.toNatClampNeg cv))
set_option maxHeartbeats 800000 in
set_option maxRecDepth 100000 in
theorem c_X4_setCold (l : Launch) (D : va_G) (I : ClassId) (qo qs qa : Nat → Nat) (sz : Nat) (o : MO) (a : MS) (z : MS) (k : Int32) (cv : Int32)  : xMi l D [(I, .int)] yX4_setCold wsX4_setCold { frames := 1, cells := 0, slots := 0, locals := 22 } [.ref (qo 0), .int k, .int cv] sz (wO I qo (qs 0) (qa 0) o ++ wS I qo qs a ++ wS I qo qa z) (r_X4_setCold o a k cv) (wO I qo (qs 0) (qa 0) (s_X4_setCold o a k cv) ++ wS I qo qs a ++ wS I qo qa z) 0 0 := by
  refine xk_start (cc := cX4_setCold) (maxL := 4) (ret := (some .int)) (Qf := fun A => xQi D [(I, .int)] A (r_X4_setCold o a k cv) (wO I qo (qs 0) (qa 0) (s_X4_setCold o a k cv) ++ wS I qo qs a ++ wS I qo qa z)) (by decide) rfl (Nat.le_of_ble_eq_true rfl) ?_
  intro p e s m below meth c A H ls hst hAe hsz hl
  obtain ⟨hx, hb, hr, hts, hown, hlocks, hml, hin, hN, hK, hP, hD, hA, hS⟩ := hst
  have hl : lv_has ls 4 [(0, .ref (qo 0)), (1, .int k), (2, .int cv)] := hl
  have hP : va_P D vwCl (wO I qo (qs 0) (qa 0) o ++ wS I qo qs a ++ wS I qo qa z) H := hP
  have hinX4 : ∀ w ∈ u_ws RX4 TX4 8, w ∈ wsX4_setCold := by decide +kernel
  have w_1 := hts (.fieldLink RX4 34 "BridgeBellsModel" "thrown" "I") (by decide +kernel)
  have w_2 := hts (.fieldLink RX4 19 "BridgeBellsModel" "cold" "[I") (by decide +kernel)
  refine lv_aload_n hx hb dX4_setCold_0 rfl (lv_at hl 0 rfl) ?_
  refine lv_iconst (v := (0 : Int32)) hx hb dX4_setCold_1 (by decide) ?_
  refine va_put (D := D) (ci := 4) (v := .int (0 : Int32)) (ty := tyX4 0) (C := RX4) (T := TX4) (N := 8) hx hb hts hinX4 tyX4 tyX4_ok nmX4 hown hK hP hD hS 0 rfl rfl 0 (by decide) w_1 (fun _ h9 => h9) rfl (tyX4_ok 0 (by decide)) rfl rfl (Nat.le_of_ble_eq_true rfl) dX4_setCold_2 (fun H locs hP hD hS => ?_)
  have hP : va_P D vwCl (wO I qo (qs 0) (qa 0) (xs o.1 0 (0 : Int32), o.2) ++ wS I qo qs a ++ wS I qo qa z) H := hP
  have hD : va_D A (wO I qo (qs 0) (qa 0) (xs o.1 0 (0 : Int32), o.2) ++ wS I qo qs a ++ wS I qo qa z) := hD
  refine lv_iload_n hx hb dX4_setCold_5 rfl (lv_at hl 1 rfl) ?_
  refine lv_iconst (v := (0 : Int32)) hx hb dX4_setCold_6 (by decide) ?_
  refine lv_bipush (v := (7 : Int32)) hx hb dX4_setCold_7 (by decide) ?_
  refine xk_calli ([cMO qo (qs 0) (qa 0) (xs o.1 0 (0 : Int32)), cA I (qo 1) 40 (o.2 0), cA I (qo 2) 40 (o.2 1), cA I (qo 3) 40 (o.2 2), cA I (qo 4) 8 (o.2 3), cMS qo qs a.1, cA I (qs 1) 40 (a.2 0), cA I (qs 2) 40 (a.2 1), cA I (qs 3) 40 (a.2 2), cA I (qs 4) 40 (a.2 3), cMS qo qa z.1, cA I (qa 1) 40 (z.2 0), cA I (qa 2) 40 (z.2 1), cA I (qa 3) 40 (z.2 2), cA I (qa 4) 40 (z.2 3)]) (wO I qo (qs 0) (qa 0) (xs o.1 0 (0 : Int32), o.2) ++ wS I qo qs a ++ wS I qo qa z) [] [0, 1, 2, 3, 4, 5, 6, 7, 8, 9, 10, 11, 12, 13, 14] [0, 1, 2, 3, 4, 5, 6, 7, 8, 9, 10, 11, 12, 13, 14] hP hD hS hA (va_runS (As := [.int k, .int (0 : Int32), .int (7 : Int32)]) (rest := []) ⟨hx, hb, hml, hown, hts⟩ (c_X4_isIn l D I  H.size k (0 : Int32) (7 : Int32) ) (va_cwS 3 hts gX4_setCold_X4_isIn rfl rfl rfl (by decide +kernel) ⟨Nat.le_of_ble_eq_true rfl, Nat.le_of_ble_eq_true rfl⟩) (xk_pre (wc := ([] : va_W)) hN hP hK hD [] rfl rfl) rfl rfl hl.1 rfl (lv_room (Nat.le_of_ble_eq_true rfl)) dX4_setCold_9 ⟨Nat.le_of_ble_eq_true rfl, Nat.le_of_ble_eq_true rfl⟩) rfl rfl rfl (by decide) rfl rfl (fun H locs hP hD hS => ?_)
  refine lv_if_ne (tgt := 21) hx hb dX4_setCold_12 (by decide) (fun c_1 => ?_) (fun c_1 => ?_)
  · refine lv_iload_n hx hb dX4_setCold_21 rfl (lv_at hl 2 rfl) ?_
    refine lv_bipush (v := (-3 : Int32)) hx hb dX4_setCold_22 (by decide) ?_
    refine lv_iconst (v := (3 : Int32)) hx hb dX4_setCold_24 (by decide) ?_
    refine xk_calli ([cMO qo (qs 0) (qa 0) (xs o.1 0 (0 : Int32)), cA I (qo 1) 40 (o.2 0), cA I (qo 2) 40 (o.2 1), cA I (qo 3) 40 (o.2 2), cA I (qo 4) 8 (o.2 3), cMS qo qs a.1, cA I (qs 1) 40 (a.2 0), cA I (qs 2) 40 (a.2 1), cA I (qs 3) 40 (a.2 2), cA I (qs 4) 40 (a.2 3), cMS qo qa z.1, cA I (qa 1) 40 (z.2 0), cA I (qa 2) 40 (z.2 1), cA I (qa 3) 40 (z.2 2), cA I (qa 4) 40 (z.2 3)]) (wO I qo (qs 0) (qa 0) (xs o.1 0 (0 : Int32), o.2) ++ wS I qo qs a ++ wS I qo qa z) [] [0, 1, 2, 3, 4, 5, 6, 7, 8, 9, 10, 11, 12, 13, 14] [0, 1, 2, 3, 4, 5, 6, 7, 8, 9, 10, 11, 12, 13, 14] hP hD hS hA (va_runS (As := [.int cv, .int (-3 : Int32), .int (3 : Int32)]) (rest := []) ⟨hx, hb, hml, hown, hts⟩ (c_X4_isIn l D I  H.size cv (-3 : Int32) (3 : Int32) ) (va_cwS 3 hts gX4_setCold_X4_isIn rfl rfl rfl (by decide +kernel) ⟨Nat.le_of_ble_eq_true rfl, Nat.le_of_ble_eq_true rfl⟩) (xk_pre (wc := ([] : va_W)) hN hP hK hD [] rfl rfl) rfl rfl hl.1 rfl (lv_room (Nat.le_of_ble_eq_true rfl)) dX4_setCold_25 ⟨Nat.le_of_ble_eq_true rfl, Nat.le_of_ble_eq_true rfl⟩) rfl rfl rfl (by decide) rfl rfl (fun H locs hP hD hS => ?_)
    refine lv_if_ne (tgt := 37) hx hb dX4_setCold_28 (by decide) (fun c_2 => ?_) (fun c_2 => ?_)
    · refine lv_aload_n hx hb dX4_setCold_37 rfl (lv_at hl 0 rfl) ?_
      refine va_get (D := D) (ci := 4) (v := .ref (qo 4)) (C := RX4) (T := TX4) (N := 8) hx hb hts hinX4 hown hK hP 0 rfl rfl 5 (by decide) w_2 (fun _ h9 => h9) rfl dX4_setCold_38 ?_
      refine lv_iload_n hx hb dX4_setCold_41 rfl (lv_at hl 1 rfl) ?_
      refine va_iald (f := (o.2 3)) hx hb hK hP 4 0 rfl rfl (show vp_in k 8 from (isIn_v c_1)) dX4_setCold_42 ?_
      refine lv_istore_n (lv' := [(3, .int ((o.2 3) k.toNatClampNeg)), (0, .ref (qo 0)), (1, .int k), (2, .int cv)]) hx hb dX4_setCold_43 rfl hl (by decide) rfl (fun ls hl => ?_)
      refine lv_aload_n hx hb dX4_setCold_44 rfl (lv_at hl 1 rfl) ?_
      refine va_get (D := D) (ci := 4) (v := .ref (qo 4)) (C := RX4) (T := TX4) (N := 8) hx hb hts hinX4 hown hK hP 0 rfl rfl 5 (by decide) w_2 (fun _ h9 => h9) rfl dX4_setCold_45 ?_
      refine lv_iload_n hx hb dX4_setCold_48 rfl (lv_at hl 2 rfl) ?_
      refine lv_iload_n hx hb dX4_setCold_49 rfl (lv_at hl 3 rfl) ?_
      refine va_iast (f := (o.2 3)) hx hb hK hP hD hS 4 0 rfl rfl (show vp_in k 8 from (isIn_v c_1)) dX4_setCold_50 (fun H locs hP hD hS => ?_)
      have hP : va_P D vwCl (wO I qo (qs 0) (qa 0) (xs o.1 0 (0 : Int32), xa o.2 3 (upd (o.2 3) k.toNatClampNeg cv)) ++ wS I qo qs a ++ wS I qo qa z) H := hP
      have hD : va_D A (wO I qo (qs 0) (qa 0) (xs o.1 0 (0 : Int32), xa o.2 3 (upd (o.2 3) k.toNatClampNeg cv)) ++ wS I qo qs a ++ wS I qo qa z) := hD
      refine lv_iload_n hx hb dX4_setCold_51 rfl (lv_at hl 0 rfl) ?_
      exact xk_iret (wf := fun z : MO × MS × MS => wO I qo (qs 0) (qa 0) z.1 ++ wS I qo qs z.2.1 ++ wS I qo qa z.2.2) (u := ((xs o.1 0 (0 : Int32), xa o.2 3 (upd (o.2 3) k.toNatClampNeg cv)), a, z)) (u1 := ((s_X4_setCold o a k cv), a, z)) hx hb hr rfl hlocks hP hK hD hS (by unfold r_X4_setCold; rw [if_neg c_1, if_neg c_2]) (by unfold s_X4_setCold; rw [if_neg c_1, if_neg c_2]) dX4_setCold_52
    · refine lv_aload_n hx hb dX4_setCold_31 rfl (lv_at hl 0 rfl) ?_
      refine lv_iconst (v := (2 : Int32)) hx hb dX4_setCold_32 (by decide) ?_
      refine xk_calli ([cMS qo qs a.1, cA I (qs 1) 40 (a.2 0), cA I (qs 2) 40 (a.2 1), cA I (qs 3) 40 (a.2 2), cA I (qs 4) 40 (a.2 3), cMS qo qa z.1, cA I (qa 1) 40 (z.2 0), cA I (qa 2) 40 (z.2 1), cA I (qa 3) 40 (z.2 2), cA I (qa 4) 40 (z.2 3)]) (wO I qo (qs 0) (qa 0) (s_X4_no (xs o.1 0 (0 : Int32), o.2) (2 : Int32)) ++ wS I qo qs a ++ wS I qo qa z) [0, 1, 2, 3, 4] [5, 6, 7, 8, 9, 10, 11, 12, 13, 14] [10, 11, 12, 13, 14, 0, 1, 2, 3, 4, 5, 6, 7, 8, 9] hP hD hS hA (va_runV (As := [.int (2 : Int32)]) (rest := []) ⟨hx, hb, hml, hown, hts⟩ (c_X4_no l D I qo (qs 0) (qa 0) H.size (xs o.1 0 (0 : Int32), o.2) (2 : Int32) ) (cwV 1 hts gX4_setCold_X4_no rfl rfl rfl (by decide +kernel) ⟨Nat.le_of_ble_eq_true rfl, Nat.le_of_ble_eq_true rfl⟩) (xk_preV (wc := wO I qo (qs 0) (qa 0) (xs o.1 0 (0 : Int32), o.2)) (q0 := 0) (ci := 4) hN hP hK hD [0, 1, 2, 3, 4] rfl rfl rfl rfl) rfl rfl hl.1 rfl (lv_room (Nat.le_of_ble_eq_true rfl)) dX4_setCold_33 ⟨Nat.le_of_ble_eq_true rfl, Nat.le_of_ble_eq_true rfl⟩) rfl rfl rfl (by decide) rfl rfl (fun H locs hP hD hS => ?_)
      generalize hz_1 : s_X4_no (xs o.1 0 (0 : Int32), o.2) (2 : Int32) = z_1 at hP hD
      have hg_1 : g1_X4_setCold o a k cv = z_1 := by rw [← hz_1]; rfl
      exact xk_iret (wf := fun z : MO × MS × MS => wO I qo (qs 0) (qa 0) z.1 ++ wS I qo qs z.2.1 ++ wS I qo qa z.2.2) (u := (z_1, a, z)) (u1 := ((s_X4_setCold o a k cv), a, z)) hx hb hr rfl hlocks hP hK hD hS (by subst hg_1; unfold r_X4_setCold; rw [if_neg c_1, if_pos c_2]) (by subst hg_1; unfold s_X4_setCold; rw [if_neg c_1, if_pos c_2]) dX4_setCold_36
  · refine lv_aload_n hx hb dX4_setCold_15 rfl (lv_at hl 0 rfl) ?_
    refine lv_iconst (v := (1 : Int32)) hx hb dX4_setCold_16 (by decide) ?_
    refine xk_calli ([cMS qo qs a.1, cA I (qs 1) 40 (a.2 0), cA I (qs 2) 40 (a.2 1), cA I (qs 3) 40 (a.2 2), cA I (qs 4) 40 (a.2 3), cMS qo qa z.1, cA I (qa 1) 40 (z.2 0), cA I (qa 2) 40 (z.2 1), cA I (qa 3) 40 (z.2 2), cA I (qa 4) 40 (z.2 3)]) (wO I qo (qs 0) (qa 0) (s_X4_no (xs o.1 0 (0 : Int32), o.2) (1 : Int32)) ++ wS I qo qs a ++ wS I qo qa z) [0, 1, 2, 3, 4] [5, 6, 7, 8, 9, 10, 11, 12, 13, 14] [10, 11, 12, 13, 14, 0, 1, 2, 3, 4, 5, 6, 7, 8, 9] hP hD hS hA (va_runV (As := [.int (1 : Int32)]) (rest := []) ⟨hx, hb, hml, hown, hts⟩ (c_X4_no l D I qo (qs 0) (qa 0) H.size (xs o.1 0 (0 : Int32), o.2) (1 : Int32) ) (cwV 1 hts gX4_setCold_X4_no rfl rfl rfl (by decide +kernel) ⟨Nat.le_of_ble_eq_true rfl, Nat.le_of_ble_eq_true rfl⟩) (xk_preV (wc := wO I qo (qs 0) (qa 0) (xs o.1 0 (0 : Int32), o.2)) (q0 := 0) (ci := 4) hN hP hK hD [0, 1, 2, 3, 4] rfl rfl rfl rfl) rfl rfl hl.1 rfl (lv_room (Nat.le_of_ble_eq_true rfl)) dX4_setCold_17 ⟨Nat.le_of_ble_eq_true rfl, Nat.le_of_ble_eq_true rfl⟩) rfl rfl rfl (by decide) rfl rfl (fun H locs hP hD hS => ?_)
    generalize hz_2 : s_X4_no (xs o.1 0 (0 : Int32), o.2) (1 : Int32) = z_2 at hP hD
    have hg_2 : g2_X4_setCold o a k cv = z_2 := by rw [← hz_2]; rfl
    exact xk_iret (wf := fun z : MO × MS × MS => wO I qo (qs 0) (qa 0) z.1 ++ wS I qo qs z.2.1 ++ wS I qo qa z.2.2) (u := (z_2, a, z)) (u1 := ((s_X4_setCold o a k cv), a, z)) hx hb hr rfl hlocks hP hK hD hS (by subst hg_2; unfold r_X4_setCold; rw [if_pos c_1]) (by subst hg_2; unfold s_X4_setCold; rw [if_pos c_1]) dX4_setCold_20

def r_X4_crack (o : MO) (a : MS) : Int32 :=
  (imx (0 : Int32) ((a.1 3) - (3 : Int32)))
def s_X4_crack (o : MO) (a : MS) : MO × MS :=
  ((xs o.1 0 (0 : Int32), o.2), (xs a.1 3 (imx (0 : Int32) ((a.1 3) - (3 : Int32))), a.2))
set_option maxHeartbeats 800000 in
set_option maxRecDepth 100000 in
theorem c_X4_crack (l : Launch) (D : va_G) (I : ClassId) (qo qs qa : Nat → Nat) (sz : Nat) (o : MO) (a : MS) (z : MS)  : xMi l D [(I, .int)] yX4_crack wsX4_crack { frames := 1, cells := 0, slots := 0, locals := 14 } [.ref (qo 0)] sz (wO I qo (qs 0) (qa 0) o ++ wS I qo qs a ++ wS I qo qa z) (r_X4_crack o a) (wO I qo (qs 0) (qa 0) ((s_X4_crack o a).1) ++ wS I qo qs ((s_X4_crack o a).2) ++ wS I qo qa z) 0 0 := by
  refine xk_start (cc := cX4_crack) (maxL := 1) (ret := (some .int)) (Qf := fun A => xQi D [(I, .int)] A (r_X4_crack o a) (wO I qo (qs 0) (qa 0) ((s_X4_crack o a).1) ++ wS I qo qs ((s_X4_crack o a).2) ++ wS I qo qa z)) (by decide) rfl (Nat.le_of_ble_eq_true rfl) ?_
  intro p e s m below meth c A H ls hst hAe hsz hl
  obtain ⟨hx, hb, hr, hts, hown, hlocks, hml, hin, hN, hK, hP, hD, hA, hS⟩ := hst
  have hl : lv_has ls 1 [(0, .ref (qo 0))] := hl
  have hP : va_P D vwCl (wO I qo (qs 0) (qa 0) o ++ wS I qo qs a ++ wS I qo qa z) H := hP
  have hinX4 : ∀ w ∈ u_ws RX4 TX4 8, w ∈ wsX4_crack := by decide +kernel
  have hinX3 : ∀ w ∈ u_ws RX3 TX3 12, w ∈ wsX4_crack := by decide +kernel
  have w_1 := hts (.fieldLink RX4 34 "BridgeBellsModel" "thrown" "I") (by decide +kernel)
  have w_2 := hts (.fieldLink RX4 27 "BridgeBellsModel" "s" "LBridgeBellsModel$State;") (by decide +kernel)
  have w_3 := hts (.methodLink RX4 77 Lib.Math.max.name) (by decide +kernel)
  have w_4 := hts (.static Lib.Math.max.name) (by decide +kernel)
  have w_5 := hts (.initialized "java/lang/Math") (by decide +kernel)
  have w_6 := hts (.code Lib.Math.max.name Lib.Math.max.code 2 (some .int)) (by decide +kernel)
  refine lv_aload_n hx hb dX4_crack_0 rfl (lv_at hl 0 rfl) ?_
  refine lv_iconst (v := (0 : Int32)) hx hb dX4_crack_1 (by decide) ?_
  refine va_put (D := D) (ci := 4) (v := .int (0 : Int32)) (ty := tyX4 0) (C := RX4) (T := TX4) (N := 8) hx hb hts hinX4 tyX4 tyX4_ok nmX4 hown hK hP hD hS 0 rfl rfl 0 (by decide) w_1 (fun _ h9 => h9) rfl (tyX4_ok 0 (by decide)) rfl rfl (Nat.le_of_ble_eq_true rfl) dX4_crack_2 (fun H locs hP hD hS => ?_)
  have hP : va_P D vwCl (wO I qo (qs 0) (qa 0) (xs o.1 0 (0 : Int32), o.2) ++ wS I qo qs a ++ wS I qo qa z) H := hP
  have hD : va_D A (wO I qo (qs 0) (qa 0) (xs o.1 0 (0 : Int32), o.2) ++ wS I qo qs a ++ wS I qo qa z) := hD
  refine lv_aload_n hx hb dX4_crack_5 rfl (lv_at hl 0 rfl) ?_
  refine va_get (D := D) (ci := 4) (v := .ref (qs 0)) (C := RX4) (T := TX4) (N := 8) hx hb hts hinX4 hown hK hP 0 rfl rfl 6 (by decide) w_2 (fun _ h9 => h9) rfl dX4_crack_6 ?_
  refine lv_iconst (v := (0 : Int32)) hx hb dX4_crack_9 (by decide) ?_
  refine lv_aload_n hx hb dX4_crack_10 rfl (lv_at hl 0 rfl) ?_
  refine va_get (D := D) (ci := 4) (v := .ref (qs 0)) (C := RX4) (T := TX4) (N := 8) hx hb hts hinX4 hown hK hP 0 rfl rfl 6 (by decide) w_2 (fun _ h9 => h9) rfl dX4_crack_11 ?_
  refine va_getN (D := D) (ci := 3) (v := .int (a.1 3)) (C := RX3) (T := TX3) (N := 12) hx hb hts hinX3 hown hK hP 5 rfl rfl 3 (by decide) (hN.use 6 rfl) (fun _ h9 => h9) rfl dX4_crack_14 ?_
  refine lv_iconst (v := (3 : Int32)) hx hb dX4_crack_17 (by decide) ?_
  refine lv_isub hx hb dX4_crack_18 ?_
  refine va_mmax hx hb (hml.trans hl.1.symm) hown w_3 w_4 w_5 w_6 (Nat.le_of_ble_eq_true rfl) (Nat.le_of_ble_eq_true rfl) (Nat.le_of_ble_eq_true rfl) (Nat.le_of_ble_eq_true rfl) dX4_crack_19 ?_
  refine W.eq (g2 := F0 m 22 ls [.int (imx (0 : Int32) ((a.1 3) - (3 : Int32))), .ref (qs 0)]) rfl ?_
  refine va_putN (D := D) (ci := 3) (v := .int (imx (0 : Int32) ((a.1 3) - (3 : Int32)))) (ty := tyX3 3) (C := RX3) (T := TX3) (N := 12) hx hb hts hinX3 tyX3 tyX3_ok nmX3 hown hK hP hD hS 5 rfl rfl 3 (by decide) (hN.use 6 rfl) (fun _ h9 => h9) rfl (tyX3_ok 3 (by decide)) rfl rfl (Nat.le_of_ble_eq_true rfl) dX4_crack_22 (fun H locs hP hD hS => ?_)
  have hP : va_P D vwCl (wO I qo (qs 0) (qa 0) (xs o.1 0 (0 : Int32), o.2) ++ wS I qo qs (xs a.1 3 (imx (0 : Int32) ((a.1 3) - (3 : Int32))), a.2) ++ wS I qo qa z) H := hP
  have hD : va_D A (wO I qo (qs 0) (qa 0) (xs o.1 0 (0 : Int32), o.2) ++ wS I qo qs (xs a.1 3 (imx (0 : Int32) ((a.1 3) - (3 : Int32))), a.2) ++ wS I qo qa z) := hD
  refine lv_aload_n hx hb dX4_crack_25 rfl (lv_at hl 0 rfl) ?_
  refine va_get (D := D) (ci := 4) (v := .ref (qs 0)) (C := RX4) (T := TX4) (N := 8) hx hb hts hinX4 hown hK hP 0 rfl rfl 6 (by decide) w_2 (fun _ h9 => h9) rfl dX4_crack_26 ?_
  refine va_getN (D := D) (ci := 3) (v := .int (imx (0 : Int32) ((a.1 3) - (3 : Int32)))) (C := RX3) (T := TX3) (N := 12) hx hb hts hinX3 hown hK hP 5 rfl rfl 3 (by decide) (hN.use 6 rfl) (fun _ h9 => h9) rfl dX4_crack_29 ?_
  exact xk_iret (wf := fun z : MO × MS × MS => wO I qo (qs 0) (qa 0) z.1 ++ wS I qo qs z.2.1 ++ wS I qo qa z.2.2) (u := ((xs o.1 0 (0 : Int32), o.2), (xs a.1 3 (imx (0 : Int32) ((a.1 3) - (3 : Int32))), a.2), z)) (u1 := ((s_X4_crack o a).1, (s_X4_crack o a).2, z)) hx hb hr rfl hlocks hP hK hD hS (by unfold r_X4_crack; rfl) (by unfold s_X4_crack; rfl) dX4_crack_32

def r_X4_told (o : MO) (a : MS) (k : Int32) (wh : Int32) : Int32 :=
  ((upd (upd (upd (upd (upd (upd (upd (fun _ => (0 : Int32)) (0 : Int32).toNatClampNeg ((o.2 0) k.toNatClampNeg)) (1 : Int32).toNatClampNeg ((o.2 1) k.toNatClampNeg)) (2 : Int32).toNatClampNeg ((a.2 0) k.toNatClampNeg)) (3 : Int32).toNatClampNeg ((o.2 2) k.toNatClampNeg)) (4 : Int32).toNatClampNeg ((a.2 1) k.toNatClampNeg)) (5 : Int32).toNatClampNeg ((a.2 2) k.toNatClampNeg)) (6 : Int32).toNatClampNeg ((a.2 3) k.toNatClampNeg)) wh.toNatClampNeg)
set_option maxHeartbeats 800000 in
set_option maxRecDepth 100000 in
theorem c_X4_told (l : Launch) (D : va_G) (I : ClassId) (qo qs : Nat → Nat) (pa : Nat) (sz : Nat) (o : MO) (a : MS) (k : Int32) (wh : Int32) (hk : vp_in k 40) (hw : vp_in wh 7) : xMi l D [(I, .int)] yX4_told wsX4_told { frames := 0, cells := 1, slots := 7, locals := 0 } [.ref (qo 0), .int k, .int wh] sz (wO I qo (qs 0) pa o ++ wS I qo qs a) (r_X4_told o a k wh) (wO I qo (qs 0) pa o ++ wS I qo qs a) 1 7 := by
  refine xk_start (cc := cX4_told) (maxL := 4) (ret := (some .int)) (Qf := fun A => xQi D [(I, .int)] A (r_X4_told o a k wh) (wO I qo (qs 0) pa o ++ wS I qo qs a)) (by decide) rfl (Nat.le_of_ble_eq_true rfl) ?_
  intro p e s m below meth c A H ls hst hAe hsz hl
  obtain ⟨hx, hb, hr, hts, hown, hlocks, hml, hin, hN, hK, hP, hD, hA, hS⟩ := hst
  have hl : lv_has ls 4 [(0, .ref (qo 0)), (1, .int k), (2, .int wh)] := hl
  have hP : va_P D vwCl (wO I qo (qs 0) pa o ++ wS I qo qs a) H := hP
  have hinX4 : ∀ w ∈ u_ws RX4 TX4 8, w ∈ wsX4_told := by decide +kernel
  have hinX3 : ∀ w ∈ u_ws RX3 TX3 12, w ∈ wsX4_told := by decide +kernel
  have w_1 := hts (.arrayClass .int) (by decide +kernel)
  have w_2 := hts (.fieldLink RX4 9 "BridgeBellsModel" "isBarge" "[I") (by decide +kernel)
  have w_3 := hts (.fieldLink RX4 13 "BridgeBellsModel" "needs" "[I") (by decide +kernel)
  have w_4 := hts (.fieldLink RX4 27 "BridgeBellsModel" "s" "LBridgeBellsModel$State;") (by decide +kernel)
  have w_5 := hts (.fieldLink RX4 16 "BridgeBellsModel" "came" "[I") (by decide +kernel)
  refine lv_bipush (v := (7 : Int32)) hx hb dX4_told_0 (by decide) ?_
  refine va_newa (atype := .int) (ty := .int) (a0 := (7, .inl (fun _ => 0))) hx hb w_1 rfl hK hP hD hS hA (fun _ => rfl) (by decide) (by decide) (by decide) (Nat.le_of_ble_eq_true rfl) (Nat.le_of_ble_eq_true rfl) dX4_told_2 (fun qn_1 cN H hK9 hP hD hS => ?_)
  have eI := (xk_cA hK9).symm
  subst eI
  have hP : va_P D vwCl (wO I qo (qs 0) pa o ++ wS I qo qs a ++ [cA I qn_1 7 (fun _ => (0 : Int32))]) H := hP
  have hD : va_D A (wO I qo (qs 0) pa o ++ wS I qo qs a ++ [cA I qn_1 7 (fun _ => (0 : Int32))]) := hD
  refine lv_dup hx hb dX4_told_4 rfl ?_
  refine lv_iconst (v := (0 : Int32)) hx hb dX4_told_5 (by decide) ?_
  refine lv_aload_n hx hb dX4_told_6 rfl (lv_at hl 0 rfl) ?_
  refine va_get (D := D) (ci := 4) (v := .ref (qo 1)) (C := RX4) (T := TX4) (N := 8) hx hb hts hinX4 hown hK hP 0 rfl rfl 2 (by decide) w_2 (fun _ h9 => h9) rfl dX4_told_7 ?_
  refine lv_iload_n hx hb dX4_told_10 rfl (lv_at hl 1 rfl) ?_
  refine va_iald (f := (o.2 0)) hx hb hK hP 1 0 rfl rfl (show vp_in k 40 from hk) dX4_told_11 ?_
  refine va_iast (f := (fun _ => (0 : Int32))) hx hb hK hP hD hS 10 0 rfl rfl (show vp_in (0 : Int32) 7 from (vinN (by decide) (by decide))) dX4_told_12 (fun H locs hP hD hS => ?_)
  have hP : va_P D vwCl (wO I qo (qs 0) pa o ++ wS I qo qs a ++ [cA I qn_1 7 (upd (fun _ => (0 : Int32)) (0 : Int32).toNatClampNeg ((o.2 0) k.toNatClampNeg))]) H := hP
  have hD : va_D A (wO I qo (qs 0) pa o ++ wS I qo qs a ++ [cA I qn_1 7 (upd (fun _ => (0 : Int32)) (0 : Int32).toNatClampNeg ((o.2 0) k.toNatClampNeg))]) := hD
  refine lv_dup hx hb dX4_told_13 rfl ?_
  refine lv_iconst (v := (1 : Int32)) hx hb dX4_told_14 (by decide) ?_
  refine lv_aload_n hx hb dX4_told_15 rfl (lv_at hl 0 rfl) ?_
  refine va_get (D := D) (ci := 4) (v := .ref (qo 2)) (C := RX4) (T := TX4) (N := 8) hx hb hts hinX4 hown hK hP 0 rfl rfl 3 (by decide) w_3 (fun _ h9 => h9) rfl dX4_told_16 ?_
  refine lv_iload_n hx hb dX4_told_19 rfl (lv_at hl 1 rfl) ?_
  refine va_iald (f := (o.2 1)) hx hb hK hP 2 0 rfl rfl (show vp_in k 40 from hk) dX4_told_20 ?_
  refine va_iast (f := (upd (fun _ => (0 : Int32)) (0 : Int32).toNatClampNeg ((o.2 0) k.toNatClampNeg))) hx hb hK hP hD hS 10 0 rfl rfl (show vp_in (1 : Int32) 7 from (vinN (by decide) (by decide))) dX4_told_21 (fun H locs hP hD hS => ?_)
  have hP : va_P D vwCl (wO I qo (qs 0) pa o ++ wS I qo qs a ++ [cA I qn_1 7 (upd (upd (fun _ => (0 : Int32)) (0 : Int32).toNatClampNeg ((o.2 0) k.toNatClampNeg)) (1 : Int32).toNatClampNeg ((o.2 1) k.toNatClampNeg))]) H := hP
  have hD : va_D A (wO I qo (qs 0) pa o ++ wS I qo qs a ++ [cA I qn_1 7 (upd (upd (fun _ => (0 : Int32)) (0 : Int32).toNatClampNeg ((o.2 0) k.toNatClampNeg)) (1 : Int32).toNatClampNeg ((o.2 1) k.toNatClampNeg))]) := hD
  refine lv_dup hx hb dX4_told_22 rfl ?_
  refine lv_iconst (v := (2 : Int32)) hx hb dX4_told_23 (by decide) ?_
  refine lv_aload_n hx hb dX4_told_24 rfl (lv_at hl 0 rfl) ?_
  refine va_get (D := D) (ci := 4) (v := .ref (qs 0)) (C := RX4) (T := TX4) (N := 8) hx hb hts hinX4 hown hK hP 0 rfl rfl 6 (by decide) w_4 (fun _ h9 => h9) rfl dX4_told_25 ?_
  refine va_getN (D := D) (ci := 3) (v := .ref (qs 1)) (C := RX3) (T := TX3) (N := 12) hx hb hts hinX3 hown hK hP 5 rfl rfl 7 (by decide) (hN.use 8 rfl) (fun _ h9 => h9) rfl dX4_told_28 ?_
  refine lv_iload_n hx hb dX4_told_31 rfl (lv_at hl 1 rfl) ?_
  refine va_iald (f := (a.2 0)) hx hb hK hP 6 0 rfl rfl (show vp_in k 40 from hk) dX4_told_32 ?_
  refine va_iast (f := (upd (upd (fun _ => (0 : Int32)) (0 : Int32).toNatClampNeg ((o.2 0) k.toNatClampNeg)) (1 : Int32).toNatClampNeg ((o.2 1) k.toNatClampNeg))) hx hb hK hP hD hS 10 0 rfl rfl (show vp_in (2 : Int32) 7 from (vinN (by decide) (by decide))) dX4_told_33 (fun H locs hP hD hS => ?_)
  have hP : va_P D vwCl (wO I qo (qs 0) pa o ++ wS I qo qs a ++ [cA I qn_1 7 (upd (upd (upd (fun _ => (0 : Int32)) (0 : Int32).toNatClampNeg ((o.2 0) k.toNatClampNeg)) (1 : Int32).toNatClampNeg ((o.2 1) k.toNatClampNeg)) (2 : Int32).toNatClampNeg ((a.2 0) k.toNatClampNeg))]) H := hP
  have hD : va_D A (wO I qo (qs 0) pa o ++ wS I qo qs a ++ [cA I qn_1 7 (upd (upd (upd (fun _ => (0 : Int32)) (0 : Int32).toNatClampNeg ((o.2 0) k.toNatClampNeg)) (1 : Int32).toNatClampNeg ((o.2 1) k.toNatClampNeg)) (2 : Int32).toNatClampNeg ((a.2 0) k.toNatClampNeg))]) := hD
  refine lv_dup hx hb dX4_told_34 rfl ?_
  refine lv_iconst (v := (3 : Int32)) hx hb dX4_told_35 (by decide) ?_
  refine lv_aload_n hx hb dX4_told_36 rfl (lv_at hl 0 rfl) ?_
  refine va_get (D := D) (ci := 4) (v := .ref (qo 3)) (C := RX4) (T := TX4) (N := 8) hx hb hts hinX4 hown hK hP 0 rfl rfl 4 (by decide) w_5 (fun _ h9 => h9) rfl dX4_told_37 ?_
  refine lv_iload_n hx hb dX4_told_40 rfl (lv_at hl 1 rfl) ?_
  refine va_iald (f := (o.2 2)) hx hb hK hP 3 0 rfl rfl (show vp_in k 40 from hk) dX4_told_41 ?_
  refine va_iast (f := (upd (upd (upd (fun _ => (0 : Int32)) (0 : Int32).toNatClampNeg ((o.2 0) k.toNatClampNeg)) (1 : Int32).toNatClampNeg ((o.2 1) k.toNatClampNeg)) (2 : Int32).toNatClampNeg ((a.2 0) k.toNatClampNeg))) hx hb hK hP hD hS 10 0 rfl rfl (show vp_in (3 : Int32) 7 from (vinN (by decide) (by decide))) dX4_told_42 (fun H locs hP hD hS => ?_)
  have hP : va_P D vwCl (wO I qo (qs 0) pa o ++ wS I qo qs a ++ [cA I qn_1 7 (upd (upd (upd (upd (fun _ => (0 : Int32)) (0 : Int32).toNatClampNeg ((o.2 0) k.toNatClampNeg)) (1 : Int32).toNatClampNeg ((o.2 1) k.toNatClampNeg)) (2 : Int32).toNatClampNeg ((a.2 0) k.toNatClampNeg)) (3 : Int32).toNatClampNeg ((o.2 2) k.toNatClampNeg))]) H := hP
  have hD : va_D A (wO I qo (qs 0) pa o ++ wS I qo qs a ++ [cA I qn_1 7 (upd (upd (upd (upd (fun _ => (0 : Int32)) (0 : Int32).toNatClampNeg ((o.2 0) k.toNatClampNeg)) (1 : Int32).toNatClampNeg ((o.2 1) k.toNatClampNeg)) (2 : Int32).toNatClampNeg ((a.2 0) k.toNatClampNeg)) (3 : Int32).toNatClampNeg ((o.2 2) k.toNatClampNeg))]) := hD
  refine lv_dup hx hb dX4_told_43 rfl ?_
  refine lv_iconst (v := (4 : Int32)) hx hb dX4_told_44 (by decide) ?_
  refine lv_aload_n hx hb dX4_told_45 rfl (lv_at hl 0 rfl) ?_
  refine va_get (D := D) (ci := 4) (v := .ref (qs 0)) (C := RX4) (T := TX4) (N := 8) hx hb hts hinX4 hown hK hP 0 rfl rfl 6 (by decide) w_4 (fun _ h9 => h9) rfl dX4_told_46 ?_
  refine va_getN (D := D) (ci := 3) (v := .ref (qs 2)) (C := RX3) (T := TX3) (N := 12) hx hb hts hinX3 hown hK hP 5 rfl rfl 8 (by decide) (hN.use 9 rfl) (fun _ h9 => h9) rfl dX4_told_49 ?_
  refine lv_iload_n hx hb dX4_told_52 rfl (lv_at hl 1 rfl) ?_
  refine va_iald (f := (a.2 1)) hx hb hK hP 7 0 rfl rfl (show vp_in k 40 from hk) dX4_told_53 ?_
  refine va_iast (f := (upd (upd (upd (upd (fun _ => (0 : Int32)) (0 : Int32).toNatClampNeg ((o.2 0) k.toNatClampNeg)) (1 : Int32).toNatClampNeg ((o.2 1) k.toNatClampNeg)) (2 : Int32).toNatClampNeg ((a.2 0) k.toNatClampNeg)) (3 : Int32).toNatClampNeg ((o.2 2) k.toNatClampNeg))) hx hb hK hP hD hS 10 0 rfl rfl (show vp_in (4 : Int32) 7 from (vinN (by decide) (by decide))) dX4_told_54 (fun H locs hP hD hS => ?_)
  have hP : va_P D vwCl (wO I qo (qs 0) pa o ++ wS I qo qs a ++ [cA I qn_1 7 (upd (upd (upd (upd (upd (fun _ => (0 : Int32)) (0 : Int32).toNatClampNeg ((o.2 0) k.toNatClampNeg)) (1 : Int32).toNatClampNeg ((o.2 1) k.toNatClampNeg)) (2 : Int32).toNatClampNeg ((a.2 0) k.toNatClampNeg)) (3 : Int32).toNatClampNeg ((o.2 2) k.toNatClampNeg)) (4 : Int32).toNatClampNeg ((a.2 1) k.toNatClampNeg))]) H := hP
  have hD : va_D A (wO I qo (qs 0) pa o ++ wS I qo qs a ++ [cA I qn_1 7 (upd (upd (upd (upd (upd (fun _ => (0 : Int32)) (0 : Int32).toNatClampNeg ((o.2 0) k.toNatClampNeg)) (1 : Int32).toNatClampNeg ((o.2 1) k.toNatClampNeg)) (2 : Int32).toNatClampNeg ((a.2 0) k.toNatClampNeg)) (3 : Int32).toNatClampNeg ((o.2 2) k.toNatClampNeg)) (4 : Int32).toNatClampNeg ((a.2 1) k.toNatClampNeg))]) := hD
  refine lv_dup hx hb dX4_told_55 rfl ?_
  refine lv_iconst (v := (5 : Int32)) hx hb dX4_told_56 (by decide) ?_
  refine lv_aload_n hx hb dX4_told_57 rfl (lv_at hl 0 rfl) ?_
  refine va_get (D := D) (ci := 4) (v := .ref (qs 0)) (C := RX4) (T := TX4) (N := 8) hx hb hts hinX4 hown hK hP 0 rfl rfl 6 (by decide) w_4 (fun _ h9 => h9) rfl dX4_told_58 ?_
  refine va_getN (D := D) (ci := 3) (v := .ref (qs 3)) (C := RX3) (T := TX3) (N := 12) hx hb hts hinX3 hown hK hP 5 rfl rfl 9 (by decide) (hN.use 10 rfl) (fun _ h9 => h9) rfl dX4_told_61 ?_
  refine lv_iload_n hx hb dX4_told_64 rfl (lv_at hl 1 rfl) ?_
  refine va_iald (f := (a.2 2)) hx hb hK hP 8 0 rfl rfl (show vp_in k 40 from hk) dX4_told_65 ?_
  refine va_iast (f := (upd (upd (upd (upd (upd (fun _ => (0 : Int32)) (0 : Int32).toNatClampNeg ((o.2 0) k.toNatClampNeg)) (1 : Int32).toNatClampNeg ((o.2 1) k.toNatClampNeg)) (2 : Int32).toNatClampNeg ((a.2 0) k.toNatClampNeg)) (3 : Int32).toNatClampNeg ((o.2 2) k.toNatClampNeg)) (4 : Int32).toNatClampNeg ((a.2 1) k.toNatClampNeg))) hx hb hK hP hD hS 10 0 rfl rfl (show vp_in (5 : Int32) 7 from (vinN (by decide) (by decide))) dX4_told_66 (fun H locs hP hD hS => ?_)
  have hP : va_P D vwCl (wO I qo (qs 0) pa o ++ wS I qo qs a ++ [cA I qn_1 7 (upd (upd (upd (upd (upd (upd (fun _ => (0 : Int32)) (0 : Int32).toNatClampNeg ((o.2 0) k.toNatClampNeg)) (1 : Int32).toNatClampNeg ((o.2 1) k.toNatClampNeg)) (2 : Int32).toNatClampNeg ((a.2 0) k.toNatClampNeg)) (3 : Int32).toNatClampNeg ((o.2 2) k.toNatClampNeg)) (4 : Int32).toNatClampNeg ((a.2 1) k.toNatClampNeg)) (5 : Int32).toNatClampNeg ((a.2 2) k.toNatClampNeg))]) H := hP
  have hD : va_D A (wO I qo (qs 0) pa o ++ wS I qo qs a ++ [cA I qn_1 7 (upd (upd (upd (upd (upd (upd (fun _ => (0 : Int32)) (0 : Int32).toNatClampNeg ((o.2 0) k.toNatClampNeg)) (1 : Int32).toNatClampNeg ((o.2 1) k.toNatClampNeg)) (2 : Int32).toNatClampNeg ((a.2 0) k.toNatClampNeg)) (3 : Int32).toNatClampNeg ((o.2 2) k.toNatClampNeg)) (4 : Int32).toNatClampNeg ((a.2 1) k.toNatClampNeg)) (5 : Int32).toNatClampNeg ((a.2 2) k.toNatClampNeg))]) := hD
  refine lv_dup hx hb dX4_told_67 rfl ?_
  refine lv_bipush (v := (6 : Int32)) hx hb dX4_told_68 (by decide) ?_
  refine lv_aload_n hx hb dX4_told_70 rfl (lv_at hl 0 rfl) ?_
  refine va_get (D := D) (ci := 4) (v := .ref (qs 0)) (C := RX4) (T := TX4) (N := 8) hx hb hts hinX4 hown hK hP 0 rfl rfl 6 (by decide) w_4 (fun _ h9 => h9) rfl dX4_told_71 ?_
  refine va_getN (D := D) (ci := 3) (v := .ref (qs 4)) (C := RX3) (T := TX3) (N := 12) hx hb hts hinX3 hown hK hP 5 rfl rfl 10 (by decide) (hN.use 11 rfl) (fun _ h9 => h9) rfl dX4_told_74 ?_
  refine lv_iload_n hx hb dX4_told_77 rfl (lv_at hl 1 rfl) ?_
  refine va_iald (f := (a.2 3)) hx hb hK hP 9 0 rfl rfl (show vp_in k 40 from hk) dX4_told_78 ?_
  refine va_iast (f := (upd (upd (upd (upd (upd (upd (fun _ => (0 : Int32)) (0 : Int32).toNatClampNeg ((o.2 0) k.toNatClampNeg)) (1 : Int32).toNatClampNeg ((o.2 1) k.toNatClampNeg)) (2 : Int32).toNatClampNeg ((a.2 0) k.toNatClampNeg)) (3 : Int32).toNatClampNeg ((o.2 2) k.toNatClampNeg)) (4 : Int32).toNatClampNeg ((a.2 1) k.toNatClampNeg)) (5 : Int32).toNatClampNeg ((a.2 2) k.toNatClampNeg))) hx hb hK hP hD hS 10 0 rfl rfl (show vp_in (6 : Int32) 7 from (vinN (by decide) (by decide))) dX4_told_79 (fun H locs hP hD hS => ?_)
  have hP : va_P D vwCl (wO I qo (qs 0) pa o ++ wS I qo qs a ++ [cA I qn_1 7 (upd (upd (upd (upd (upd (upd (upd (fun _ => (0 : Int32)) (0 : Int32).toNatClampNeg ((o.2 0) k.toNatClampNeg)) (1 : Int32).toNatClampNeg ((o.2 1) k.toNatClampNeg)) (2 : Int32).toNatClampNeg ((a.2 0) k.toNatClampNeg)) (3 : Int32).toNatClampNeg ((o.2 2) k.toNatClampNeg)) (4 : Int32).toNatClampNeg ((a.2 1) k.toNatClampNeg)) (5 : Int32).toNatClampNeg ((a.2 2) k.toNatClampNeg)) (6 : Int32).toNatClampNeg ((a.2 3) k.toNatClampNeg))]) H := hP
  have hD : va_D A (wO I qo (qs 0) pa o ++ wS I qo qs a ++ [cA I qn_1 7 (upd (upd (upd (upd (upd (upd (upd (fun _ => (0 : Int32)) (0 : Int32).toNatClampNeg ((o.2 0) k.toNatClampNeg)) (1 : Int32).toNatClampNeg ((o.2 1) k.toNatClampNeg)) (2 : Int32).toNatClampNeg ((a.2 0) k.toNatClampNeg)) (3 : Int32).toNatClampNeg ((o.2 2) k.toNatClampNeg)) (4 : Int32).toNatClampNeg ((a.2 1) k.toNatClampNeg)) (5 : Int32).toNatClampNeg ((a.2 2) k.toNatClampNeg)) (6 : Int32).toNatClampNeg ((a.2 3) k.toNatClampNeg))]) := hD
  refine lv_astore_n (lv' := [(3, .ref qn_1), (0, .ref (qo 0)), (1, .int k), (2, .int wh)]) hx hb dX4_told_80 rfl hl (by decide) rfl (fun ls hl => ?_)
  refine lv_aload_n hx hb dX4_told_81 rfl (lv_at hl 0 rfl) ?_
  refine lv_iload_n hx hb dX4_told_82 rfl (lv_at hl 3 rfl) ?_
  refine va_iald (f := (upd (upd (upd (upd (upd (upd (upd (fun _ => (0 : Int32)) (0 : Int32).toNatClampNeg ((o.2 0) k.toNatClampNeg)) (1 : Int32).toNatClampNeg ((o.2 1) k.toNatClampNeg)) (2 : Int32).toNatClampNeg ((a.2 0) k.toNatClampNeg)) (3 : Int32).toNatClampNeg ((o.2 2) k.toNatClampNeg)) (4 : Int32).toNatClampNeg ((a.2 1) k.toNatClampNeg)) (5 : Int32).toNatClampNeg ((a.2 2) k.toNatClampNeg)) (6 : Int32).toNatClampNeg ((a.2 3) k.toNatClampNeg))) hx hb hK hP 10 0 rfl rfl (show vp_in wh 7 from hw) dX4_told_83 ?_
  have hP := hP.sub (ws' := wO I qo (qs 0) pa o ++ wS I qo qs a) [0, 1, 2, 3, 4, 5, 6, 7, 8, 9] rfl
  have hD := hD.sub (ws' := wO I qo (qs 0) pa o ++ wS I qo qs a) [0, 1, 2, 3, 4, 5, 6, 7, 8, 9] (by decide) rfl
  refine W.widen (k := 1) (n := 7) (Nat.le_of_ble_eq_true rfl) (Nat.le_of_ble_eq_true rfl) ?_
  exact xk_iret (wf := fun z : MO × MS => wO I qo (qs 0) pa z.1 ++ wS I qo qs z.2) (u := (o, a)) (u1 := (o, a)) hx hb hr rfl hlocks hP hK hD hS (by unfold r_X4_told; rfl) rfl dX4_told_84

def g1_X4_traveller (o : MO) (a : MS) (k : Int32) (wh : Int32) : MO := s_X4_no (xs o.1 0 (0 : Int32), o.2) (1 : Int32)
def g2_X4_traveller (o : MO) (a : MS) (k : Int32) (wh : Int32) : MO := s_X4_no (xs o.1 0 (0 : Int32), o.2) (1 : Int32)
def r_X4_traveller (o : MO) (a : MS) (k : Int32) (wh : Int32) : Int32 :=
  if (r_X4_isTraveller (xs o.1 0 (0 : Int32), o.2) k) = 0 then
    (r_X4_no (xs o.1 0 (0 : Int32), o.2) (1 : Int32))
  else
    if (r_X4_isIn wh (0 : Int32) (6 : Int32)) = 0 then
      (r_X4_no (xs o.1 0 (0 : Int32), o.2) (1 : Int32))
    else
      (r_X4_told (xs o.1 0 (0 : Int32), o.2) a k wh)
def s_X4_traveller (o : MO) (a : MS) (k : Int32) (wh : Int32) : MO :=
  if (r_X4_isTraveller (xs o.1 0 (0 : Int32), o.2) k) = 0 then
    (g1_X4_traveller o a k wh)
  else
    if (r_X4_isIn wh (0 : Int32) (6 : Int32)) = 0 then
      (g2_X4_traveller o a k wh)
    else
      (xs o.1 0 (0 : Int32), o.2)
set_option maxHeartbeats 800000 in
set_option maxRecDepth 100000 in
theorem c_X4_traveller (l : Launch) (D : va_G) (I : ClassId) (qo qs qa : Nat → Nat) (sz : Nat) (o : MO) (a : MS) (z : MS) (k : Int32) (wh : Int32) (hn : nOk (o.1 1)) : xMi l D [(I, .int)] yX4_traveller wsX4_traveller { frames := 2, cells := 1, slots := 7, locals := 43 } [.ref (qo 0), .int k, .int wh] sz (wO I qo (qs 0) (qa 0) o ++ wS I qo qs a ++ wS I qo qa z) (r_X4_traveller o a k wh) (wO I qo (qs 0) (qa 0) (s_X4_traveller o a k wh) ++ wS I qo qs a ++ wS I qo qa z) 1 7 := by
  refine xk_start (cc := cX4_traveller) (maxL := 3) (ret := (some .int)) (Qf := fun A => xQi D [(I, .int)] A (r_X4_traveller o a k wh) (wO I qo (qs 0) (qa 0) (s_X4_traveller o a k wh) ++ wS I qo qs a ++ wS I qo qa z)) (by decide) rfl (Nat.le_of_ble_eq_true rfl) ?_
  intro p e s m below meth c A H ls hst hAe hsz hl
  obtain ⟨hx, hb, hr, hts, hown, hlocks, hml, hin, hN, hK, hP, hD, hA, hS⟩ := hst
  have hl : lv_has ls 3 [(0, .ref (qo 0)), (1, .int k), (2, .int wh)] := hl
  have hP : va_P D vwCl (wO I qo (qs 0) (qa 0) o ++ wS I qo qs a ++ wS I qo qa z) H := hP
  have hinX4 : ∀ w ∈ u_ws RX4 TX4 8, w ∈ wsX4_traveller := by decide +kernel
  have w_1 := hts (.fieldLink RX4 34 "BridgeBellsModel" "thrown" "I") (by decide +kernel)
  refine lv_aload_n hx hb dX4_traveller_0 rfl (lv_at hl 0 rfl) ?_
  refine lv_iconst (v := (0 : Int32)) hx hb dX4_traveller_1 (by decide) ?_
  refine va_put (D := D) (ci := 4) (v := .int (0 : Int32)) (ty := tyX4 0) (C := RX4) (T := TX4) (N := 8) hx hb hts hinX4 tyX4 tyX4_ok nmX4 hown hK hP hD hS 0 rfl rfl 0 (by decide) w_1 (fun _ h9 => h9) rfl (tyX4_ok 0 (by decide)) rfl rfl (Nat.le_of_ble_eq_true rfl) dX4_traveller_2 (fun H locs hP hD hS => ?_)
  have hP : va_P D vwCl (wO I qo (qs 0) (qa 0) (xs o.1 0 (0 : Int32), o.2) ++ wS I qo qs a ++ wS I qo qa z) H := hP
  have hD : va_D A (wO I qo (qs 0) (qa 0) (xs o.1 0 (0 : Int32), o.2) ++ wS I qo qs a ++ wS I qo qa z) := hD
  refine lv_aload_n hx hb dX4_traveller_5 rfl (lv_at hl 0 rfl) ?_
  refine lv_iload_n hx hb dX4_traveller_6 rfl (lv_at hl 1 rfl) ?_
  refine xk_calli ([cMS qo qs a.1, cA I (qs 1) 40 (a.2 0), cA I (qs 2) 40 (a.2 1), cA I (qs 3) 40 (a.2 2), cA I (qs 4) 40 (a.2 3), cMS qo qa z.1, cA I (qa 1) 40 (z.2 0), cA I (qa 2) 40 (z.2 1), cA I (qa 3) 40 (z.2 2), cA I (qa 4) 40 (z.2 3)]) (wO I qo (qs 0) (qa 0) (xs o.1 0 (0 : Int32), o.2) ++ wS I qo qs a ++ wS I qo qa z) [0, 1, 2, 3, 4] [5, 6, 7, 8, 9, 10, 11, 12, 13, 14] [10, 11, 12, 13, 14, 0, 1, 2, 3, 4, 5, 6, 7, 8, 9] hP hD hS hA (va_runV (As := [.int k]) (rest := []) ⟨hx, hb, hml, hown, hts⟩ (c_X4_isTraveller l D I qo (qs 0) (qa 0) H.size (xs o.1 0 (0 : Int32), o.2) k ) (cwV 1 hts gX4_traveller_X4_isTraveller rfl rfl rfl (by decide +kernel) ⟨Nat.le_of_ble_eq_true rfl, Nat.le_of_ble_eq_true rfl⟩) (xk_preV (wc := wO I qo (qs 0) (qa 0) (xs o.1 0 (0 : Int32), o.2)) (q0 := 0) (ci := 4) hN hP hK hD [0, 1, 2, 3, 4] rfl rfl rfl rfl) rfl rfl hl.1 rfl (lv_room (Nat.le_of_ble_eq_true rfl)) dX4_traveller_7 ⟨Nat.le_of_ble_eq_true rfl, Nat.le_of_ble_eq_true rfl⟩) rfl rfl rfl (by decide) rfl rfl (fun H locs hP hD hS => ?_)
  refine lv_if_eq (tgt := 32) hx hb dX4_traveller_10 (by decide) (fun c_1 => ?_) (fun c_1 => ?_)
  · refine lv_aload_n hx hb dX4_traveller_32 rfl (lv_at hl 0 rfl) ?_
    refine lv_iconst (v := (1 : Int32)) hx hb dX4_traveller_33 (by decide) ?_
    refine xk_calli ([cMS qo qs a.1, cA I (qs 1) 40 (a.2 0), cA I (qs 2) 40 (a.2 1), cA I (qs 3) 40 (a.2 2), cA I (qs 4) 40 (a.2 3), cMS qo qa z.1, cA I (qa 1) 40 (z.2 0), cA I (qa 2) 40 (z.2 1), cA I (qa 3) 40 (z.2 2), cA I (qa 4) 40 (z.2 3)]) (wO I qo (qs 0) (qa 0) (s_X4_no (xs o.1 0 (0 : Int32), o.2) (1 : Int32)) ++ wS I qo qs a ++ wS I qo qa z) [0, 1, 2, 3, 4] [5, 6, 7, 8, 9, 10, 11, 12, 13, 14] [10, 11, 12, 13, 14, 0, 1, 2, 3, 4, 5, 6, 7, 8, 9] hP hD hS hA (va_runV (As := [.int (1 : Int32)]) (rest := []) ⟨hx, hb, hml, hown, hts⟩ (c_X4_no l D I qo (qs 0) (qa 0) H.size (xs o.1 0 (0 : Int32), o.2) (1 : Int32) ) (cwV 1 hts gX4_traveller_X4_no rfl rfl rfl (by decide +kernel) ⟨Nat.le_of_ble_eq_true rfl, Nat.le_of_ble_eq_true rfl⟩) (xk_preV (wc := wO I qo (qs 0) (qa 0) (xs o.1 0 (0 : Int32), o.2)) (q0 := 0) (ci := 4) hN hP hK hD [0, 1, 2, 3, 4] rfl rfl rfl rfl) rfl rfl hl.1 rfl (lv_room (Nat.le_of_ble_eq_true rfl)) dX4_traveller_34 ⟨Nat.le_of_ble_eq_true rfl, Nat.le_of_ble_eq_true rfl⟩) rfl rfl rfl (by decide) rfl rfl (fun H locs hP hD hS => ?_)
    generalize hz_1 : s_X4_no (xs o.1 0 (0 : Int32), o.2) (1 : Int32) = z_1 at hP hD
    have hg_1 : g1_X4_traveller o a k wh = z_1 := by rw [← hz_1]; rfl
    refine W.widen (k := 1) (n := 7) (Nat.le_of_ble_eq_true rfl) (Nat.le_of_ble_eq_true rfl) ?_
    exact xk_iret (wf := fun z : MO × MS × MS => wO I qo (qs 0) (qa 0) z.1 ++ wS I qo qs z.2.1 ++ wS I qo qa z.2.2) (u := (z_1, a, z)) (u1 := ((s_X4_traveller o a k wh), a, z)) hx hb hr rfl hlocks hP hK hD hS (by subst hg_1; unfold r_X4_traveller; rw [if_pos c_1]) (by subst hg_1; unfold s_X4_traveller; rw [if_pos c_1]) dX4_traveller_37
  · refine lv_iload_n hx hb dX4_traveller_13 rfl (lv_at hl 2 rfl) ?_
    refine lv_iconst (v := (0 : Int32)) hx hb dX4_traveller_14 (by decide) ?_
    refine lv_bipush (v := (6 : Int32)) hx hb dX4_traveller_15 (by decide) ?_
    refine xk_calli ([cMO qo (qs 0) (qa 0) (xs o.1 0 (0 : Int32)), cA I (qo 1) 40 (o.2 0), cA I (qo 2) 40 (o.2 1), cA I (qo 3) 40 (o.2 2), cA I (qo 4) 8 (o.2 3), cMS qo qs a.1, cA I (qs 1) 40 (a.2 0), cA I (qs 2) 40 (a.2 1), cA I (qs 3) 40 (a.2 2), cA I (qs 4) 40 (a.2 3), cMS qo qa z.1, cA I (qa 1) 40 (z.2 0), cA I (qa 2) 40 (z.2 1), cA I (qa 3) 40 (z.2 2), cA I (qa 4) 40 (z.2 3)]) (wO I qo (qs 0) (qa 0) (xs o.1 0 (0 : Int32), o.2) ++ wS I qo qs a ++ wS I qo qa z) [] [0, 1, 2, 3, 4, 5, 6, 7, 8, 9, 10, 11, 12, 13, 14] [0, 1, 2, 3, 4, 5, 6, 7, 8, 9, 10, 11, 12, 13, 14] hP hD hS hA (va_runS (As := [.int wh, .int (0 : Int32), .int (6 : Int32)]) (rest := []) ⟨hx, hb, hml, hown, hts⟩ (c_X4_isIn l D I  H.size wh (0 : Int32) (6 : Int32) ) (va_cwS 3 hts gX4_traveller_X4_isIn rfl rfl rfl (by decide +kernel) ⟨Nat.le_of_ble_eq_true rfl, Nat.le_of_ble_eq_true rfl⟩) (xk_pre (wc := ([] : va_W)) hN hP hK hD [] rfl rfl) rfl rfl hl.1 rfl (lv_room (Nat.le_of_ble_eq_true rfl)) dX4_traveller_17 ⟨Nat.le_of_ble_eq_true rfl, Nat.le_of_ble_eq_true rfl⟩) rfl rfl rfl (by decide) rfl rfl (fun H locs hP hD hS => ?_)
    refine lv_if_eq (tgt := 32) hx hb dX4_traveller_20 (by decide) (fun c_2 => ?_) (fun c_2 => ?_)
    · refine lv_aload_n hx hb dX4_traveller_32 rfl (lv_at hl 0 rfl) ?_
      refine lv_iconst (v := (1 : Int32)) hx hb dX4_traveller_33 (by decide) ?_
      refine xk_calli ([cMS qo qs a.1, cA I (qs 1) 40 (a.2 0), cA I (qs 2) 40 (a.2 1), cA I (qs 3) 40 (a.2 2), cA I (qs 4) 40 (a.2 3), cMS qo qa z.1, cA I (qa 1) 40 (z.2 0), cA I (qa 2) 40 (z.2 1), cA I (qa 3) 40 (z.2 2), cA I (qa 4) 40 (z.2 3)]) (wO I qo (qs 0) (qa 0) (s_X4_no (xs o.1 0 (0 : Int32), o.2) (1 : Int32)) ++ wS I qo qs a ++ wS I qo qa z) [0, 1, 2, 3, 4] [5, 6, 7, 8, 9, 10, 11, 12, 13, 14] [10, 11, 12, 13, 14, 0, 1, 2, 3, 4, 5, 6, 7, 8, 9] hP hD hS hA (va_runV (As := [.int (1 : Int32)]) (rest := []) ⟨hx, hb, hml, hown, hts⟩ (c_X4_no l D I qo (qs 0) (qa 0) H.size (xs o.1 0 (0 : Int32), o.2) (1 : Int32) ) (cwV 1 hts gX4_traveller_X4_no rfl rfl rfl (by decide +kernel) ⟨Nat.le_of_ble_eq_true rfl, Nat.le_of_ble_eq_true rfl⟩) (xk_preV (wc := wO I qo (qs 0) (qa 0) (xs o.1 0 (0 : Int32), o.2)) (q0 := 0) (ci := 4) hN hP hK hD [0, 1, 2, 3, 4] rfl rfl rfl rfl) rfl rfl hl.1 rfl (lv_room (Nat.le_of_ble_eq_true rfl)) dX4_traveller_34 ⟨Nat.le_of_ble_eq_true rfl, Nat.le_of_ble_eq_true rfl⟩) rfl rfl rfl (by decide) rfl rfl (fun H locs hP hD hS => ?_)
      generalize hz_2 : s_X4_no (xs o.1 0 (0 : Int32), o.2) (1 : Int32) = z_2 at hP hD
      have hg_2 : g2_X4_traveller o a k wh = z_2 := by rw [← hz_2]; rfl
      refine W.widen (k := 1) (n := 7) (Nat.le_of_ble_eq_true rfl) (Nat.le_of_ble_eq_true rfl) ?_
      exact xk_iret (wf := fun z : MO × MS × MS => wO I qo (qs 0) (qa 0) z.1 ++ wS I qo qs z.2.1 ++ wS I qo qa z.2.2) (u := (z_2, a, z)) (u1 := ((s_X4_traveller o a k wh), a, z)) hx hb hr rfl hlocks hP hK hD hS (by subst hg_2; unfold r_X4_traveller; rw [if_neg c_1, if_pos c_2]) (by subst hg_2; unfold s_X4_traveller; rw [if_neg c_1, if_pos c_2]) dX4_traveller_37
    · refine lv_aload_n hx hb dX4_traveller_23 rfl (lv_at hl 0 rfl) ?_
      refine lv_iload_n hx hb dX4_traveller_24 rfl (lv_at hl 1 rfl) ?_
      refine lv_iload_n hx hb dX4_traveller_25 rfl (lv_at hl 2 rfl) ?_
      refine xk_calli ([cMS qo qa z.1, cA I (qa 1) 40 (z.2 0), cA I (qa 2) 40 (z.2 1), cA I (qa 3) 40 (z.2 2), cA I (qa 4) 40 (z.2 3)]) (wO I qo (qs 0) (qa 0) (xs o.1 0 (0 : Int32), o.2) ++ wS I qo qs a ++ wS I qo qa z) [0, 1, 2, 3, 4, 5, 6, 7, 8, 9] [10, 11, 12, 13, 14] [5, 6, 7, 8, 9, 10, 11, 12, 13, 14, 0, 1, 2, 3, 4] hP hD hS hA (va_runV (As := [.int k, .int wh]) (rest := []) ⟨hx, hb, hml, hown, hts⟩ (c_X4_told l D I qo qs (qa 0) H.size (xs o.1 0 (0 : Int32), o.2) a k wh (isTr_v (o := (xs o.1 0 (0 : Int32), o.2)) hn c_1) (isIn_v7 c_2)) (cwV 2 hts gX4_traveller_X4_told rfl rfl rfl (by decide +kernel) ⟨Nat.le_of_ble_eq_true rfl, Nat.le_of_ble_eq_true rfl⟩) (xk_preV (wc := wO I qo (qs 0) (qa 0) (xs o.1 0 (0 : Int32), o.2) ++ wS I qo qs a) (q0 := 0) (ci := 4) hN hP hK hD [0, 1, 2, 3, 4, 5, 6, 7, 8, 9] rfl rfl rfl rfl) rfl rfl hl.1 rfl (lv_room (Nat.le_of_ble_eq_true rfl)) dX4_traveller_26 ⟨Nat.le_of_ble_eq_true rfl, Nat.le_of_ble_eq_true rfl⟩) rfl rfl rfl (by decide) rfl rfl (fun H locs hP hD hS => ?_)
      refine lv_goto (tgt := 37) hx hb dX4_traveller_29 (by decide) ?_
      refine W.widen (k := 1) (n := 7) (Nat.le_of_ble_eq_true rfl) (Nat.le_of_ble_eq_true rfl) ?_
      exact xk_iret (wf := fun z : MO × MS × MS => wO I qo (qs 0) (qa 0) z.1 ++ wS I qo qs z.2.1 ++ wS I qo qa z.2.2) (u := ((xs o.1 0 (0 : Int32), o.2), a, z)) (u1 := ((s_X4_traveller o a k wh), a, z)) hx hb hr rfl hlocks hP hK hD hS (by unfold r_X4_traveller; rw [if_neg c_1, if_neg c_2]) (by unfold s_X4_traveller; rw [if_neg c_1, if_neg c_2]) dX4_traveller_37

def g1_X4_count (o : MO) (a : MS) (wh : Int32) : MO := s_X4_no (xs o.1 0 (0 : Int32), o.2) (1 : Int32)
def r_X4_count (o : MO) (a : MS) (wh : Int32) : Int32 :=
  if (r_X4_isIn wh (0 : Int32) (11 : Int32)) = 0 then
    (r_X4_no (xs o.1 0 (0 : Int32), o.2) (1 : Int32))
  else
    (r_X3_counted (xs o.1 0 (0 : Int32), o.2) a wh)
def s_X4_count (o : MO) (a : MS) (wh : Int32) : MO :=
  if (r_X4_isIn wh (0 : Int32) (11 : Int32)) = 0 then
    (g1_X4_count o a wh)
  else
    (xs o.1 0 (0 : Int32), o.2)
set_option maxHeartbeats 800000 in
set_option maxRecDepth 100000 in
theorem c_X4_count (l : Launch) (D : va_G) (I : ClassId) (qo qs qa : Nat → Nat) (sz : Nat) (o : MO) (a : MS) (z : MS) (wh : Int32) (hn : nOk (o.1 1)) : xMi l D [(I, .int)] yX4_count wsX4_count { frames := 3, cells := 0, slots := 0, locals := 64 } [.ref (qo 0), .int wh] sz (wO I qo (qs 0) (qa 0) o ++ wS I qo qs a ++ wS I qo qa z) (r_X4_count o a wh) (wO I qo (qs 0) (qa 0) (s_X4_count o a wh) ++ wS I qo qs a ++ wS I qo qa z) 0 0 := by
  refine xk_start (cc := cX4_count) (maxL := 2) (ret := (some .int)) (Qf := fun A => xQi D [(I, .int)] A (r_X4_count o a wh) (wO I qo (qs 0) (qa 0) (s_X4_count o a wh) ++ wS I qo qs a ++ wS I qo qa z)) (by decide) rfl (Nat.le_of_ble_eq_true rfl) ?_
  intro p e s m below meth c A H ls hst hAe hsz hl
  obtain ⟨hx, hb, hr, hts, hown, hlocks, hml, hin, hN, hK, hP, hD, hA, hS⟩ := hst
  have hl : lv_has ls 2 [(0, .ref (qo 0)), (1, .int wh)] := hl
  have hP : va_P D vwCl (wO I qo (qs 0) (qa 0) o ++ wS I qo qs a ++ wS I qo qa z) H := hP
  have hinX4 : ∀ w ∈ u_ws RX4 TX4 8, w ∈ wsX4_count := by decide +kernel
  have w_1 := hts (.fieldLink RX4 34 "BridgeBellsModel" "thrown" "I") (by decide +kernel)
  have w_2 := hts (.fieldLink RX4 27 "BridgeBellsModel" "s" "LBridgeBellsModel$State;") (by decide +kernel)
  refine lv_aload_n hx hb dX4_count_0 rfl (lv_at hl 0 rfl) ?_
  refine lv_iconst (v := (0 : Int32)) hx hb dX4_count_1 (by decide) ?_
  refine va_put (D := D) (ci := 4) (v := .int (0 : Int32)) (ty := tyX4 0) (C := RX4) (T := TX4) (N := 8) hx hb hts hinX4 tyX4 tyX4_ok nmX4 hown hK hP hD hS 0 rfl rfl 0 (by decide) w_1 (fun _ h9 => h9) rfl (tyX4_ok 0 (by decide)) rfl rfl (Nat.le_of_ble_eq_true rfl) dX4_count_2 (fun H locs hP hD hS => ?_)
  have hP : va_P D vwCl (wO I qo (qs 0) (qa 0) (xs o.1 0 (0 : Int32), o.2) ++ wS I qo qs a ++ wS I qo qa z) H := hP
  have hD : va_D A (wO I qo (qs 0) (qa 0) (xs o.1 0 (0 : Int32), o.2) ++ wS I qo qs a ++ wS I qo qa z) := hD
  refine lv_iload_n hx hb dX4_count_5 rfl (lv_at hl 1 rfl) ?_
  refine lv_iconst (v := (0 : Int32)) hx hb dX4_count_6 (by decide) ?_
  refine lv_bipush (v := (11 : Int32)) hx hb dX4_count_7 (by decide) ?_
  refine xk_calli ([cMO qo (qs 0) (qa 0) (xs o.1 0 (0 : Int32)), cA I (qo 1) 40 (o.2 0), cA I (qo 2) 40 (o.2 1), cA I (qo 3) 40 (o.2 2), cA I (qo 4) 8 (o.2 3), cMS qo qs a.1, cA I (qs 1) 40 (a.2 0), cA I (qs 2) 40 (a.2 1), cA I (qs 3) 40 (a.2 2), cA I (qs 4) 40 (a.2 3), cMS qo qa z.1, cA I (qa 1) 40 (z.2 0), cA I (qa 2) 40 (z.2 1), cA I (qa 3) 40 (z.2 2), cA I (qa 4) 40 (z.2 3)]) (wO I qo (qs 0) (qa 0) (xs o.1 0 (0 : Int32), o.2) ++ wS I qo qs a ++ wS I qo qa z) [] [0, 1, 2, 3, 4, 5, 6, 7, 8, 9, 10, 11, 12, 13, 14] [0, 1, 2, 3, 4, 5, 6, 7, 8, 9, 10, 11, 12, 13, 14] hP hD hS hA (va_runS (As := [.int wh, .int (0 : Int32), .int (11 : Int32)]) (rest := []) ⟨hx, hb, hml, hown, hts⟩ (c_X4_isIn l D I  H.size wh (0 : Int32) (11 : Int32) ) (va_cwS 3 hts gX4_count_X4_isIn rfl rfl rfl (by decide +kernel) ⟨Nat.le_of_ble_eq_true rfl, Nat.le_of_ble_eq_true rfl⟩) (xk_pre (wc := ([] : va_W)) hN hP hK hD [] rfl rfl) rfl rfl hl.1 rfl (lv_room (Nat.le_of_ble_eq_true rfl)) dX4_count_9 ⟨Nat.le_of_ble_eq_true rfl, Nat.le_of_ble_eq_true rfl⟩) rfl rfl rfl (by decide) rfl rfl (fun H locs hP hD hS => ?_)
  refine lv_if_eq (tgt := 26) hx hb dX4_count_12 (by decide) (fun c_1 => ?_) (fun c_1 => ?_)
  · refine lv_aload_n hx hb dX4_count_26 rfl (lv_at hl 0 rfl) ?_
    refine lv_iconst (v := (1 : Int32)) hx hb dX4_count_27 (by decide) ?_
    refine xk_calli ([cMS qo qs a.1, cA I (qs 1) 40 (a.2 0), cA I (qs 2) 40 (a.2 1), cA I (qs 3) 40 (a.2 2), cA I (qs 4) 40 (a.2 3), cMS qo qa z.1, cA I (qa 1) 40 (z.2 0), cA I (qa 2) 40 (z.2 1), cA I (qa 3) 40 (z.2 2), cA I (qa 4) 40 (z.2 3)]) (wO I qo (qs 0) (qa 0) (s_X4_no (xs o.1 0 (0 : Int32), o.2) (1 : Int32)) ++ wS I qo qs a ++ wS I qo qa z) [0, 1, 2, 3, 4] [5, 6, 7, 8, 9, 10, 11, 12, 13, 14] [10, 11, 12, 13, 14, 0, 1, 2, 3, 4, 5, 6, 7, 8, 9] hP hD hS hA (va_runV (As := [.int (1 : Int32)]) (rest := []) ⟨hx, hb, hml, hown, hts⟩ (c_X4_no l D I qo (qs 0) (qa 0) H.size (xs o.1 0 (0 : Int32), o.2) (1 : Int32) ) (cwV 1 hts gX4_count_X4_no rfl rfl rfl (by decide +kernel) ⟨Nat.le_of_ble_eq_true rfl, Nat.le_of_ble_eq_true rfl⟩) (xk_preV (wc := wO I qo (qs 0) (qa 0) (xs o.1 0 (0 : Int32), o.2)) (q0 := 0) (ci := 4) hN hP hK hD [0, 1, 2, 3, 4] rfl rfl rfl rfl) rfl rfl hl.1 rfl (lv_room (Nat.le_of_ble_eq_true rfl)) dX4_count_28 ⟨Nat.le_of_ble_eq_true rfl, Nat.le_of_ble_eq_true rfl⟩) rfl rfl rfl (by decide) rfl rfl (fun H locs hP hD hS => ?_)
    generalize hz_1 : s_X4_no (xs o.1 0 (0 : Int32), o.2) (1 : Int32) = z_1 at hP hD
    have hg_1 : g1_X4_count o a wh = z_1 := by rw [← hz_1]; rfl
    exact xk_iret (wf := fun z : MO × MS × MS => wO I qo (qs 0) (qa 0) z.1 ++ wS I qo qs z.2.1 ++ wS I qo qa z.2.2) (u := (z_1, a, z)) (u1 := ((s_X4_count o a wh), a, z)) hx hb hr rfl hlocks hP hK hD hS (by subst hg_1; unfold r_X4_count; rw [if_pos c_1]) (by subst hg_1; unfold s_X4_count; rw [if_pos c_1]) dX4_count_31
  · refine lv_aload_n hx hb dX4_count_15 rfl (lv_at hl 0 rfl) ?_
    refine va_get (D := D) (ci := 4) (v := .ref (qs 0)) (C := RX4) (T := TX4) (N := 8) hx hb hts hinX4 hown hK hP 0 rfl rfl 6 (by decide) w_2 (fun _ h9 => h9) rfl dX4_count_16 ?_
    refine lv_iload_n hx hb dX4_count_19 rfl (lv_at hl 1 rfl) ?_
    refine xk_calli ([cMS qo qa z.1, cA I (qa 1) 40 (z.2 0), cA I (qa 2) 40 (z.2 1), cA I (qa 3) 40 (z.2 2), cA I (qa 4) 40 (z.2 3)]) (wO I qo (qs 0) (qa 0) (xs o.1 0 (0 : Int32), o.2) ++ wS I qo qs a ++ wS I qo qa z) [0, 1, 2, 3, 4, 5, 6, 7, 8, 9] [10, 11, 12, 13, 14] [5, 6, 7, 8, 9, 10, 11, 12, 13, 14, 0, 1, 2, 3, 4] hP hD hS hA (va_runV (As := [.int wh]) (rest := []) ⟨hx, hb, hml, hown, hts⟩ (c_X3_counted l D I qo (qs 0) (qa 0) qs H.size (xs o.1 0 (0 : Int32), o.2) a wh hn) (cwV 1 hts gX4_count_X3_counted rfl rfl rfl (by decide +kernel) ⟨Nat.le_of_ble_eq_true rfl, Nat.le_of_ble_eq_true rfl⟩) (xk_preV (wc := wO I qo (qs 0) (qa 0) (xs o.1 0 (0 : Int32), o.2) ++ wS I qo qs a) (q0 := 5) (ci := 3) hN hP hK hD [0, 1, 2, 3, 4, 5, 6, 7, 8, 9] rfl rfl rfl rfl) rfl rfl hl.1 rfl (lv_room (Nat.le_of_ble_eq_true rfl)) dX4_count_20 ⟨Nat.le_of_ble_eq_true rfl, Nat.le_of_ble_eq_true rfl⟩) rfl rfl rfl (by decide) rfl rfl (fun H locs hP hD hS => ?_)
    refine lv_goto (tgt := 31) hx hb dX4_count_23 (by decide) ?_
    exact xk_iret (wf := fun z : MO × MS × MS => wO I qo (qs 0) (qa 0) z.1 ++ wS I qo qs z.2.1 ++ wS I qo qa z.2.2) (u := ((xs o.1 0 (0 : Int32), o.2), a, z)) (u1 := ((s_X4_count o a wh), a, z)) hx hb hr rfl hlocks hP hK hD hS (by unfold r_X4_count; rw [if_neg c_1]) (by unfold s_X4_count; rw [if_neg c_1]) dX4_count_31

def r_X4_speed (o : MO) (a : MS) (up : Int32) : Int32 :=
  (r_X3_speed (xs o.1 0 (0 : Int32), o.2) a up)
def s_X4_speed (o : MO) (a : MS) (up : Int32) : MO :=
  (xs o.1 0 (0 : Int32), o.2)
set_option maxHeartbeats 800000 in
set_option maxRecDepth 100000 in
theorem c_X4_speed (l : Launch) (D : va_G) (I : ClassId) (qo qs qa : Nat → Nat) (sz : Nat) (o : MO) (a : MS) (z : MS) (up : Int32)  : xMi l D [(I, .int)] yX4_speed wsX4_speed { frames := 2, cells := 0, slots := 0, locals := 35 } [.ref (qo 0), .int up] sz (wO I qo (qs 0) (qa 0) o ++ wS I qo qs a ++ wS I qo qa z) (r_X4_speed o a up) (wO I qo (qs 0) (qa 0) (s_X4_speed o a up) ++ wS I qo qs a ++ wS I qo qa z) 0 0 := by
  refine xk_start (cc := cX4_speed) (maxL := 2) (ret := (some .int)) (Qf := fun A => xQi D [(I, .int)] A (r_X4_speed o a up) (wO I qo (qs 0) (qa 0) (s_X4_speed o a up) ++ wS I qo qs a ++ wS I qo qa z)) (by decide) rfl (Nat.le_of_ble_eq_true rfl) ?_
  intro p e s m below meth c A H ls hst hAe hsz hl
  obtain ⟨hx, hb, hr, hts, hown, hlocks, hml, hin, hN, hK, hP, hD, hA, hS⟩ := hst
  have hl : lv_has ls 2 [(0, .ref (qo 0)), (1, .int up)] := hl
  have hP : va_P D vwCl (wO I qo (qs 0) (qa 0) o ++ wS I qo qs a ++ wS I qo qa z) H := hP
  have hinX4 : ∀ w ∈ u_ws RX4 TX4 8, w ∈ wsX4_speed := by decide +kernel
  have w_1 := hts (.fieldLink RX4 34 "BridgeBellsModel" "thrown" "I") (by decide +kernel)
  have w_2 := hts (.fieldLink RX4 27 "BridgeBellsModel" "s" "LBridgeBellsModel$State;") (by decide +kernel)
  refine lv_aload_n hx hb dX4_speed_0 rfl (lv_at hl 0 rfl) ?_
  refine lv_iconst (v := (0 : Int32)) hx hb dX4_speed_1 (by decide) ?_
  refine va_put (D := D) (ci := 4) (v := .int (0 : Int32)) (ty := tyX4 0) (C := RX4) (T := TX4) (N := 8) hx hb hts hinX4 tyX4 tyX4_ok nmX4 hown hK hP hD hS 0 rfl rfl 0 (by decide) w_1 (fun _ h9 => h9) rfl (tyX4_ok 0 (by decide)) rfl rfl (Nat.le_of_ble_eq_true rfl) dX4_speed_2 (fun H locs hP hD hS => ?_)
  have hP : va_P D vwCl (wO I qo (qs 0) (qa 0) (xs o.1 0 (0 : Int32), o.2) ++ wS I qo qs a ++ wS I qo qa z) H := hP
  have hD : va_D A (wO I qo (qs 0) (qa 0) (xs o.1 0 (0 : Int32), o.2) ++ wS I qo qs a ++ wS I qo qa z) := hD
  refine lv_aload_n hx hb dX4_speed_5 rfl (lv_at hl 0 rfl) ?_
  refine va_get (D := D) (ci := 4) (v := .ref (qs 0)) (C := RX4) (T := TX4) (N := 8) hx hb hts hinX4 hown hK hP 0 rfl rfl 6 (by decide) w_2 (fun _ h9 => h9) rfl dX4_speed_6 ?_
  refine lv_iload_n hx hb dX4_speed_9 rfl (lv_at hl 1 rfl) ?_
  refine xk_calli ([cMS qo qa z.1, cA I (qa 1) 40 (z.2 0), cA I (qa 2) 40 (z.2 1), cA I (qa 3) 40 (z.2 2), cA I (qa 4) 40 (z.2 3)]) (wO I qo (qs 0) (qa 0) (xs o.1 0 (0 : Int32), o.2) ++ wS I qo qs a ++ wS I qo qa z) [0, 1, 2, 3, 4, 5, 6, 7, 8, 9] [10, 11, 12, 13, 14] [5, 6, 7, 8, 9, 10, 11, 12, 13, 14, 0, 1, 2, 3, 4] hP hD hS hA (va_runV (As := [.int up]) (rest := []) ⟨hx, hb, hml, hown, hts⟩ (c_X3_speed l D I qo (qs 0) (qa 0) qs H.size (xs o.1 0 (0 : Int32), o.2) a up ) (cwV 1 hts gX4_speed_X3_speed rfl rfl rfl (by decide +kernel) ⟨Nat.le_of_ble_eq_true rfl, Nat.le_of_ble_eq_true rfl⟩) (xk_preV (wc := wO I qo (qs 0) (qa 0) (xs o.1 0 (0 : Int32), o.2) ++ wS I qo qs a) (q0 := 5) (ci := 3) hN hP hK hD [0, 1, 2, 3, 4, 5, 6, 7, 8, 9] rfl rfl rfl rfl) rfl rfl hl.1 rfl (lv_room (Nat.le_of_ble_eq_true rfl)) dX4_speed_10 ⟨Nat.le_of_ble_eq_true rfl, Nat.le_of_ble_eq_true rfl⟩) rfl rfl rfl (by decide) rfl rfl (fun H locs hP hD hS => ?_)
  exact xk_iret (wf := fun z : MO × MS × MS => wO I qo (qs 0) (qa 0) z.1 ++ wS I qo qs z.2.1 ++ wS I qo qa z.2.2) (u := ((xs o.1 0 (0 : Int32), o.2), a, z)) (u1 := ((s_X4_speed o a up), a, z)) hx hb hr rfl hlocks hP hK hD hS (by unfold r_X4_speed; rfl) (by unfold s_X4_speed; rfl) dX4_speed_13

def g1_X4_pass (o : MO) (a : MS) (mi : Int32) : MS := s_X3_pass_ (xs o.1 0 (0 : Int32), o.2) a mi
def g2_X4_pass (o : MO) (a : MS) (mi : Int32) : MO := s_X4_no (xs o.1 0 (0 : Int32), o.2) (1 : Int32)
def r_X4_pass (o : MO) (a : MS) (mi : Int32) : Int32 :=
  if (r_X4_isIn mi (1 : Int32) (240 : Int32)) = 0 then
    (r_X4_no (xs o.1 0 (0 : Int32), o.2) (1 : Int32))
  else
    ((r_X3_are (xs o.1 0 (0 : Int32), o.2) (g1_X4_pass o a mi) (2 : Int32) (2 : Int32)) - (r_X3_are (xs o.1 0 (0 : Int32), o.2) a (2 : Int32) (2 : Int32)))
def s_X4_pass (o : MO) (a : MS) (mi : Int32) : MO × MS :=
  if (r_X4_isIn mi (1 : Int32) (240 : Int32)) = 0 then
    ((g2_X4_pass o a mi), a)
  else
    ((xs o.1 0 (0 : Int32), o.2), (g1_X4_pass o a mi))
set_option maxHeartbeats 800000 in
set_option maxRecDepth 100000 in
theorem c_X4_pass (l : Launch) (D : va_G) (I : ClassId) (qo qs qa : Nat → Nat) (sz : Nat) (o : MO) (a : MS) (z : MS) (mi : Int32) (hn : nOk (o.1 1)) (hp : pOk (a.1 5)) (hm1 : 0 ≤ (a.1 0).toInt) (hm2 : (a.1 0).toInt < 1000000000) : xMi l D [(I, .int)] yX4_pass wsX4_pass { frames := 5, cells := 0, slots := 0, locals := 101 } [.ref (qo 0), .int mi] sz (wO I qo (qs 0) (qa 0) o ++ wS I qo qs a ++ wS I qo qa z) (r_X4_pass o a mi) (wO I qo (qs 0) (qa 0) ((s_X4_pass o a mi).1) ++ wS I qo qs ((s_X4_pass o a mi).2) ++ wS I qo qa z) 0 0 := by
  refine xk_start (cc := cX4_pass) (maxL := 3) (ret := (some .int)) (Qf := fun A => xQi D [(I, .int)] A (r_X4_pass o a mi) (wO I qo (qs 0) (qa 0) ((s_X4_pass o a mi).1) ++ wS I qo qs ((s_X4_pass o a mi).2) ++ wS I qo qa z)) (by decide) rfl (Nat.le_of_ble_eq_true rfl) ?_
  intro p e s m below meth c A H ls hst hAe hsz hl
  obtain ⟨hx, hb, hr, hts, hown, hlocks, hml, hin, hN, hK, hP, hD, hA, hS⟩ := hst
  have hl : lv_has ls 3 [(0, .ref (qo 0)), (1, .int mi)] := hl
  have hP : va_P D vwCl (wO I qo (qs 0) (qa 0) o ++ wS I qo qs a ++ wS I qo qa z) H := hP
  have hinX4 : ∀ w ∈ u_ws RX4 TX4 8, w ∈ wsX4_pass := by decide +kernel
  have w_1 := hts (.fieldLink RX4 34 "BridgeBellsModel" "thrown" "I") (by decide +kernel)
  have w_2 := hts (.fieldLink RX4 27 "BridgeBellsModel" "s" "LBridgeBellsModel$State;") (by decide +kernel)
  refine lv_aload_n hx hb dX4_pass_0 rfl (lv_at hl 0 rfl) ?_
  refine lv_iconst (v := (0 : Int32)) hx hb dX4_pass_1 (by decide) ?_
  refine va_put (D := D) (ci := 4) (v := .int (0 : Int32)) (ty := tyX4 0) (C := RX4) (T := TX4) (N := 8) hx hb hts hinX4 tyX4 tyX4_ok nmX4 hown hK hP hD hS 0 rfl rfl 0 (by decide) w_1 (fun _ h9 => h9) rfl (tyX4_ok 0 (by decide)) rfl rfl (Nat.le_of_ble_eq_true rfl) dX4_pass_2 (fun H locs hP hD hS => ?_)
  have hP : va_P D vwCl (wO I qo (qs 0) (qa 0) (xs o.1 0 (0 : Int32), o.2) ++ wS I qo qs a ++ wS I qo qa z) H := hP
  have hD : va_D A (wO I qo (qs 0) (qa 0) (xs o.1 0 (0 : Int32), o.2) ++ wS I qo qs a ++ wS I qo qa z) := hD
  refine lv_iload_n hx hb dX4_pass_5 rfl (lv_at hl 1 rfl) ?_
  refine lv_iconst (v := (1 : Int32)) hx hb dX4_pass_6 (by decide) ?_
  refine lv_sipush (v := (240 : Int32)) hx hb dX4_pass_7 (by decide) ?_
  refine xk_calli ([cMO qo (qs 0) (qa 0) (xs o.1 0 (0 : Int32)), cA I (qo 1) 40 (o.2 0), cA I (qo 2) 40 (o.2 1), cA I (qo 3) 40 (o.2 2), cA I (qo 4) 8 (o.2 3), cMS qo qs a.1, cA I (qs 1) 40 (a.2 0), cA I (qs 2) 40 (a.2 1), cA I (qs 3) 40 (a.2 2), cA I (qs 4) 40 (a.2 3), cMS qo qa z.1, cA I (qa 1) 40 (z.2 0), cA I (qa 2) 40 (z.2 1), cA I (qa 3) 40 (z.2 2), cA I (qa 4) 40 (z.2 3)]) (wO I qo (qs 0) (qa 0) (xs o.1 0 (0 : Int32), o.2) ++ wS I qo qs a ++ wS I qo qa z) [] [0, 1, 2, 3, 4, 5, 6, 7, 8, 9, 10, 11, 12, 13, 14] [0, 1, 2, 3, 4, 5, 6, 7, 8, 9, 10, 11, 12, 13, 14] hP hD hS hA (va_runS (As := [.int mi, .int (1 : Int32), .int (240 : Int32)]) (rest := []) ⟨hx, hb, hml, hown, hts⟩ (c_X4_isIn l D I  H.size mi (1 : Int32) (240 : Int32) ) (va_cwS 3 hts gX4_pass_X4_isIn rfl rfl rfl (by decide +kernel) ⟨Nat.le_of_ble_eq_true rfl, Nat.le_of_ble_eq_true rfl⟩) (xk_pre (wc := ([] : va_W)) hN hP hK hD [] rfl rfl) rfl rfl hl.1 rfl (lv_room (Nat.le_of_ble_eq_true rfl)) dX4_pass_10 ⟨Nat.le_of_ble_eq_true rfl, Nat.le_of_ble_eq_true rfl⟩) rfl rfl rfl (by decide) rfl rfl (fun H locs hP hD hS => ?_)
  refine lv_if_ne (tgt := 22) hx hb dX4_pass_13 (by decide) (fun c_1 => ?_) (fun c_1 => ?_)
  · refine lv_aload_n hx hb dX4_pass_22 rfl (lv_at hl 0 rfl) ?_
    refine va_get (D := D) (ci := 4) (v := .ref (qs 0)) (C := RX4) (T := TX4) (N := 8) hx hb hts hinX4 hown hK hP 0 rfl rfl 6 (by decide) w_2 (fun _ h9 => h9) rfl dX4_pass_23 ?_
    refine lv_iconst (v := (2 : Int32)) hx hb dX4_pass_26 (by decide) ?_
    refine lv_iconst (v := (2 : Int32)) hx hb dX4_pass_27 (by decide) ?_
    refine xk_calli ([cMS qo qa z.1, cA I (qa 1) 40 (z.2 0), cA I (qa 2) 40 (z.2 1), cA I (qa 3) 40 (z.2 2), cA I (qa 4) 40 (z.2 3)]) (wO I qo (qs 0) (qa 0) (xs o.1 0 (0 : Int32), o.2) ++ wS I qo qs a ++ wS I qo qa z) [0, 1, 2, 3, 4, 5, 6, 7, 8, 9] [10, 11, 12, 13, 14] [5, 6, 7, 8, 9, 10, 11, 12, 13, 14, 0, 1, 2, 3, 4] hP hD hS hA (va_runV (As := [.int (2 : Int32), .int (2 : Int32)]) (rest := []) ⟨hx, hb, hml, hown, hts⟩ (c_X3_are l D I qo (qs 0) (qa 0) qs H.size (xs o.1 0 (0 : Int32), o.2) a (2 : Int32) (2 : Int32) hn) (cwV 2 hts gX4_pass_X3_are rfl rfl rfl (by decide +kernel) ⟨Nat.le_of_ble_eq_true rfl, Nat.le_of_ble_eq_true rfl⟩) (xk_preV (wc := wO I qo (qs 0) (qa 0) (xs o.1 0 (0 : Int32), o.2) ++ wS I qo qs a) (q0 := 5) (ci := 3) hN hP hK hD [0, 1, 2, 3, 4, 5, 6, 7, 8, 9] rfl rfl rfl rfl) rfl rfl hl.1 rfl (lv_room (Nat.le_of_ble_eq_true rfl)) dX4_pass_28 ⟨Nat.le_of_ble_eq_true rfl, Nat.le_of_ble_eq_true rfl⟩) rfl rfl rfl (by decide) rfl rfl (fun H locs hP hD hS => ?_)
    refine lv_istore_n (lv' := [(2, .int (r_X3_are (xs o.1 0 (0 : Int32), o.2) a (2 : Int32) (2 : Int32))), (0, .ref (qo 0)), (1, .int mi)]) hx hb dX4_pass_31 rfl hl (by decide) rfl (fun ls hl => ?_)
    refine lv_aload_n hx hb dX4_pass_32 rfl (lv_at hl 1 rfl) ?_
    refine va_get (D := D) (ci := 4) (v := .ref (qs 0)) (C := RX4) (T := TX4) (N := 8) hx hb hts hinX4 hown hK hP 0 rfl rfl 6 (by decide) w_2 (fun _ h9 => h9) rfl dX4_pass_33 ?_
    refine lv_iload_n hx hb dX4_pass_36 rfl (lv_at hl 2 rfl) ?_
    refine xk_callv ([cMS qo qa z.1, cA I (qa 1) 40 (z.2 0), cA I (qa 2) 40 (z.2 1), cA I (qa 3) 40 (z.2 2), cA I (qa 4) 40 (z.2 3)]) (wO I qo (qs 0) (qa 0) (xs o.1 0 (0 : Int32), o.2) ++ wS I qo qs (s_X3_pass_ (xs o.1 0 (0 : Int32), o.2) a mi) ++ wS I qo qa z) [0, 1, 2, 3, 4, 5, 6, 7, 8, 9] [10, 11, 12, 13, 14] [5, 6, 7, 8, 9, 10, 11, 12, 13, 14, 0, 1, 2, 3, 4] hP hD hS hA (va_runV (As := [.int mi]) (rest := []) ⟨hx, hb, hml, hown, hts⟩ (c_X3_pass_ l D I qo (qs 0) (qa 0) qs H.size (xs o.1 0 (0 : Int32), o.2) a mi hn hp hm1 hm2 (isIn_mi c_1).1 (isIn_mi c_1).2) (cwV 1 hts gX4_pass_X3_pass_ rfl rfl rfl (by decide +kernel) ⟨Nat.le_of_ble_eq_true rfl, Nat.le_of_ble_eq_true rfl⟩) (xk_preV (wc := wO I qo (qs 0) (qa 0) (xs o.1 0 (0 : Int32), o.2) ++ wS I qo qs a) (q0 := 5) (ci := 3) hN hP hK hD [0, 1, 2, 3, 4, 5, 6, 7, 8, 9] rfl rfl rfl rfl) rfl rfl hl.1 rfl (lv_room (Nat.le_of_ble_eq_true rfl)) dX4_pass_37 ⟨Nat.le_of_ble_eq_true rfl, Nat.le_of_ble_eq_true rfl⟩) rfl rfl rfl (by decide) rfl rfl (fun H locs hP hD hS => ?_)
    generalize hz_1 : s_X3_pass_ (xs o.1 0 (0 : Int32), o.2) a mi = z_1 at hP hD
    have hg_1 : g1_X4_pass o a mi = z_1 := by rw [← hz_1]; rfl
    refine lv_aload_n hx hb dX4_pass_40 rfl (lv_at hl 1 rfl) ?_
    refine va_get (D := D) (ci := 4) (v := .ref (qs 0)) (C := RX4) (T := TX4) (N := 8) hx hb hts hinX4 hown hK hP 0 rfl rfl 6 (by decide) w_2 (fun _ h9 => h9) rfl dX4_pass_41 ?_
    refine lv_iconst (v := (2 : Int32)) hx hb dX4_pass_44 (by decide) ?_
    refine lv_iconst (v := (2 : Int32)) hx hb dX4_pass_45 (by decide) ?_
    refine xk_calli ([cMS qo qa z.1, cA I (qa 1) 40 (z.2 0), cA I (qa 2) 40 (z.2 1), cA I (qa 3) 40 (z.2 2), cA I (qa 4) 40 (z.2 3)]) (wO I qo (qs 0) (qa 0) (xs o.1 0 (0 : Int32), o.2) ++ wS I qo qs z_1 ++ wS I qo qa z) [0, 1, 2, 3, 4, 5, 6, 7, 8, 9] [10, 11, 12, 13, 14] [5, 6, 7, 8, 9, 10, 11, 12, 13, 14, 0, 1, 2, 3, 4] hP hD hS hA (va_runV (As := [.int (2 : Int32), .int (2 : Int32)]) (rest := []) ⟨hx, hb, hml, hown, hts⟩ (c_X3_are l D I qo (qs 0) (qa 0) qs H.size (xs o.1 0 (0 : Int32), o.2) z_1 (2 : Int32) (2 : Int32) hn) (cwV 2 hts gX4_pass_X3_are rfl rfl rfl (by decide +kernel) ⟨Nat.le_of_ble_eq_true rfl, Nat.le_of_ble_eq_true rfl⟩) (xk_preV (wc := wO I qo (qs 0) (qa 0) (xs o.1 0 (0 : Int32), o.2) ++ wS I qo qs z_1) (q0 := 5) (ci := 3) hN hP hK hD [0, 1, 2, 3, 4, 5, 6, 7, 8, 9] rfl rfl rfl rfl) rfl rfl hl.1 rfl (lv_room (Nat.le_of_ble_eq_true rfl)) dX4_pass_46 ⟨Nat.le_of_ble_eq_true rfl, Nat.le_of_ble_eq_true rfl⟩) rfl rfl rfl (by decide) rfl rfl (fun H locs hP hD hS => ?_)
    refine lv_iload_n hx hb dX4_pass_49 rfl (lv_at hl 0 rfl) ?_
    refine lv_isub hx hb dX4_pass_50 ?_
    exact xk_iret (wf := fun z : MO × MS × MS => wO I qo (qs 0) (qa 0) z.1 ++ wS I qo qs z.2.1 ++ wS I qo qa z.2.2) (u := ((xs o.1 0 (0 : Int32), o.2), z_1, z)) (u1 := ((s_X4_pass o a mi).1, (s_X4_pass o a mi).2, z)) hx hb hr rfl hlocks hP hK hD hS (by subst hg_1; unfold r_X4_pass; rw [if_neg c_1]) (by subst hg_1; unfold s_X4_pass; rw [if_neg c_1]) dX4_pass_51
  · refine lv_aload_n hx hb dX4_pass_16 rfl (lv_at hl 0 rfl) ?_
    refine lv_iconst (v := (1 : Int32)) hx hb dX4_pass_17 (by decide) ?_
    refine xk_calli ([cMS qo qs a.1, cA I (qs 1) 40 (a.2 0), cA I (qs 2) 40 (a.2 1), cA I (qs 3) 40 (a.2 2), cA I (qs 4) 40 (a.2 3), cMS qo qa z.1, cA I (qa 1) 40 (z.2 0), cA I (qa 2) 40 (z.2 1), cA I (qa 3) 40 (z.2 2), cA I (qa 4) 40 (z.2 3)]) (wO I qo (qs 0) (qa 0) (s_X4_no (xs o.1 0 (0 : Int32), o.2) (1 : Int32)) ++ wS I qo qs a ++ wS I qo qa z) [0, 1, 2, 3, 4] [5, 6, 7, 8, 9, 10, 11, 12, 13, 14] [10, 11, 12, 13, 14, 0, 1, 2, 3, 4, 5, 6, 7, 8, 9] hP hD hS hA (va_runV (As := [.int (1 : Int32)]) (rest := []) ⟨hx, hb, hml, hown, hts⟩ (c_X4_no l D I qo (qs 0) (qa 0) H.size (xs o.1 0 (0 : Int32), o.2) (1 : Int32) ) (cwV 1 hts gX4_pass_X4_no rfl rfl rfl (by decide +kernel) ⟨Nat.le_of_ble_eq_true rfl, Nat.le_of_ble_eq_true rfl⟩) (xk_preV (wc := wO I qo (qs 0) (qa 0) (xs o.1 0 (0 : Int32), o.2)) (q0 := 0) (ci := 4) hN hP hK hD [0, 1, 2, 3, 4] rfl rfl rfl rfl) rfl rfl hl.1 rfl (lv_room (Nat.le_of_ble_eq_true rfl)) dX4_pass_18 ⟨Nat.le_of_ble_eq_true rfl, Nat.le_of_ble_eq_true rfl⟩) rfl rfl rfl (by decide) rfl rfl (fun H locs hP hD hS => ?_)
    generalize hz_2 : s_X4_no (xs o.1 0 (0 : Int32), o.2) (1 : Int32) = z_2 at hP hD
    have hg_2 : g2_X4_pass o a mi = z_2 := by rw [← hz_2]; rfl
    exact xk_iret (wf := fun z : MO × MS × MS => wO I qo (qs 0) (qa 0) z.1 ++ wS I qo qs z.2.1 ++ wS I qo qa z.2.2) (u := (z_2, a, z)) (u1 := ((s_X4_pass o a mi).1, (s_X4_pass o a mi).2, z)) hx hb hr rfl hlocks hP hK hD hS (by subst hg_2; unfold r_X4_pass; rw [if_pos c_1]) (by subst hg_2; unfold s_X4_pass; rw [if_pos c_1]) dX4_pass_21
