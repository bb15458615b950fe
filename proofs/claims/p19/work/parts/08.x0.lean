theorem has_in {t : XT} {k : Int32} (hn : nOk (t.1 0)) (h : ¬ r_X1_has t k = 0) : 0 ≤ k.toInt ∧ k.toInt < (t.1 0).toInt := by
  unfold r_X1_has at h
  have h0 : (0 : Int32).toInt = 0 := by decide
  by_cases h1 : k < 0
  · rw [if_pos h1] at h
    exact absurd rfl h
  · rw [if_neg h1] at h
    by_cases h2 : t.1 0 ≤ k
    · rw [if_pos h2] at h
      exact absurd rfl h
    · rw [Int32.lt_iff_toInt_lt] at h1
      rw [Int32.le_iff_toInt_le] at h2
      omega
theorem has_v {t : XT} {k : Int32} (hn : nOk (t.1 0)) (h : ¬ r_X1_has t k = 0) : vp_in k 40 := vin40 (has_in hn h).1 (by have := (has_in hn h).2; have := hn.2; omega)
theorem sw_le (g : Nat → Nat → Int32) (j : Nat) (h2 : j ≠ 2) (h3 : j ≠ 3) (h4 : j ≠ 4) (h5 : j ≠ 5) : ∀ (k : Nat) (f : Nat → Int32), sw g k f j = f j
  | 0, f => rfl
  | k + 1, f => by
    show sw g k (sw_step g k f) j = f j
    rw [sw_le g j h2 h3 h4 h5 k]
    unfold sw_step
    split
    · split
      · rw [xs_ne h4, xs_ne h2]
      · rw [xs_ne h5, xs_ne h3]
    · rfl
theorem see_n (t : XT) : (s_X1_seeWhoWaits t).1 0 = t.1 0 := by
  show sw t.2 _ _ 0 = t.1 0
  rw [sw_le t.2 0 (by decide) (by decide) (by decide) (by decide)]
  rfl
theorem endWait_n (t : XT) (k st mi : Int32) : (s_X1_endWait t k st mi).1 0 = t.1 0 := by
  unfold s_X1_endWait
  exact see_n _
theorem endPassage_n (t : XT) (k mi : Int32) : (s_X1_endPassage t k mi).1 0 = t.1 0 := rfl

def r_J9_floorMod_7cf53 (x y : Int32) : Int32 :=
  if 0 ≤ (x ^^^ y) then
    (x - x / y * y)
  else
    if (x - x / y * y) = 0 then
      (x - x / y * y)
    else
      ((x - x / y * y) + y)
set_option maxHeartbeats 800000 in
set_option maxRecDepth 100000 in
theorem c_J9_floorMod_7cf53 (l : Launch) (D : va_G) (I : ClassId) (sz : Nat) (x y : Int32) (hy : ¬ y = 0) : xMi l D [(I, .int)] yJ9_floorMod_7cf53 wsJ9_floorMod_7cf53 { frames := 0, cells := 0, slots := 0, locals := 0 } [.int x, .int y] sz [] (r_J9_floorMod_7cf53 x y) [] 0 0 := by
  refine xk_startF (cc := cJ9_floorMod_7cf53) (maxL := 3) (ret := (some .int)) (Qf := fun A => xQi D [(I, .int)] A (r_J9_floorMod_7cf53 x y) []) (by decide +kernel) rfl (Nat.le_of_ble_eq_true rfl) ?_
  intro p e s m below meth c A H ls hst hAe hsz hl
  obtain ⟨hx, hb, hr, hts, hown, hlocks, hml, hin, hN, hK, hP, hD, hA, hS⟩ := hst
  have hl : lv_has ls 3 [(0, .int x), (1, .int y)] := hl
  refine lv_iload_n hx hb dJ9_floorMod_7cf53_0 rfl (lv_at hl 0 rfl) ?_
  refine lv_iload_n hx hb dJ9_floorMod_7cf53_1 rfl (lv_at hl 1 rfl) ?_
  refine lv_irem hx hb dJ9_floorMod_7cf53_2 hy ?_
  refine lv_istore_n (lv' := [(2, .int (x - x / y * y)), (0, .int x), (1, .int y)]) hx hb dJ9_floorMod_7cf53_3 rfl hl (by decide) rfl (fun ls hl => ?_)
  refine lv_iload_n hx hb dJ9_floorMod_7cf53_4 rfl (lv_at hl 1 rfl) ?_
  refine lv_iload_n hx hb dJ9_floorMod_7cf53_5 rfl (lv_at hl 2 rfl) ?_
  refine lv_ixor hx hb dJ9_floorMod_7cf53_6 ?_
  refine lv_if_ge (tgt := 18) hx hb dJ9_floorMod_7cf53_7 (by decide) (fun c_1 => ?_) (fun c_1 => ?_)
  · refine lv_iload_n hx hb dJ9_floorMod_7cf53_18 rfl (lv_at hl 0 rfl) ?_
    exact xk_iret (wf := fun _ : Unit => ([] : va_W)) (u := ()) hx hb hr rfl hlocks hP hK hD hS (by unfold r_J9_floorMod_7cf53; rw [if_pos c_1]) rfl dJ9_floorMod_7cf53_19
  · refine lv_iload_n hx hb dJ9_floorMod_7cf53_10 rfl (lv_at hl 0 rfl) ?_
    refine lv_if_eq (tgt := 18) hx hb dJ9_floorMod_7cf53_11 (by decide) (fun c_2 => ?_) (fun c_2 => ?_)
    · refine lv_iload_n hx hb dJ9_floorMod_7cf53_18 rfl (lv_at hl 0 rfl) ?_
      exact xk_iret (wf := fun _ : Unit => ([] : va_W)) (u := ()) hx hb hr rfl hlocks hP hK hD hS (by unfold r_J9_floorMod_7cf53; rw [if_neg c_1, if_pos c_2]) rfl dJ9_floorMod_7cf53_19
    · refine lv_iload_n hx hb dJ9_floorMod_7cf53_14 rfl (lv_at hl 0 rfl) ?_
      refine lv_iload_n hx hb dJ9_floorMod_7cf53_15 rfl (lv_at hl 2 rfl) ?_
      refine lv_iadd hx hb dJ9_floorMod_7cf53_16 ?_
      exact xk_iret (wf := fun _ : Unit => ([] : va_W)) (u := ()) hx hb hr rfl hlocks hP hK hD hS (by unfold r_J9_floorMod_7cf53; rw [if_neg c_1, if_neg c_2]) rfl dJ9_floorMod_7cf53_17

def r_X0_speedTowards (b : XBr) (up : Int32) : Int32 :=
  if up = 0 then
    if (b.1 3) < (5 : Int32) then
      ((6 : Int32) - ((b.1 2) / (6 : Int32)))
    else
      (imx (1 : Int32) (((6 : Int32) - ((b.1 2) / (6 : Int32))) / (2 : Int32)))
  else
    if (b.1 3) < (5 : Int32) then
      ((1 : Int32) + ((b.1 2) / (6 : Int32)))
    else
      (imx (1 : Int32) (((1 : Int32) + ((b.1 2) / (6 : Int32))) / (2 : Int32)))
set_option maxHeartbeats 800000 in
set_option maxRecDepth 100000 in
theorem c_X0_speedTowards (l : Launch) (D : va_G) (I : ClassId) (q : Nat → Nat) (sz : Nat) (b : XBr) (up : Int32)  : xMi l D [(I, .int)] yX0_speedTowards wsX0_speedTowards { frames := 1, cells := 0, slots := 0, locals := 13 } [.ref (q 0), .int up] sz (wB I q b) (r_X0_speedTowards b up) (wB I q b) 0 0 := by
  refine xk_start (cc := cX0_speedTowards) (maxL := 4) (ret := (some .int)) (Qf := fun A => xQi D [(I, .int)] A (r_X0_speedTowards b up) (wB I q b)) (by decide) rfl (Nat.le_of_ble_eq_true rfl) ?_
  intro p e s m below meth c A H ls hst hAe hsz hl
  obtain ⟨hx, hb, hr, hts, hown, hlocks, hml, hin, hN, hK, hP, hD, hA, hS⟩ := hst
  have hl : lv_has ls 4 [(0, .ref (q 0)), (1, .int up)] := hl
  have hP : va_P D vwCl (wB I q b) H := hP
  have hinX0 : ∀ w ∈ u_ws RX0 TX0 11, w ∈ wsX0_speedTowards := by decide +kernel
  have w_1 := hts (.fieldLink RX0 18 "BridgeBells$Bridge" "counterpoise" "I") (by decide +kernel)
  have w_2 := hts (.fieldLink RX0 21 "BridgeBells$Bridge" "ice" "I") (by decide +kernel)
  have w_3 := hts (.methodLink RX0 84 Lib.Math.max.name) (by decide +kernel)
  have w_4 := hts (.static Lib.Math.max.name) (by decide +kernel)
  have w_5 := hts (.initialized "java/lang/Math") (by decide +kernel)
  have w_6 := hts (.code Lib.Math.max.name Lib.Math.max.code 2 (some .int)) (by decide +kernel)
  refine lv_aload_n hx hb dX0_speedTowards_0 rfl (lv_at hl 0 rfl) ?_
  refine va_get (D := D) (ci := 0) (v := .int (b.1 2)) (C := RX0) (T := TX0) (N := 11) hx hb hts hinX0 hown hK hP 0 rfl rfl 2 (by decide) w_1 (fun _ h9 => h9) rfl dX0_speedTowards_1 ?_
  refine lv_bipush (v := (6 : Int32)) hx hb dX0_speedTowards_4 (by decide) ?_
  refine lv_idiv hx hb dX0_speedTowards_6 (by decide) ?_
  refine lv_istore_n (lv' := [(2, .int ((b.1 2) / (6 : Int32))), (0, .ref (q 0)), (1, .int up)]) hx hb dX0_speedTowards_7 rfl hl (by decide) rfl (fun ls hl => ?_)
  refine lv_iload_n hx hb dX0_speedTowards_8 rfl (lv_at hl 2 rfl) ?_
  refine lv_if_eq (tgt := 18) hx hb dX0_speedTowards_9 (by decide) (fun c_1 => ?_) (fun c_1 => ?_)
  · refine lv_bipush (v := (6 : Int32)) hx hb dX0_speedTowards_18 (by decide) ?_
    refine lv_iload_n hx hb dX0_speedTowards_20 rfl (lv_at hl 0 rfl) ?_
    refine lv_isub hx hb dX0_speedTowards_21 ?_
    refine lv_istore_n (lv' := [(3, .int ((6 : Int32) - ((b.1 2) / (6 : Int32)))), (2, .int ((b.1 2) / (6 : Int32))), (0, .ref (q 0)), (1, .int up)]) hx hb dX0_speedTowards_22 rfl hl (by decide) rfl (fun ls hl => ?_)
    refine lv_aload_n hx hb dX0_speedTowards_23 rfl (lv_at hl 2 rfl) ?_
    refine va_get (D := D) (ci := 0) (v := .int (b.1 3)) (C := RX0) (T := TX0) (N := 11) hx hb hts hinX0 hown hK hP 0 rfl rfl 3 (by decide) w_2 (fun _ h9 => h9) rfl dX0_speedTowards_24 ?_
    refine lv_iconst (v := (5 : Int32)) hx hb dX0_speedTowards_27 (by decide) ?_
    refine lv_icmp_lt (tgt := 41) hx hb dX0_speedTowards_28 (by decide) (fun c_2 => ?_) (fun c_2 => ?_)
    · refine lv_iload_n hx hb dX0_speedTowards_41 rfl (lv_at hl 0 rfl) ?_
      exact xk_iret (wf := fun z : XBr => wB I q z) (u := b) (u1 := b) hx hb hr rfl hlocks hP hK hD hS (by unfold r_X0_speedTowards; rw [if_pos c_1, if_pos c_2]) rfl dX0_speedTowards_42
    · refine lv_iconst (v := (1 : Int32)) hx hb dX0_speedTowards_31 (by decide) ?_
      refine lv_iload_n hx hb dX0_speedTowards_32 rfl (lv_at hl 0 rfl) ?_
      refine lv_iconst (v := (2 : Int32)) hx hb dX0_speedTowards_33 (by decide) ?_
      refine lv_idiv hx hb dX0_speedTowards_34 (by decide) ?_
      refine va_mmax hx hb (hml.trans hl.1.symm) hown w_3 w_4 w_5 w_6 (Nat.le_of_ble_eq_true rfl) (Nat.le_of_ble_eq_true rfl) (Nat.le_of_ble_eq_true rfl) (Nat.le_of_ble_eq_true rfl) dX0_speedTowards_35 ?_
      refine W.eq (g2 := F0 m 38 ls [.int (imx (1 : Int32) (((6 : Int32) - ((b.1 2) / (6 : Int32))) / (2 : Int32)))]) rfl ?_
      refine lv_goto (tgt := 42) hx hb dX0_speedTowards_38 (by decide) ?_
      exact xk_iret (wf := fun z : XBr => wB I q z) (u := b) (u1 := b) hx hb hr rfl hlocks hP hK hD hS (by unfold r_X0_speedTowards; rw [if_pos c_1, if_neg c_2]) rfl dX0_speedTowards_42
  · refine lv_iconst (v := (1 : Int32)) hx hb dX0_speedTowards_12 (by decide) ?_
    refine lv_iload_n hx hb dX0_speedTowards_13 rfl (lv_at hl 0 rfl) ?_
    refine lv_iadd hx hb dX0_speedTowards_14 ?_
    refine lv_goto (tgt := 22) hx hb dX0_speedTowards_15 (by decide) ?_
    refine lv_istore_n (lv' := [(3, .int ((1 : Int32) + ((b.1 2) / (6 : Int32)))), (2, .int ((b.1 2) / (6 : Int32))), (0, .ref (q 0)), (1, .int up)]) hx hb dX0_speedTowards_22 rfl hl (by decide) rfl (fun ls hl => ?_)
    refine lv_aload_n hx hb dX0_speedTowards_23 rfl (lv_at hl 2 rfl) ?_
    refine va_get (D := D) (ci := 0) (v := .int (b.1 3)) (C := RX0) (T := TX0) (N := 11) hx hb hts hinX0 hown hK hP 0 rfl rfl 3 (by decide) w_2 (fun _ h9 => h9) rfl dX0_speedTowards_24 ?_
    refine lv_iconst (v := (5 : Int32)) hx hb dX0_speedTowards_27 (by decide) ?_
    refine lv_icmp_lt (tgt := 41) hx hb dX0_speedTowards_28 (by decide) (fun c_3 => ?_) (fun c_3 => ?_)
    · refine lv_iload_n hx hb dX0_speedTowards_41 rfl (lv_at hl 0 rfl) ?_
      exact xk_iret (wf := fun z : XBr => wB I q z) (u := b) (u1 := b) hx hb hr rfl hlocks hP hK hD hS (by unfold r_X0_speedTowards; rw [if_neg c_1, if_pos c_3]) rfl dX0_speedTowards_42
    · refine lv_iconst (v := (1 : Int32)) hx hb dX0_speedTowards_31 (by decide) ?_
      refine lv_iload_n hx hb dX0_speedTowards_32 rfl (lv_at hl 0 rfl) ?_
      refine lv_iconst (v := (2 : Int32)) hx hb dX0_speedTowards_33 (by decide) ?_
      refine lv_idiv hx hb dX0_speedTowards_34 (by decide) ?_
      refine va_mmax hx hb (hml.trans hl.1.symm) hown w_3 w_4 w_5 w_6 (Nat.le_of_ble_eq_true rfl) (Nat.le_of_ble_eq_true rfl) (Nat.le_of_ble_eq_true rfl) (Nat.le_of_ble_eq_true rfl) dX0_speedTowards_35 ?_
      refine W.eq (g2 := F0 m 38 ls [.int (imx (1 : Int32) (((1 : Int32) + ((b.1 2) / (6 : Int32))) / (2 : Int32)))]) rfl ?_
      refine lv_goto (tgt := 42) hx hb dX0_speedTowards_38 (by decide) ?_
      exact xk_iret (wf := fun z : XBr => wB I q z) (u := b) (u1 := b) hx hb hr rfl hlocks hP hK hD hS (by unfold r_X0_speedTowards; rw [if_neg c_1, if_neg c_3]) rfl dX0_speedTowards_42

def r_X0_servedNext (b : XBr) : Int32 :=
  if (b.1 6) = (-1 : Int32) then
    if (b.1 4) = (0 : Int32) then
      (r_X1_firstOfAll b.2.2)
    else
      if (b.1 4) = (1 : Int32) then
        (r_X1_firstBargeElseCart b.2.2)
      else
        if (b.1 4) = (2 : Int32) then
          (r_X1_firstCartElseBarge b.2.2)
        else
          if (b.1 4) = (3 : Int32) then
            if (b.1 8) = 0 then
              (r_X1_firstBargeElseCart b.2.2)
            else
              (r_X1_firstCartElseBarge b.2.2)
          else
            (-1 : Int32)
  else
    (-1 : Int32)
set_option maxHeartbeats 800000 in
set_option maxRecDepth 100000 in
theorem c_X0_servedNext (l : Launch) (D : va_G) (I : ClassId) (q : Nat → Nat) (sz : Nat) (b : XBr)  : xMi l D [(I, .int)] yX0_servedNext wsX0_servedNext { frames := 2, cells := 0, slots := 0, locals := 33 } [.ref (q 0)] sz (wB I q b) (r_X0_servedNext b) (wB I q b) 0 0 := by
  refine xk_start (cc := cX0_servedNext) (maxL := 1) (ret := (some .int)) (Qf := fun A => xQi D [(I, .int)] A (r_X0_servedNext b) (wB I q b)) (by decide) rfl (Nat.le_of_ble_eq_true rfl) ?_
  intro p e s m below meth c A H ls hst hAe hsz hl
  obtain ⟨hx, hb, hr, hts, hown, hlocks, hml, hin, hN, hK, hP, hD, hA, hS⟩ := hst
  have hl : lv_has ls 1 [(0, .ref (q 0))] := hl
  have hP : va_P D vwCl (wB I q b) H := hP
  have hinX0 : ∀ w ∈ u_ws RX0 TX0 11, w ∈ wsX0_servedNext := by decide +kernel
  have w_1 := hts (.fieldLink RX0 41 "BridgeBells$Bridge" "passing" "I") (by decide +kernel)
  have w_2 := hts (.fieldLink RX0 24 "BridgeBells$Bridge" "code" "I") (by decide +kernel)
  have w_3 := hts (.fieldLink RX0 37 "BridgeBells$Bridge" "travellers" "LBridgeBells$Travellers;") (by decide +kernel)
  have w_4 := hts (.fieldLink RX0 47 "BridgeBells$Bridge" "latestWasBarge" "Z") (by decide +kernel)
  refine lv_aload_n hx hb dX0_servedNext_0 rfl (lv_at hl 0 rfl) ?_
  refine va_get (D := D) (ci := 0) (v := .int (b.1 6)) (C := RX0) (T := TX0) (N := 11) hx hb hts hinX0 hown hK hP 0 rfl rfl 8 (by decide) w_1 (fun _ h9 => h9) rfl dX0_servedNext_1 ?_
  refine lv_iconst (v := (-1 : Int32)) hx hb dX0_servedNext_4 (by decide) ?_
  refine lv_icmp_eq (tgt := 10) hx hb dX0_servedNext_5 (by decide) (fun c_1 => ?_) (fun c_1 => ?_)
  · refine lv_aload_n hx hb dX0_servedNext_10 rfl (lv_at hl 0 rfl) ?_
    refine va_get (D := D) (ci := 0) (v := .int (b.1 4)) (C := RX0) (T := TX0) (N := 11) hx hb hts hinX0 hown hK hP 0 rfl rfl 4 (by decide) w_2 (fun _ h9 => h9) rfl dX0_servedNext_11 ?_
    by_cases c_2 : (b.1 4) = (0 : Int32)
    · refine lv_tableIn (off := 30) (tgt := 44) hx hb dX0_servedNext_14 (by rw [c_2]; decide) (by rw [c_2]; decide) (by rw [c_2]; rfl) (by decide) ?_
      refine lv_aload_n hx hb dX0_servedNext_44 rfl (lv_at hl 0 rfl) ?_
      refine va_get (D := D) (ci := 0) (v := .ref (q 2)) (C := RX0) (T := TX0) (N := 11) hx hb hts hinX0 hown hK hP 0 rfl rfl 7 (by decide) w_3 (fun _ h9 => h9) rfl dX0_servedNext_45 ?_
      refine xk_calli ([cXB q b.1, cA I (q 1) 8 b.2.1]) (wB I q b) [2, 3, 4, 5, 6, 7, 8] [0, 1] [0, 1, 2, 3, 4, 5, 6, 7, 8] hP hD hS hA (va_runV (As := []) (rest := []) ⟨hx, hb, hml, hown, hts⟩ (c_X1_firstOfAll l D I q H.size b.2.2 ) (cwV 0 hts gX0_servedNext_X1_firstOfAll rfl rfl rfl (by decide +kernel) ⟨Nat.le_of_ble_eq_true rfl, Nat.le_of_ble_eq_true rfl⟩) (xk_preV (wc := wT I q b.2.2) (q0 := 2) (ci := 1) hN hP hK hD [2, 3, 4, 5, 6, 7, 8] rfl rfl rfl rfl) rfl rfl hl.1 rfl (lv_room (Nat.le_of_ble_eq_true rfl)) dX0_servedNext_48 ⟨Nat.le_of_ble_eq_true rfl, Nat.le_of_ble_eq_true rfl⟩) rfl rfl rfl (by decide) rfl rfl (fun H locs hP hD hS => ?_)
      exact xk_iret (wf := fun z : XBr => wB I q z) (u := b) (u1 := b) hx hb hr rfl hlocks hP hK hD hS (by unfold r_X0_servedNext; rw [if_pos c_1, if_pos c_2]) rfl dX0_servedNext_51
    by_cases c_3 : (b.1 4) = (1 : Int32)
    · refine lv_tableIn (off := 38) (tgt := 52) hx hb dX0_servedNext_14 (by rw [c_3]; decide) (by rw [c_3]; decide) (by rw [c_3]; rfl) (by decide) ?_
      refine lv_aload_n hx hb dX0_servedNext_52 rfl (lv_at hl 0 rfl) ?_
      refine va_get (D := D) (ci := 0) (v := .ref (q 2)) (C := RX0) (T := TX0) (N := 11) hx hb hts hinX0 hown hK hP 0 rfl rfl 7 (by decide) w_3 (fun _ h9 => h9) rfl dX0_servedNext_53 ?_
      refine xk_calli ([cXB q b.1, cA I (q 1) 8 b.2.1]) (wB I q b) [2, 3, 4, 5, 6, 7, 8] [0, 1] [0, 1, 2, 3, 4, 5, 6, 7, 8] hP hD hS hA (va_runV (As := []) (rest := []) ⟨hx, hb, hml, hown, hts⟩ (c_X1_firstBargeElseCart l D I q H.size b.2.2 ) (cwV 0 hts gX0_servedNext_X1_firstBargeElseCart rfl rfl rfl (by decide +kernel) ⟨Nat.le_of_ble_eq_true rfl, Nat.le_of_ble_eq_true rfl⟩) (xk_preV (wc := wT I q b.2.2) (q0 := 2) (ci := 1) hN hP hK hD [2, 3, 4, 5, 6, 7, 8] rfl rfl rfl rfl) rfl rfl hl.1 rfl (lv_room (Nat.le_of_ble_eq_true rfl)) dX0_servedNext_56 ⟨Nat.le_of_ble_eq_true rfl, Nat.le_of_ble_eq_true rfl⟩) rfl rfl rfl (by decide) rfl rfl (fun H locs hP hD hS => ?_)
      exact xk_iret (wf := fun z : XBr => wB I q z) (u := b) (u1 := b) hx hb hr rfl hlocks hP hK hD hS (by unfold r_X0_servedNext; rw [if_pos c_1, if_neg c_2, if_pos c_3]) rfl dX0_servedNext_59
    by_cases c_4 : (b.1 4) = (2 : Int32)
    · refine lv_tableIn (off := 46) (tgt := 60) hx hb dX0_servedNext_14 (by rw [c_4]; decide) (by rw [c_4]; decide) (by rw [c_4]; rfl) (by decide) ?_
      refine lv_aload_n hx hb dX0_servedNext_60 rfl (lv_at hl 0 rfl) ?_
      refine va_get (D := D) (ci := 0) (v := .ref (q 2)) (C := RX0) (T := TX0) (N := 11) hx hb hts hinX0 hown hK hP 0 rfl rfl 7 (by decide) w_3 (fun _ h9 => h9) rfl dX0_servedNext_61 ?_
      refine xk_calli ([cXB q b.1, cA I (q 1) 8 b.2.1]) (wB I q b) [2, 3, 4, 5, 6, 7, 8] [0, 1] [0, 1, 2, 3, 4, 5, 6, 7, 8] hP hD hS hA (va_runV (As := []) (rest := []) ⟨hx, hb, hml, hown, hts⟩ (c_X1_firstCartElseBarge l D I q H.size b.2.2 ) (cwV 0 hts gX0_servedNext_X1_firstCartElseBarge rfl rfl rfl (by decide +kernel) ⟨Nat.le_of_ble_eq_true rfl, Nat.le_of_ble_eq_true rfl⟩) (xk_preV (wc := wT I q b.2.2) (q0 := 2) (ci := 1) hN hP hK hD [2, 3, 4, 5, 6, 7, 8] rfl rfl rfl rfl) rfl rfl hl.1 rfl (lv_room (Nat.le_of_ble_eq_true rfl)) dX0_servedNext_64 ⟨Nat.le_of_ble_eq_true rfl, Nat.le_of_ble_eq_true rfl⟩) rfl rfl rfl (by decide) rfl rfl (fun H locs hP hD hS => ?_)
      exact xk_iret (wf := fun z : XBr => wB I q z) (u := b) (u1 := b) hx hb hr rfl hlocks hP hK hD hS (by unfold r_X0_servedNext; rw [if_pos c_1, if_neg c_2, if_neg c_3, if_pos c_4]) rfl dX0_servedNext_67
    by_cases c_5 : (b.1 4) = (3 : Int32)
    · refine lv_tableIn (off := 54) (tgt := 68) hx hb dX0_servedNext_14 (by rw [c_5]; decide) (by rw [c_5]; decide) (by rw [c_5]; rfl) (by decide) ?_
      refine lv_aload_n hx hb dX0_servedNext_68 rfl (lv_at hl 0 rfl) ?_
      refine va_get (D := D) (ci := 0) (v := .int (b.1 8)) (C := RX0) (T := TX0) (N := 11) hx hb hts hinX0 hown hK hP 0 rfl rfl 10 (by decide) w_4 (fun _ h9 => h9) rfl dX0_servedNext_69 ?_
      refine lv_if_eq (tgt := 85) hx hb dX0_servedNext_72 (by decide) (fun c_6 => ?_) (fun c_6 => ?_)
      · refine lv_aload_n hx hb dX0_servedNext_85 rfl (lv_at hl 0 rfl) ?_
        refine va_get (D := D) (ci := 0) (v := .ref (q 2)) (C := RX0) (T := TX0) (N := 11) hx hb hts hinX0 hown hK hP 0 rfl rfl 7 (by decide) w_3 (fun _ h9 => h9) rfl dX0_servedNext_86 ?_
        refine xk_calli ([cXB q b.1, cA I (q 1) 8 b.2.1]) (wB I q b) [2, 3, 4, 5, 6, 7, 8] [0, 1] [0, 1, 2, 3, 4, 5, 6, 7, 8] hP hD hS hA (va_runV (As := []) (rest := []) ⟨hx, hb, hml, hown, hts⟩ (c_X1_firstBargeElseCart l D I q H.size b.2.2 ) (cwV 0 hts gX0_servedNext_X1_firstBargeElseCart rfl rfl rfl (by decide +kernel) ⟨Nat.le_of_ble_eq_true rfl, Nat.le_of_ble_eq_true rfl⟩) (xk_preV (wc := wT I q b.2.2) (q0 := 2) (ci := 1) hN hP hK hD [2, 3, 4, 5, 6, 7, 8] rfl rfl rfl rfl) rfl rfl hl.1 rfl (lv_room (Nat.le_of_ble_eq_true rfl)) dX0_servedNext_89 ⟨Nat.le_of_ble_eq_true rfl, Nat.le_of_ble_eq_true rfl⟩) rfl rfl rfl (by decide) rfl rfl (fun H locs hP hD hS => ?_)
        exact xk_iret (wf := fun z : XBr => wB I q z) (u := b) (u1 := b) hx hb hr rfl hlocks hP hK hD hS (by unfold r_X0_servedNext; rw [if_pos c_1, if_neg c_2, if_neg c_3, if_neg c_4, if_pos c_5, if_pos c_6]) rfl dX0_servedNext_92
      · refine lv_aload_n hx hb dX0_servedNext_75 rfl (lv_at hl 0 rfl) ?_
        refine va_get (D := D) (ci := 0) (v := .ref (q 2)) (C := RX0) (T := TX0) (N := 11) hx hb hts hinX0 hown hK hP 0 rfl rfl 7 (by decide) w_3 (fun _ h9 => h9) rfl dX0_servedNext_76 ?_
        refine xk_calli ([cXB q b.1, cA I (q 1) 8 b.2.1]) (wB I q b) [2, 3, 4, 5, 6, 7, 8] [0, 1] [0, 1, 2, 3, 4, 5, 6, 7, 8] hP hD hS hA (va_runV (As := []) (rest := []) ⟨hx, hb, hml, hown, hts⟩ (c_X1_firstCartElseBarge l D I q H.size b.2.2 ) (cwV 0 hts gX0_servedNext_X1_firstCartElseBarge rfl rfl rfl (by decide +kernel) ⟨Nat.le_of_ble_eq_true rfl, Nat.le_of_ble_eq_true rfl⟩) (xk_preV (wc := wT I q b.2.2) (q0 := 2) (ci := 1) hN hP hK hD [2, 3, 4, 5, 6, 7, 8] rfl rfl rfl rfl) rfl rfl hl.1 rfl (lv_room (Nat.le_of_ble_eq_true rfl)) dX0_servedNext_79 ⟨Nat.le_of_ble_eq_true rfl, Nat.le_of_ble_eq_true rfl⟩) rfl rfl rfl (by decide) rfl rfl (fun H locs hP hD hS => ?_)
        refine lv_goto (tgt := 92) hx hb dX0_servedNext_82 (by decide) ?_
        exact xk_iret (wf := fun z : XBr => wB I q z) (u := b) (u1 := b) hx hb hr rfl hlocks hP hK hD hS (by unfold r_X0_servedNext; rw [if_pos c_1, if_neg c_2, if_neg c_3, if_neg c_4, if_pos c_5, if_neg c_6]) rfl dX0_servedNext_92
    have t_c_2 : (b.1 4).toInt < 0 ∨ 3 < (b.1 4).toInt := by
      have g_c_2 := lv_neT c_2 (a := 0) (by decide)
      have g_c_3 := lv_neT c_3 (a := 1) (by decide)
      have g_c_4 := lv_neT c_4 (a := 2) (by decide)
      have g_c_5 := lv_neT c_5 (a := 3) (by decide)
      omega
    refine lv_tableOut (tgt := 93) hx hb dX0_servedNext_14 t_c_2 (by decide) ?_
    refine lv_iconst (v := (-1 : Int32)) hx hb dX0_servedNext_93 (by decide) ?_
    exact xk_iret (wf := fun z : XBr => wB I q z) (u := b) (u1 := b) hx hb hr rfl hlocks hP hK hD hS (by unfold r_X0_servedNext; rw [if_pos c_1, if_neg c_2, if_neg c_3, if_neg c_4, if_neg c_5]) rfl dX0_servedNext_94
  · refine lv_iconst (v := (-1 : Int32)) hx hb dX0_servedNext_8 (by decide) ?_
    exact xk_iret (wf := fun z : XBr => wB I q z) (u := b) (u1 := b) hx hb hr rfl hlocks hP hK hD hS (by unfold r_X0_servedNext; rw [if_neg c_1]) rfl dX0_servedNext_9

def g1_X0_serve (b : XBr) (k : Int32) : XT := s_X1_endWait b.2.2 k (1 : Int32) (b.1 0)
def g2_X0_serve (b : XBr) (k : Int32) : XT := s_X1_endWait b.2.2 k (1 : Int32) (b.1 0)
def s_X0_serve (b : XBr) (k : Int32) : XBr :=
  if (r_X1_has b.2.2 k) = 0 then
    b
  else
    if ((b.2.2.2 0) k.toNatClampNeg) = (1 : Int32) then
      if (b.1 1) = (60 : Int32) then
        (xs (xs (xs b.1 6 k) 7 ((b.2.2.2 1) k.toNatClampNeg)) 8 (1 : Int32), b.2.1, (g2_X0_serve b k))
      else
        (xs b.1 1 (imn (60 : Int32) ((b.1 1) + (r_X0_speedTowards b (1 : Int32)))), b.2)
    else
      if (b.1 1) = (0 : Int32) then
        (xs (xs (xs b.1 6 k) 7 ((b.2.2.2 1) k.toNatClampNeg)) 8 (0 : Int32), b.2.1, (g1_X0_serve b k))
      else
        (xs b.1 1 (imx (0 : Int32) ((b.1 1) - (r_X0_speedTowards b (0 : Int32)))), b.2)
set_option maxHeartbeats 800000 in
set_option maxRecDepth 100000 in
theorem c_X0_serve (l : Launch) (D : va_G) (I : ClassId) (q : Nat → Nat) (sz : Nat) (b : XBr) (k : Int32) (hn : nOk (b.2.2.1 0)) : xMv l D [(I, .int)] yX0_serve wsX0_serve { frames := 2, cells := 0, slots := 0, locals := 44 } [.ref (q 0), .int k] sz (wB I q b) (wB I q (s_X0_serve b k)) 0 0 := by
  refine xk_start (cc := cX0_serve) (maxL := 3) (ret := none) (Qf := fun A => xQv D [(I, .int)] A (wB I q (s_X0_serve b k))) (by decide) rfl (Nat.le_of_ble_eq_true rfl) ?_
  intro p e s m below meth c A H ls hst hAe hsz hl
  obtain ⟨hx, hb, hr, hts, hown, hlocks, hml, hin, hN, hK, hP, hD, hA, hS⟩ := hst
  have hl : lv_has ls 3 [(0, .ref (q 0)), (1, .int k)] := hl
  have hP : va_P D vwCl (wB I q b) H := hP
  have hinX0 : ∀ w ∈ u_ws RX0 TX0 11, w ∈ wsX0_serve := by decide +kernel
  have hinX1 : ∀ w ∈ u_ws RX1 TX1 12, w ∈ wsX0_serve := by decide +kernel
  have w_1 := hts (.fieldLink RX0 37 "BridgeBells$Bridge" "travellers" "LBridgeBells$Travellers;") (by decide +kernel)
  have w_2 := hts (.fieldLink RX0 103 "BridgeBells$Travellers" "barge" "[I") (by decide +kernel)
  have w_3 := hts (.fieldLink RX0 15 "BridgeBells$Bridge" "angle" "I") (by decide +kernel)
  have w_4 := hts (.methodLink RX0 84 Lib.Math.max.name) (by decide +kernel)
  have w_5 := hts (.static Lib.Math.max.name) (by decide +kernel)
  have w_6 := hts (.initialized "java/lang/Math") (by decide +kernel)
  have w_7 := hts (.code Lib.Math.max.name Lib.Math.max.code 2 (some .int)) (by decide +kernel)
  have w_8 := hts (.fieldLink RX0 41 "BridgeBells$Bridge" "passing" "I") (by decide +kernel)
  have w_9 := hts (.fieldLink RX0 106 "BridgeBells$Travellers" "needs" "[I") (by decide +kernel)
  have w_10 := hts (.fieldLink RX0 44 "BridgeBells$Bridge" "toGo" "I") (by decide +kernel)
  have w_11 := hts (.fieldLink RX0 47 "BridgeBells$Bridge" "latestWasBarge" "Z") (by decide +kernel)
  have w_12 := hts (.fieldLink RX0 9 "BridgeBells$Bridge" "minute" "I") (by decide +kernel)
  have w_13 := hts (.methodLink RX0 117 Lib.Math.min.name) (by decide +kernel)
  have w_14 := hts (.static Lib.Math.min.name) (by decide +kernel)
  have w_15 := hts (.code Lib.Math.min.name Lib.Math.min.code 2 (some .int)) (by decide +kernel)
  refine lv_aload_n hx hb dX0_serve_0 rfl (lv_at hl 0 rfl) ?_
  refine va_get (D := D) (ci := 0) (v := .ref (q 2)) (C := RX0) (T := TX0) (N := 11) hx hb hts hinX0 hown hK hP 0 rfl rfl 7 (by decide) w_1 (fun _ h9 => h9) rfl dX0_serve_1 ?_
  refine lv_iload_n hx hb dX0_serve_4 rfl (lv_at hl 1 rfl) ?_
  refine xk_calli ([cXB q b.1, cA I (q 1) 8 b.2.1]) (wB I q b) [2, 3, 4, 5, 6, 7, 8] [0, 1] [0, 1, 2, 3, 4, 5, 6, 7, 8] hP hD hS hA (va_runV (As := [.int k]) (rest := []) ⟨hx, hb, hml, hown, hts⟩ (c_X1_has l D I q H.size b.2.2 k ) (cwV 1 hts gX0_serve_X1_has rfl rfl rfl (by decide +kernel) ⟨Nat.le_of_ble_eq_true rfl, Nat.le_of_ble_eq_true rfl⟩) (xk_preV (wc := wT I q b.2.2) (q0 := 2) (ci := 1) hN hP hK hD [2, 3, 4, 5, 6, 7, 8] rfl rfl rfl rfl) rfl rfl hl.1 rfl (lv_room (Nat.le_of_ble_eq_true rfl)) dX0_serve_5 ⟨Nat.le_of_ble_eq_true rfl, Nat.le_of_ble_eq_true rfl⟩) rfl rfl rfl (by decide) rfl rfl (fun H locs hP hD hS => ?_)
  refine lv_if_ne (tgt := 12) hx hb dX0_serve_8 (by decide) (fun c_1 => ?_) (fun c_1 => ?_)
  · refine lv_aload_n hx hb dX0_serve_12 rfl (lv_at hl 0 rfl) ?_
    refine va_get (D := D) (ci := 0) (v := .ref (q 2)) (C := RX0) (T := TX0) (N := 11) hx hb hts hinX0 hown hK hP 0 rfl rfl 7 (by decide) w_1 (fun _ h9 => h9) rfl dX0_serve_13 ?_
    refine va_get (D := D) (ci := 1) (v := .ref (q 3)) (C := RX1) (T := TX1) (N := 12) hx hb hts hinX1 hown hK hP 2 rfl rfl 4 (by decide) w_2 (fun _ h9 => h9) rfl dX0_serve_16 ?_
    refine lv_iload_n hx hb dX0_serve_19 rfl (lv_at hl 1 rfl) ?_
    refine va_iald (f := (b.2.2.2 0)) hx hb hK hP 3 0 rfl rfl (show vp_in k 40 from (has_v hn c_1)) dX0_serve_20 ?_
    refine lv_iconst (v := (1 : Int32)) hx hb dX0_serve_21 (by decide) ?_
    refine lv_icmp_ne (tgt := 29) hx hb dX0_serve_22 (by decide) (fun c_2 => ?_) (fun c_2 => ?_)
    · refine lv_iconst (v := (0 : Int32)) hx hb dX0_serve_29 (by decide) ?_
      refine lv_istore_n (lv' := [(2, .int (0 : Int32)), (0, .ref (q 0)), (1, .int k)]) hx hb dX0_serve_30 rfl hl (by decide) rfl (fun ls hl => ?_)
      refine lv_aload_n hx hb dX0_serve_31 rfl (lv_at hl 1 rfl) ?_
      refine va_get (D := D) (ci := 0) (v := .int (b.1 1)) (C := RX0) (T := TX0) (N := 11) hx hb hts hinX0 hown hK hP 0 rfl rfl 1 (by decide) w_3 (fun _ h9 => h9) rfl dX0_serve_32 ?_
      refine lv_iload_n hx hb dX0_serve_35 rfl (lv_at hl 0 rfl) ?_
      refine lv_if_eq (tgt := 44) hx hb dX0_serve_36 (by decide) (fun c_3 => ?_) (fun c_3 => ?_)
      · refine lv_iconst (v := (0 : Int32)) hx hb dX0_serve_44 (by decide) ?_
        refine lv_icmp_ne (tgt := 87) hx hb dX0_serve_45 (by decide) (fun c_4 => ?_) (fun c_4 => ?_)
        · refine lv_iload_n hx hb dX0_serve_87 rfl (lv_at hl 0 rfl) ?_
          refine lv_if_eq (tgt := 113) hx hb dX0_serve_88 (by decide) (fun c_5 => ?_) (fun c_5 => ?_)
          · refine lv_aload_n hx hb dX0_serve_113 rfl (lv_at hl 1 rfl) ?_
            refine lv_iconst (v := (0 : Int32)) hx hb dX0_serve_114 (by decide) ?_
            refine lv_aload_n hx hb dX0_serve_115 rfl (lv_at hl 1 rfl) ?_
            refine va_get (D := D) (ci := 0) (v := .int (b.1 1)) (C := RX0) (T := TX0) (N := 11) hx hb hts hinX0 hown hK hP 0 rfl rfl 1 (by decide) w_3 (fun _ h9 => h9) rfl dX0_serve_116 ?_
            refine lv_aload_n hx hb dX0_serve_119 rfl (lv_at hl 1 rfl) ?_
            refine lv_iconst (v := (0 : Int32)) hx hb dX0_serve_120 (by decide) ?_
            refine xk_calli ([]) (wB I q b) [0, 1, 2, 3, 4, 5, 6, 7, 8] [] [0, 1, 2, 3, 4, 5, 6, 7, 8] hP hD hS hA (va_runV (As := [.int (0 : Int32)]) (rest := [.int (b.1 1), .int (0 : Int32), .ref (q 0)]) ⟨hx, hb, hml, hown, hts⟩ (c_X0_speedTowards l D I q H.size b (0 : Int32) ) (cwV 1 hts gX0_serve_X0_speedTowards rfl rfl rfl (by decide +kernel) ⟨Nat.le_of_ble_eq_true rfl, Nat.le_of_ble_eq_true rfl⟩) (xk_preV (wc := wB I q b) (q0 := 0) (ci := 0) hN hP hK hD [0, 1, 2, 3, 4, 5, 6, 7, 8] rfl rfl rfl rfl) rfl rfl hl.1 rfl (lv_room (Nat.le_of_ble_eq_true rfl)) dX0_serve_121 ⟨Nat.le_of_ble_eq_true rfl, Nat.le_of_ble_eq_true rfl⟩) rfl rfl rfl (by decide) rfl rfl (fun H locs hP hD hS => ?_)
            refine lv_isub hx hb dX0_serve_124 ?_
            refine va_mmax hx hb (hml.trans hl.1.symm) hown w_4 w_5 w_6 w_7 (Nat.le_of_ble_eq_true rfl) (Nat.le_of_ble_eq_true rfl) (Nat.le_of_ble_eq_true rfl) (Nat.le_of_ble_eq_true rfl) dX0_serve_125 ?_
            refine W.eq (g2 := F0 m 128 ls [.int (imx (0 : Int32) ((b.1 1) - (r_X0_speedTowards b (0 : Int32)))), .ref (q 0)]) rfl ?_
            refine va_put (D := D) (ci := 0) (v := .int (imx (0 : Int32) ((b.1 1) - (r_X0_speedTowards b (0 : Int32))))) (ty := tyX0 1) (C := RX0) (T := TX0) (N := 11) hx hb hts hinX0 tyX0 tyX0_ok nmX0 hown hK hP hD hS 0 rfl rfl 1 (by decide) w_3 (fun _ h9 => h9) rfl (tyX0_ok 1 (by decide)) rfl rfl (Nat.le_of_ble_eq_true rfl) dX0_serve_128 (fun H locs hP hD hS => ?_)
            have hP : va_P D vwCl (wB I q (xs b.1 1 (imx (0 : Int32) ((b.1 1) - (r_X0_speedTowards b (0 : Int32)))), b.2)) H := hP
            have hD : va_D A (wB I q (xs b.1 1 (imx (0 : Int32) ((b.1 1) - (r_X0_speedTowards b (0 : Int32)))), b.2)) := hD
            exact xk_vret (wf := fun z : XBr => wB I q z) (u := (xs b.1 1 (imx (0 : Int32) ((b.1 1) - (r_X0_speedTowards b (0 : Int32)))), b.2)) (u1 := (s_X0_serve b k)) hx hb hr hlocks hP hK hD hS (by unfold s_X0_serve; rw [if_neg c_1, if_neg c_2, if_neg c_4]) dX0_serve_131
          · exact absurd c_5 (by decide)
        · refine lv_aload_n hx hb dX0_serve_48 rfl (lv_at hl 1 rfl) ?_
          refine lv_iload_n hx hb dX0_serve_49 rfl (lv_at hl 2 rfl) ?_
          refine va_put (D := D) (ci := 0) (v := .int k) (ty := tyX0 8) (C := RX0) (T := TX0) (N := 11) hx hb hts hinX0 tyX0 tyX0_ok nmX0 hown hK hP hD hS 0 rfl rfl 8 (by decide) w_8 (fun _ h9 => h9) rfl (tyX0_ok 8 (by decide)) rfl rfl (Nat.le_of_ble_eq_true rfl) dX0_serve_50 (fun H locs hP hD hS => ?_)
          have hP : va_P D vwCl (wB I q (xs b.1 6 k, b.2)) H := hP
          have hD : va_D A (wB I q (xs b.1 6 k, b.2)) := hD
          refine lv_aload_n hx hb dX0_serve_53 rfl (lv_at hl 1 rfl) ?_
          refine lv_aload_n hx hb dX0_serve_54 rfl (lv_at hl 1 rfl) ?_
          refine va_get (D := D) (ci := 0) (v := .ref (q 2)) (C := RX0) (T := TX0) (N := 11) hx hb hts hinX0 hown hK hP 0 rfl rfl 7 (by decide) w_1 (fun _ h9 => h9) rfl dX0_serve_55 ?_
          refine va_get (D := D) (ci := 1) (v := .ref (q 4)) (C := RX1) (T := TX1) (N := 12) hx hb hts hinX1 hown hK hP 2 rfl rfl 5 (by decide) w_9 (fun _ h9 => h9) rfl dX0_serve_58 ?_
          refine lv_iload_n hx hb dX0_serve_61 rfl (lv_at hl 2 rfl) ?_
          refine va_iald (f := (b.2.2.2 1)) hx hb hK hP 4 0 rfl rfl (show vp_in k 40 from (has_v hn c_1)) dX0_serve_62 ?_
          refine va_put (D := D) (ci := 0) (v := .int ((b.2.2.2 1) k.toNatClampNeg)) (ty := tyX0 9) (C := RX0) (T := TX0) (N := 11) hx hb hts hinX0 tyX0 tyX0_ok nmX0 hown hK hP hD hS 0 rfl rfl 9 (by decide) w_10 (fun _ h9 => h9) rfl (tyX0_ok 9 (by decide)) rfl rfl (Nat.le_of_ble_eq_true rfl) dX0_serve_63 (fun H locs hP hD hS => ?_)
          have hP : va_P D vwCl (wB I q (xs (xs b.1 6 k) 7 ((b.2.2.2 1) k.toNatClampNeg), b.2)) H := hP
          have hD : va_D A (wB I q (xs (xs b.1 6 k) 7 ((b.2.2.2 1) k.toNatClampNeg), b.2)) := hD
          refine lv_aload_n hx hb dX0_serve_66 rfl (lv_at hl 1 rfl) ?_
          refine lv_iload_n hx hb dX0_serve_67 rfl (lv_at hl 0 rfl) ?_
          refine va_put (D := D) (ci := 0) (v := .int (0 : Int32)) (ty := tyX0 10) (C := RX0) (T := TX0) (N := 11) hx hb hts hinX0 tyX0 tyX0_ok nmX0 hown hK hP hD hS 0 rfl rfl 10 (by decide) w_11 (fun _ h9 => h9) rfl (tyX0_ok 10 (by decide)) rfl rfl (Nat.le_of_ble_eq_true rfl) dX0_serve_68 (fun H locs hP hD hS => ?_)
          have hP : va_P D vwCl (wB I q (xs (xs (xs b.1 6 k) 7 ((b.2.2.2 1) k.toNatClampNeg)) 8 (0 : Int32), b.2)) H := hP
          have hD : va_D A (wB I q (xs (xs (xs b.1 6 k) 7 ((b.2.2.2 1) k.toNatClampNeg)) 8 (0 : Int32), b.2)) := hD
          refine lv_aload_n hx hb dX0_serve_71 rfl (lv_at hl 1 rfl) ?_
          refine va_get (D := D) (ci := 0) (v := .ref (q 2)) (C := RX0) (T := TX0) (N := 11) hx hb hts hinX0 hown hK hP 0 rfl rfl 7 (by decide) w_1 (fun _ h9 => h9) rfl dX0_serve_72 ?_
          refine lv_iload_n hx hb dX0_serve_75 rfl (lv_at hl 2 rfl) ?_
          refine lv_iconst (v := (1 : Int32)) hx hb dX0_serve_76 (by decide) ?_
          refine lv_aload_n hx hb dX0_serve_77 rfl (lv_at hl 1 rfl) ?_
          refine va_get (D := D) (ci := 0) (v := .int (b.1 0)) (C := RX0) (T := TX0) (N := 11) hx hb hts hinX0 hown hK hP 0 rfl rfl 0 (by decide) w_12 (fun _ h9 => h9) rfl dX0_serve_78 ?_
          refine xk_callv ([cXB q (xs (xs (xs b.1 6 k) 7 ((b.2.2.2 1) k.toNatClampNeg)) 8 (0 : Int32)), cA I (q 1) 8 b.2.1]) (wB I q (xs (xs (xs b.1 6 k) 7 ((b.2.2.2 1) k.toNatClampNeg)) 8 (0 : Int32), b.2.1, (s_X1_endWait b.2.2 k (1 : Int32) (b.1 0)))) [2, 3, 4, 5, 6, 7, 8] [0, 1] [0, 1, 2, 3, 4, 5, 6, 7, 8] hP hD hS hA (va_runV (As := [.int k, .int (1 : Int32), .int (b.1 0)]) (rest := []) ⟨hx, hb, hml, hown, hts⟩ (c_X1_endWait l D I q H.size b.2.2 k (1 : Int32) (b.1 0) (has_v hn c_1) hn) (cwV 3 hts gX0_serve_X1_endWait rfl rfl rfl (by decide +kernel) ⟨Nat.le_of_ble_eq_true rfl, Nat.le_of_ble_eq_true rfl⟩) (xk_preV (wc := wT I q b.2.2) (q0 := 2) (ci := 1) hN hP hK hD [2, 3, 4, 5, 6, 7, 8] rfl rfl rfl rfl) rfl rfl hl.1 rfl (lv_room (Nat.le_of_ble_eq_true rfl)) dX0_serve_81 ⟨Nat.le_of_ble_eq_true rfl, Nat.le_of_ble_eq_true rfl⟩) rfl rfl rfl (by decide) rfl rfl (fun H locs hP hD hS => ?_)
          generalize hz_1 : s_X1_endWait b.2.2 k (1 : Int32) (b.1 0) = z_1 at hP hD
          have hg_1 : g1_X0_serve b k = z_1 := by rw [← hz_1]; rfl
          refine lv_goto (tgt := 131) hx hb dX0_serve_84 (by decide) ?_
          exact xk_vret (wf := fun z : XBr => wB I q z) (u := (xs (xs (xs b.1 6 k) 7 ((b.2.2.2 1) k.toNatClampNeg)) 8 (0 : Int32), b.2.1, z_1)) (u1 := (s_X0_serve b k)) hx hb hr hlocks hP hK hD hS (by subst hg_1; unfold s_X0_serve; rw [if_neg c_1, if_neg c_2, if_pos c_4]) dX0_serve_131
      · exact absurd c_3 (by decide)
    · refine lv_iconst (v := (1 : Int32)) hx hb dX0_serve_25 (by decide) ?_
      refine lv_goto (tgt := 30) hx hb dX0_serve_26 (by decide) ?_
      refine lv_istore_n (lv' := [(2, .int (1 : Int32)), (0, .ref (q 0)), (1, .int k)]) hx hb dX0_serve_30 rfl hl (by decide) rfl (fun ls hl => ?_)
      refine lv_aload_n hx hb dX0_serve_31 rfl (lv_at hl 1 rfl) ?_
      refine va_get (D := D) (ci := 0) (v := .int (b.1 1)) (C := RX0) (T := TX0) (N := 11) hx hb hts hinX0 hown hK hP 0 rfl rfl 1 (by decide) w_3 (fun _ h9 => h9) rfl dX0_serve_32 ?_
      refine lv_iload_n hx hb dX0_serve_35 rfl (lv_at hl 0 rfl) ?_
      refine lv_if_eq (tgt := 44) hx hb dX0_serve_36 (by decide) (fun c_6 => ?_) (fun c_6 => ?_)
      · exact absurd c_6 (by decide)
      · refine lv_bipush (v := (60 : Int32)) hx hb dX0_serve_39 (by decide) ?_
        refine lv_goto (tgt := 45) hx hb dX0_serve_41 (by decide) ?_
        refine lv_icmp_ne (tgt := 87) hx hb dX0_serve_45 (by decide) (fun c_7 => ?_) (fun c_7 => ?_)
        · refine lv_iload_n hx hb dX0_serve_87 rfl (lv_at hl 0 rfl) ?_
          refine lv_if_eq (tgt := 113) hx hb dX0_serve_88 (by decide) (fun c_8 => ?_) (fun c_8 => ?_)
          · exact absurd c_8 (by decide)
          · refine lv_aload_n hx hb dX0_serve_91 rfl (lv_at hl 1 rfl) ?_
            refine lv_bipush (v := (60 : Int32)) hx hb dX0_serve_92 (by decide) ?_
            refine lv_aload_n hx hb dX0_serve_94 rfl (lv_at hl 1 rfl) ?_
            refine va_get (D := D) (ci := 0) (v := .int (b.1 1)) (C := RX0) (T := TX0) (N := 11) hx hb hts hinX0 hown hK hP 0 rfl rfl 1 (by decide) w_3 (fun _ h9 => h9) rfl dX0_serve_95 ?_
            refine lv_aload_n hx hb dX0_serve_98 rfl (lv_at hl 1 rfl) ?_
            refine lv_iconst (v := (1 : Int32)) hx hb dX0_serve_99 (by decide) ?_
            refine xk_calli ([]) (wB I q b) [0, 1, 2, 3, 4, 5, 6, 7, 8] [] [0, 1, 2, 3, 4, 5, 6, 7, 8] hP hD hS hA (va_runV (As := [.int (1 : Int32)]) (rest := [.int (b.1 1), .int (60 : Int32), .ref (q 0)]) ⟨hx, hb, hml, hown, hts⟩ (c_X0_speedTowards l D I q H.size b (1 : Int32) ) (cwV 1 hts gX0_serve_X0_speedTowards rfl rfl rfl (by decide +kernel) ⟨Nat.le_of_ble_eq_true rfl, Nat.le_of_ble_eq_true rfl⟩) (xk_preV (wc := wB I q b) (q0 := 0) (ci := 0) hN hP hK hD [0, 1, 2, 3, 4, 5, 6, 7, 8] rfl rfl rfl rfl) rfl rfl hl.1 rfl (lv_room (Nat.le_of_ble_eq_true rfl)) dX0_serve_100 ⟨Nat.le_of_ble_eq_true rfl, Nat.le_of_ble_eq_true rfl⟩) rfl rfl rfl (by decide) rfl rfl (fun H locs hP hD hS => ?_)
            refine lv_iadd hx hb dX0_serve_103 ?_
            refine va_mmin hx hb (hml.trans hl.1.symm) hown w_13 w_14 w_6 w_15 (Nat.le_of_ble_eq_true rfl) (Nat.le_of_ble_eq_true rfl) (Nat.le_of_ble_eq_true rfl) (Nat.le_of_ble_eq_true rfl) dX0_serve_104 ?_
            refine W.eq (g2 := F0 m 107 ls [.int (imn (60 : Int32) ((b.1 1) + (r_X0_speedTowards b (1 : Int32)))), .ref (q 0)]) rfl ?_
            refine va_put (D := D) (ci := 0) (v := .int (imn (60 : Int32) ((b.1 1) + (r_X0_speedTowards b (1 : Int32))))) (ty := tyX0 1) (C := RX0) (T := TX0) (N := 11) hx hb hts hinX0 tyX0 tyX0_ok nmX0 hown hK hP hD hS 0 rfl rfl 1 (by decide) w_3 (fun _ h9 => h9) rfl (tyX0_ok 1 (by decide)) rfl rfl (Nat.le_of_ble_eq_true rfl) dX0_serve_107 (fun H locs hP hD hS => ?_)
            have hP : va_P D vwCl (wB I q (xs b.1 1 (imn (60 : Int32) ((b.1 1) + (r_X0_speedTowards b (1 : Int32)))), b.2)) H := hP
            have hD : va_D A (wB I q (xs b.1 1 (imn (60 : Int32) ((b.1 1) + (r_X0_speedTowards b (1 : Int32)))), b.2)) := hD
            refine lv_goto (tgt := 131) hx hb dX0_serve_110 (by decide) ?_
            exact xk_vret (wf := fun z : XBr => wB I q z) (u := (xs b.1 1 (imn (60 : Int32) ((b.1 1) + (r_X0_speedTowards b (1 : Int32)))), b.2)) (u1 := (s_X0_serve b k)) hx hb hr hlocks hP hK hD hS (by unfold s_X0_serve; rw [if_neg c_1, if_pos c_2, if_neg c_7]) dX0_serve_131
        · refine lv_aload_n hx hb dX0_serve_48 rfl (lv_at hl 1 rfl) ?_
          refine lv_iload_n hx hb dX0_serve_49 rfl (lv_at hl 2 rfl) ?_
          refine va_put (D := D) (ci := 0) (v := .int k) (ty := tyX0 8) (C := RX0) (T := TX0) (N := 11) hx hb hts hinX0 tyX0 tyX0_ok nmX0 hown hK hP hD hS 0 rfl rfl 8 (by decide) w_8 (fun _ h9 => h9) rfl (tyX0_ok 8 (by decide)) rfl rfl (Nat.le_of_ble_eq_true rfl) dX0_serve_50 (fun H locs hP hD hS => ?_)
          have hP : va_P D vwCl (wB I q (xs b.1 6 k, b.2)) H := hP
          have hD : va_D A (wB I q (xs b.1 6 k, b.2)) := hD
          refine lv_aload_n hx hb dX0_serve_53 rfl (lv_at hl 1 rfl) ?_
          refine lv_aload_n hx hb dX0_serve_54 rfl (lv_at hl 1 rfl) ?_
          refine va_get (D := D) (ci := 0) (v := .ref (q 2)) (C := RX0) (T := TX0) (N := 11) hx hb hts hinX0 hown hK hP 0 rfl rfl 7 (by decide) w_1 (fun _ h9 => h9) rfl dX0_serve_55 ?_
          refine va_get (D := D) (ci := 1) (v := .ref (q 4)) (C := RX1) (T := TX1) (N := 12) hx hb hts hinX1 hown hK hP 2 rfl rfl 5 (by decide) w_9 (fun _ h9 => h9) rfl dX0_serve_58 ?_
          refine lv_iload_n hx hb dX0_serve_61 rfl (lv_at hl 2 rfl) ?_
          refine va_iald (f := (b.2.2.2 1)) hx hb hK hP 4 0 rfl rfl (show vp_in k 40 from (has_v hn c_1)) dX0_serve_62 ?_
          refine va_put (D := D) (ci := 0) (v := .int ((b.2.2.2 1) k.toNatClampNeg)) (ty := tyX0 9) (C := RX0) (T := TX0) (N := 11) hx hb hts hinX0 tyX0 tyX0_ok nmX0 hown hK hP hD hS 0 rfl rfl 9 (by decide) w_10 (fun _ h9 => h9) rfl (tyX0_ok 9 (by decide)) rfl rfl (Nat.le_of_ble_eq_true rfl) dX0_serve_63 (fun H locs hP hD hS => ?_)
          have hP : va_P D vwCl (wB I q (xs (xs b.1 6 k) 7 ((b.2.2.2 1) k.toNatClampNeg), b.2)) H := hP
          have hD : va_D A (wB I q (xs (xs b.1 6 k) 7 ((b.2.2.2 1) k.toNatClampNeg), b.2)) := hD
          refine lv_aload_n hx hb dX0_serve_66 rfl (lv_at hl 1 rfl) ?_
          refine lv_iload_n hx hb dX0_serve_67 rfl (lv_at hl 0 rfl) ?_
          refine va_put (D := D) (ci := 0) (v := .int (1 : Int32)) (ty := tyX0 10) (C := RX0) (T := TX0) (N := 11) hx hb hts hinX0 tyX0 tyX0_ok nmX0 hown hK hP hD hS 0 rfl rfl 10 (by decide) w_11 (fun _ h9 => h9) rfl (tyX0_ok 10 (by decide)) rfl rfl (Nat.le_of_ble_eq_true rfl) dX0_serve_68 (fun H locs hP hD hS => ?_)
          have hP : va_P D vwCl (wB I q (xs (xs (xs b.1 6 k) 7 ((b.2.2.2 1) k.toNatClampNeg)) 8 (1 : Int32), b.2)) H := hP
          have hD : va_D A (wB I q (xs (xs (xs b.1 6 k) 7 ((b.2.2.2 1) k.toNatClampNeg)) 8 (1 : Int32), b.2)) := hD
          refine lv_aload_n hx hb dX0_serve_71 rfl (lv_at hl 1 rfl) ?_
          refine va_get (D := D) (ci := 0) (v := .ref (q 2)) (C := RX0) (T := TX0) (N := 11) hx hb hts hinX0 hown hK hP 0 rfl rfl 7 (by decide) w_1 (fun _ h9 => h9) rfl dX0_serve_72 ?_
          refine lv_iload_n hx hb dX0_serve_75 rfl (lv_at hl 2 rfl) ?_
          refine lv_iconst (v := (1 : Int32)) hx hb dX0_serve_76 (by decide) ?_
          refine lv_aload_n hx hb dX0_serve_77 rfl (lv_at hl 1 rfl) ?_
          refine va_get (D := D) (ci := 0) (v := .int (b.1 0)) (C := RX0) (T := TX0) (N := 11) hx hb hts hinX0 hown hK hP 0 rfl rfl 0 (by decide) w_12 (fun _ h9 => h9) rfl dX0_serve_78 ?_
          refine xk_callv ([cXB q (xs (xs (xs b.1 6 k) 7 ((b.2.2.2 1) k.toNatClampNeg)) 8 (1 : Int32)), cA I (q 1) 8 b.2.1]) (wB I q (xs (xs (xs b.1 6 k) 7 ((b.2.2.2 1) k.toNatClampNeg)) 8 (1 : Int32), b.2.1, (s_X1_endWait b.2.2 k (1 : Int32) (b.1 0)))) [2, 3, 4, 5, 6, 7, 8] [0, 1] [0, 1, 2, 3, 4, 5, 6, 7, 8] hP hD hS hA (va_runV (As := [.int k, .int (1 : Int32), .int (b.1 0)]) (rest := []) ⟨hx, hb, hml, hown, hts⟩ (c_X1_endWait l D I q H.size b.2.2 k (1 : Int32) (b.1 0) (has_v hn c_1) hn) (cwV 3 hts gX0_serve_X1_endWait rfl rfl rfl (by decide +kernel) ⟨Nat.le_of_ble_eq_true rfl, Nat.le_of_ble_eq_true rfl⟩) (xk_preV (wc := wT I q b.2.2) (q0 := 2) (ci := 1) hN hP hK hD [2, 3, 4, 5, 6, 7, 8] rfl rfl rfl rfl) rfl rfl hl.1 rfl (lv_room (Nat.le_of_ble_eq_true rfl)) dX0_serve_81 ⟨Nat.le_of_ble_eq_true rfl, Nat.le_of_ble_eq_true rfl⟩) rfl rfl rfl (by decide) rfl rfl (fun H locs hP hD hS => ?_)
          generalize hz_2 : s_X1_endWait b.2.2 k (1 : Int32) (b.1 0) = z_2 at hP hD
          have hg_2 : g2_X0_serve b k = z_2 := by rw [← hz_2]; rfl
          refine lv_goto (tgt := 131) hx hb dX0_serve_84 (by decide) ?_
          exact xk_vret (wf := fun z : XBr => wB I q z) (u := (xs (xs (xs b.1 6 k) 7 ((b.2.2.2 1) k.toNatClampNeg)) 8 (1 : Int32), b.2.1, z_2)) (u1 := (s_X0_serve b k)) hx hb hr hlocks hP hK hD hS (by subst hg_2; unfold s_X0_serve; rw [if_neg c_1, if_pos c_2, if_pos c_7]) dX0_serve_131
  · exact xk_vret (wf := fun z : XBr => wB I q z) (u := b) (u1 := (s_X0_serve b k)) hx hb hr hlocks hP hK hD hS (by unfold s_X0_serve; rw [if_pos c_1]) dX0_serve_11

def g1_X0_goOnPassing (b : XBr) : XT := s_X1_endPassage b.2.2 (b.1 6) (b.1 0)
def s_X0_goOnPassing (b : XBr) : XBr :=
  if (r_X1_has b.2.2 (b.1 6)) = 0 then
    b
  else
    if 0 < ((b.1 7) - (1 : Int32)) then
      (xs b.1 7 ((b.1 7) - (1 : Int32)), b.2)
    else
      (xs (xs b.1 7 ((b.1 7) - (1 : Int32))) 6 (-1 : Int32), b.2.1, (g1_X0_goOnPassing b))
set_option maxHeartbeats 800000 in
set_option maxRecDepth 100000 in
theorem c_X0_goOnPassing (l : Launch) (D : va_G) (I : ClassId) (q : Nat → Nat) (sz : Nat) (b : XBr) (hn : nOk (b.2.2.1 0)) : xMv l D [(I, .int)] yX0_goOnPassing wsX0_goOnPassing { frames := 1, cells := 0, slots := 0, locals := 22 } [.ref (q 0)] sz (wB I q b) (wB I q (s_X0_goOnPassing b)) 0 0 := by
  refine xk_start (cc := cX0_goOnPassing) (maxL := 1) (ret := none) (Qf := fun A => xQv D [(I, .int)] A (wB I q (s_X0_goOnPassing b))) (by decide) rfl (Nat.le_of_ble_eq_true rfl) ?_
  intro p e s m below meth c A H ls hst hAe hsz hl
  obtain ⟨hx, hb, hr, hts, hown, hlocks, hml, hin, hN, hK, hP, hD, hA, hS⟩ := hst
  have hl : lv_has ls 1 [(0, .ref (q 0))] := hl
  have hP : va_P D vwCl (wB I q b) H := hP
  have hinX0 : ∀ w ∈ u_ws RX0 TX0 11, w ∈ wsX0_goOnPassing := by decide +kernel
  have w_1 := hts (.fieldLink RX0 37 "BridgeBells$Bridge" "travellers" "LBridgeBells$Travellers;") (by decide +kernel)
  have w_2 := hts (.fieldLink RX0 41 "BridgeBells$Bridge" "passing" "I") (by decide +kernel)
  have w_3 := hts (.fieldLink RX0 44 "BridgeBells$Bridge" "toGo" "I") (by decide +kernel)
  have w_4 := hts (.fieldLink RX0 9 "BridgeBells$Bridge" "minute" "I") (by decide +kernel)
  refine lv_aload_n hx hb dX0_goOnPassing_0 rfl (lv_at hl 0 rfl) ?_
  refine va_get (D := D) (ci := 0) (v := .ref (q 2)) (C := RX0) (T := TX0) (N := 11) hx hb hts hinX0 hown hK hP 0 rfl rfl 7 (by decide) w_1 (fun _ h9 => h9) rfl dX0_goOnPassing_1 ?_
  refine lv_aload_n hx hb dX0_goOnPassing_4 rfl (lv_at hl 0 rfl) ?_
  refine va_get (D := D) (ci := 0) (v := .int (b.1 6)) (C := RX0) (T := TX0) (N := 11) hx hb hts hinX0 hown hK hP 0 rfl rfl 8 (by decide) w_2 (fun _ h9 => h9) rfl dX0_goOnPassing_5 ?_
  refine xk_calli ([cXB q b.1, cA I (q 1) 8 b.2.1]) (wB I q b) [2, 3, 4, 5, 6, 7, 8] [0, 1] [0, 1, 2, 3, 4, 5, 6, 7, 8] hP hD hS hA (va_runV (As := [.int (b.1 6)]) (rest := []) ⟨hx, hb, hml, hown, hts⟩ (c_X1_has l D I q H.size b.2.2 (b.1 6) ) (cwV 1 hts gX0_goOnPassing_X1_has rfl rfl rfl (by decide +kernel) ⟨Nat.le_of_ble_eq_true rfl, Nat.le_of_ble_eq_true rfl⟩) (xk_preV (wc := wT I q b.2.2) (q0 := 2) (ci := 1) hN hP hK hD [2, 3, 4, 5, 6, 7, 8] rfl rfl rfl rfl) rfl rfl hl.1 rfl (lv_room (Nat.le_of_ble_eq_true rfl)) dX0_goOnPassing_8 ⟨Nat.le_of_ble_eq_true rfl, Nat.le_of_ble_eq_true rfl⟩) rfl rfl rfl (by decide) rfl rfl (fun H locs hP hD hS => ?_)
  refine lv_if_ne (tgt := 15) hx hb dX0_goOnPassing_11 (by decide) (fun c_1 => ?_) (fun c_1 => ?_)
  · refine lv_aload_n hx hb dX0_goOnPassing_15 rfl (lv_at hl 0 rfl) ?_
    refine lv_dup hx hb dX0_goOnPassing_16 rfl ?_
    refine va_get (D := D) (ci := 0) (v := .int (b.1 7)) (C := RX0) (T := TX0) (N := 11) hx hb hts hinX0 hown hK hP 0 rfl rfl 9 (by decide) w_3 (fun _ h9 => h9) rfl dX0_goOnPassing_17 ?_
    refine lv_iconst (v := (1 : Int32)) hx hb dX0_goOnPassing_20 (by decide) ?_
    refine lv_isub hx hb dX0_goOnPassing_21 ?_
    refine va_put (D := D) (ci := 0) (v := .int ((b.1 7) - (1 : Int32))) (ty := tyX0 9) (C := RX0) (T := TX0) (N := 11) hx hb hts hinX0 tyX0 tyX0_ok nmX0 hown hK hP hD hS 0 rfl rfl 9 (by decide) w_3 (fun _ h9 => h9) rfl (tyX0_ok 9 (by decide)) rfl rfl (Nat.le_of_ble_eq_true rfl) dX0_goOnPassing_22 (fun H locs hP hD hS => ?_)
    have hP : va_P D vwCl (wB I q (xs b.1 7 ((b.1 7) - (1 : Int32)), b.2)) H := hP
    have hD : va_D A (wB I q (xs b.1 7 ((b.1 7) - (1 : Int32)), b.2)) := hD
    refine lv_aload_n hx hb dX0_goOnPassing_25 rfl (lv_at hl 0 rfl) ?_
    refine va_get (D := D) (ci := 0) (v := .int ((b.1 7) - (1 : Int32))) (C := RX0) (T := TX0) (N := 11) hx hb hts hinX0 hown hK hP 0 rfl rfl 9 (by decide) w_3 (fun _ h9 => h9) rfl dX0_goOnPassing_26 ?_
    refine lv_if_gt (tgt := 52) hx hb dX0_goOnPassing_29 (by decide) (fun c_2 => ?_) (fun c_2 => ?_)
    · exact xk_vret (wf := fun z : XBr => wB I q z) (u := (xs b.1 7 ((b.1 7) - (1 : Int32)), b.2)) (u1 := (s_X0_goOnPassing b)) hx hb hr hlocks hP hK hD hS (by unfold s_X0_goOnPassing; rw [if_neg c_1, if_pos c_2]) dX0_goOnPassing_52
    · refine lv_aload_n hx hb dX0_goOnPassing_32 rfl (lv_at hl 0 rfl) ?_
      refine va_get (D := D) (ci := 0) (v := .ref (q 2)) (C := RX0) (T := TX0) (N := 11) hx hb hts hinX0 hown hK hP 0 rfl rfl 7 (by decide) w_1 (fun _ h9 => h9) rfl dX0_goOnPassing_33 ?_
      refine lv_aload_n hx hb dX0_goOnPassing_36 rfl (lv_at hl 0 rfl) ?_
      refine va_get (D := D) (ci := 0) (v := .int (b.1 6)) (C := RX0) (T := TX0) (N := 11) hx hb hts hinX0 hown hK hP 0 rfl rfl 8 (by decide) w_2 (fun _ h9 => h9) rfl dX0_goOnPassing_37 ?_
      refine lv_aload_n hx hb dX0_goOnPassing_40 rfl (lv_at hl 0 rfl) ?_
      refine va_get (D := D) (ci := 0) (v := .int (b.1 0)) (C := RX0) (T := TX0) (N := 11) hx hb hts hinX0 hown hK hP 0 rfl rfl 0 (by decide) w_4 (fun _ h9 => h9) rfl dX0_goOnPassing_41 ?_
      refine xk_callv ([cXB q (xs b.1 7 ((b.1 7) - (1 : Int32))), cA I (q 1) 8 b.2.1]) (wB I q (xs b.1 7 ((b.1 7) - (1 : Int32)), b.2.1, (s_X1_endPassage b.2.2 (b.1 6) (b.1 0)))) [2, 3, 4, 5, 6, 7, 8] [0, 1] [0, 1, 2, 3, 4, 5, 6, 7, 8] hP hD hS hA (va_runV (As := [.int (b.1 6), .int (b.1 0)]) (rest := []) ⟨hx, hb, hml, hown, hts⟩ (c_X1_endPassage l D I q H.size b.2.2 (b.1 6) (b.1 0) (has_v hn c_1)) (cwV 2 hts gX0_goOnPassing_X1_endPassage rfl rfl rfl (by decide +kernel) ⟨Nat.le_of_ble_eq_true rfl, Nat.le_of_ble_eq_true rfl⟩) (xk_preV (wc := wT I q b.2.2) (q0 := 2) (ci := 1) hN hP hK hD [2, 3, 4, 5, 6, 7, 8] rfl rfl rfl rfl) rfl rfl hl.1 rfl (lv_room (Nat.le_of_ble_eq_true rfl)) dX0_goOnPassing_44 ⟨Nat.le_of_ble_eq_true rfl, Nat.le_of_ble_eq_true rfl⟩) rfl rfl rfl (by decide) rfl rfl (fun H locs hP hD hS => ?_)
      generalize hz_1 : s_X1_endPassage b.2.2 (b.1 6) (b.1 0) = z_1 at hP hD
      have hg_1 : g1_X0_goOnPassing b = z_1 := by rw [← hz_1]; rfl
      refine lv_aload_n hx hb dX0_goOnPassing_47 rfl (lv_at hl 0 rfl) ?_
      refine lv_iconst (v := (-1 : Int32)) hx hb dX0_goOnPassing_48 (by decide) ?_
      refine va_put (D := D) (ci := 0) (v := .int (-1 : Int32)) (ty := tyX0 8) (C := RX0) (T := TX0) (N := 11) hx hb hts hinX0 tyX0 tyX0_ok nmX0 hown hK hP hD hS 0 rfl rfl 8 (by decide) w_2 (fun _ h9 => h9) rfl (tyX0_ok 8 (by decide)) rfl rfl (Nat.le_of_ble_eq_true rfl) dX0_goOnPassing_49 (fun H locs hP hD hS => ?_)
      have hP : va_P D vwCl (wB I q (xs (xs b.1 7 ((b.1 7) - (1 : Int32))) 6 (-1 : Int32), b.2.1, z_1)) H := hP
      have hD : va_D A (wB I q (xs (xs b.1 7 ((b.1 7) - (1 : Int32))) 6 (-1 : Int32), b.2.1, z_1)) := hD
      exact xk_vret (wf := fun z : XBr => wB I q z) (u := (xs (xs b.1 7 ((b.1 7) - (1 : Int32))) 6 (-1 : Int32), b.2.1, z_1)) (u1 := (s_X0_goOnPassing b)) hx hb hr hlocks hP hK hD hS (by subst hg_1; unfold s_X0_goOnPassing; rw [if_neg c_1, if_neg c_2]) dX0_goOnPassing_52
  · exact xk_vret (wf := fun z : XBr => wB I q z) (u := b) (u1 := (s_X0_goOnPassing b)) hx hb hr hlocks hP hK hD hS (by unfold s_X0_goOnPassing; rw [if_pos c_1]) dX0_goOnPassing_14

def s_X0_freeze (b : XBr) : XBr :=
  if ((b.1 0) - (b.1 0) / (60 : Int32) * (60 : Int32)) = 0 then
    (xs b.1 3 (imx (0 : Int32) (imn (9 : Int32) ((b.1 3) + (b.2.1 (r_J9_floorMod_7cf53 ((b.1 0) / (60 : Int32)) (8 : Int32)).toNatClampNeg)))), b.2)
  else
    b
set_option maxHeartbeats 800000 in
set_option maxRecDepth 100000 in
theorem c_X0_freeze (l : Launch) (D : va_G) (I : ClassId) (q : Nat → Nat) (sz : Nat) (b : XBr) (hm : vp_in (r_J9_floorMod_7cf53 ((b.1 0) / (60 : Int32)) (8 : Int32)) 8) : xMv l D [(I, .int)] yX0_freeze wsX0_freeze { frames := 1, cells := 0, slots := 0, locals := 22 } [.ref (q 0)] sz (wB I q b) (wB I q (s_X0_freeze b)) 0 0 := by
  refine xk_start (cc := cX0_freeze) (maxL := 2) (ret := none) (Qf := fun A => xQv D [(I, .int)] A (wB I q (s_X0_freeze b))) (by decide) rfl (Nat.le_of_ble_eq_true rfl) ?_
  intro p e s m below meth c A H ls hst hAe hsz hl
  obtain ⟨hx, hb, hr, hts, hown, hlocks, hml, hin, hN, hK, hP, hD, hA, hS⟩ := hst
  have hl : lv_has ls 2 [(0, .ref (q 0))] := hl
  have hP : va_P D vwCl (wB I q b) H := hP
  have hinX0 : ∀ w ∈ u_ws RX0 TX0 11, w ∈ wsX0_freeze := by decide +kernel
  have w_1 := hts (.fieldLink RX0 9 "BridgeBells$Bridge" "minute" "I") (by decide +kernel)
  have w_2 := hts (.fieldLink RX0 21 "BridgeBells$Bridge" "ice" "I") (by decide +kernel)
  have w_3 := hts (.fieldLink RX0 30 "BridgeBells$Bridge" "cold" "[I") (by decide +kernel)
  have w_4 := hts (.methodLink RX0 117 Lib.Math.min.name) (by decide +kernel)
  have w_5 := hts (.static Lib.Math.min.name) (by decide +kernel)
  have w_6 := hts (.initialized "java/lang/Math") (by decide +kernel)
  have w_7 := hts (.code Lib.Math.min.name Lib.Math.min.code 2 (some .int)) (by decide +kernel)
  have w_8 := hts (.methodLink RX0 84 Lib.Math.max.name) (by decide +kernel)
  have w_9 := hts (.static Lib.Math.max.name) (by decide +kernel)
  have w_10 := hts (.code Lib.Math.max.name Lib.Math.max.code 2 (some .int)) (by decide +kernel)
  refine lv_aload_n hx hb dX0_freeze_0 rfl (lv_at hl 0 rfl) ?_
  refine va_get (D := D) (ci := 0) (v := .int (b.1 0)) (C := RX0) (T := TX0) (N := 11) hx hb hts hinX0 hown hK hP 0 rfl rfl 0 (by decide) w_1 (fun _ h9 => h9) rfl dX0_freeze_1 ?_
  refine lv_bipush (v := (60 : Int32)) hx hb dX0_freeze_4 (by decide) ?_
  refine lv_irem hx hb dX0_freeze_6 (by decide) ?_
  refine lv_if_eq (tgt := 11) hx hb dX0_freeze_7 (by decide) (fun c_1 => ?_) (fun c_1 => ?_)
  · refine lv_aload_n hx hb dX0_freeze_11 rfl (lv_at hl 0 rfl) ?_
    refine va_get (D := D) (ci := 0) (v := .int (b.1 0)) (C := RX0) (T := TX0) (N := 11) hx hb hts hinX0 hown hK hP 0 rfl rfl 0 (by decide) w_1 (fun _ h9 => h9) rfl dX0_freeze_12 ?_
    refine lv_bipush (v := (60 : Int32)) hx hb dX0_freeze_15 (by decide) ?_
    refine lv_idiv hx hb dX0_freeze_17 (by decide) ?_
    refine lv_bipush (v := (8 : Int32)) hx hb dX0_freeze_18 (by decide) ?_
    refine xk_calli ([cXB q b.1, cA I (q 1) 8 b.2.1, cXT q b.2.2.1, cA I (q 3) 40 (b.2.2.2 0), cA I (q 4) 40 (b.2.2.2 1), cA I (q 5) 40 (b.2.2.2 2), cA I (q 6) 40 (b.2.2.2 3), cA I (q 7) 40 (b.2.2.2 4), cA I (q 8) 40 (b.2.2.2 5)]) (wB I q b) [] [0, 1, 2, 3, 4, 5, 6, 7, 8] [0, 1, 2, 3, 4, 5, 6, 7, 8] hP hD hS hA (va_runS (As := [.int ((b.1 0) / (60 : Int32)), .int (8 : Int32)]) (rest := []) ⟨hx, hb, hml, hown, hts⟩ (c_J9_floorMod_7cf53 l D I  H.size ((b.1 0) / (60 : Int32)) (8 : Int32) (by decide)) (va_cwS 2 hts gX0_freeze_J9_floorMod_7cf53 rfl rfl rfl (by decide +kernel) ⟨Nat.le_of_ble_eq_true rfl, Nat.le_of_ble_eq_true rfl⟩) (xk_pre (wc := ([] : va_W)) hN hP hK hD [] rfl rfl) rfl rfl hl.1 rfl (lv_room (Nat.le_of_ble_eq_true rfl)) dX0_freeze_20 ⟨Nat.le_of_ble_eq_true rfl, Nat.le_of_ble_eq_true rfl⟩) rfl rfl rfl (by decide) rfl rfl (fun H locs hP hD hS => ?_)
    refine lv_istore_n (lv' := [(1, .int (r_J9_floorMod_7cf53 ((b.1 0) / (60 : Int32)) (8 : Int32))), (0, .ref (q 0))]) hx hb dX0_freeze_23 rfl hl (by decide) rfl (fun ls hl => ?_)
    refine lv_aload_n hx hb dX0_freeze_24 rfl (lv_at hl 1 rfl) ?_
    refine lv_iconst (v := (0 : Int32)) hx hb dX0_freeze_25 (by decide) ?_
    refine lv_bipush (v := (9 : Int32)) hx hb dX0_freeze_26 (by decide) ?_
    refine lv_aload_n hx hb dX0_freeze_28 rfl (lv_at hl 1 rfl) ?_
    refine va_get (D := D) (ci := 0) (v := .int (b.1 3)) (C := RX0) (T := TX0) (N := 11) hx hb hts hinX0 hown hK hP 0 rfl rfl 3 (by decide) w_2 (fun _ h9 => h9) rfl dX0_freeze_29 ?_
    refine lv_aload_n hx hb dX0_freeze_32 rfl (lv_at hl 1 rfl) ?_
    refine va_get (D := D) (ci := 0) (v := .ref (q 1)) (C := RX0) (T := TX0) (N := 11) hx hb hts hinX0 hown hK hP 0 rfl rfl 6 (by decide) w_3 (fun _ h9 => h9) rfl dX0_freeze_33 ?_
    refine lv_iload_n hx hb dX0_freeze_36 rfl (lv_at hl 0 rfl) ?_
    refine va_iald (f := b.2.1) hx hb hK hP 1 0 rfl rfl (show vp_in (r_J9_floorMod_7cf53 ((b.1 0) / (60 : Int32)) (8 : Int32)) 8 from hm) dX0_freeze_37 ?_
    refine lv_iadd hx hb dX0_freeze_38 ?_
    refine va_mmin hx hb (hml.trans hl.1.symm) hown w_4 w_5 w_6 w_7 (Nat.le_of_ble_eq_true rfl) (Nat.le_of_ble_eq_true rfl) (Nat.le_of_ble_eq_true rfl) (Nat.le_of_ble_eq_true rfl) dX0_freeze_39 ?_
    refine W.eq (g2 := F0 m 42 ls [.int (imn (9 : Int32) ((b.1 3) + (b.2.1 (r_J9_floorMod_7cf53 ((b.1 0) / (60 : Int32)) (8 : Int32)).toNatClampNeg))), .int (0 : Int32), .ref (q 0)]) rfl ?_
    refine va_mmax hx hb (hml.trans hl.1.symm) hown w_8 w_9 w_6 w_10 (Nat.le_of_ble_eq_true rfl) (Nat.le_of_ble_eq_true rfl) (Nat.le_of_ble_eq_true rfl) (Nat.le_of_ble_eq_true rfl) dX0_freeze_42 ?_
    refine W.eq (g2 := F0 m 45 ls [.int (imx (0 : Int32) (imn (9 : Int32) ((b.1 3) + (b.2.1 (r_J9_floorMod_7cf53 ((b.1 0) / (60 : Int32)) (8 : Int32)).toNatClampNeg)))), .ref (q 0)]) rfl ?_
    refine va_put (D := D) (ci := 0) (v := .int (imx (0 : Int32) (imn (9 : Int32) ((b.1 3) + (b.2.1 (r_J9_floorMod_7cf53 ((b.1 0) / (60 : Int32)) (8 : Int32)).toNatClampNeg))))) (ty := tyX0 3) (C := RX0) (T := TX0) (N := 11) hx hb hts hinX0 tyX0 tyX0_ok nmX0 hown hK hP hD hS 0 rfl rfl 3 (by decide) w_2 (fun _ h9 => h9) rfl (tyX0_ok 3 (by decide)) rfl rfl (Nat.le_of_ble_eq_true rfl) dX0_freeze_45 (fun H locs hP hD hS => ?_)
    have hP : va_P D vwCl (wB I q (xs b.1 3 (imx (0 : Int32) (imn (9 : Int32) ((b.1 3) + (b.2.1 (r_J9_floorMod_7cf53 ((b.1 0) / (60 : Int32)) (8 : Int32)).toNatClampNeg)))), b.2)) H := hP
    have hD : va_D A (wB I q (xs b.1 3 (imx (0 : Int32) (imn (9 : Int32) ((b.1 3) + (b.2.1 (r_J9_floorMod_7cf53 ((b.1 0) / (60 : Int32)) (8 : Int32)).toNatClampNeg)))), b.2)) := hD
    exact xk_vret (wf := fun z : XBr => wB I q z) (u := (xs b.1 3 (imx (0 : Int32) (imn (9 : Int32) ((b.1 3) + (b.2.1 (r_J9_floorMod_7cf53 ((b.1 0) / (60 : Int32)) (8 : Int32)).toNatClampNeg)))), b.2)) (u1 := (s_X0_freeze b)) hx hb hr hlocks hP hK hD hS (by unfold s_X0_freeze; rw [if_pos c_1]) dX0_freeze_48
  · exact xk_vret (wf := fun z : XBr => wB I q z) (u := b) (u1 := (s_X0_freeze b)) hx hb hr hlocks hP hK hD hS (by unfold s_X0_freeze; rw [if_neg c_1]) dX0_freeze_10

theorem serve_n (b : XBr) (k : Int32) : (s_X0_serve b k).2.2.1 0 = b.2.2.1 0 := by
  unfold s_X0_serve
  repeat' split
  all_goals first | rfl | exact endWait_n _ _ _ _
theorem serve_m (b : XBr) (k : Int32) : (s_X0_serve b k).1 0 = b.1 0 := by
  unfold s_X0_serve
  repeat' split
  all_goals rfl
theorem gop_n (b : XBr) : (s_X0_goOnPassing b).2.2.1 0 = b.2.2.1 0 := by
  unfold s_X0_goOnPassing
  repeat' split
  all_goals rfl
theorem gop_m (b : XBr) : (s_X0_goOnPassing b).1 0 = b.1 0 := by
  unfold s_X0_goOnPassing
  repeat' split
  all_goals rfl
theorem frz_n (b : XBr) : (s_X0_freeze b).2.2.1 0 = b.2.2.1 0 := by
  unfold s_X0_freeze
  repeat' split
  all_goals rfl
theorem frz_m (b : XBr) : (s_X0_freeze b).1 0 = b.1 0 := by
  unfold s_X0_freeze
  repeat' split
  all_goals rfl
theorem fm_in {x : Int32} (h : mOk x) : vp_in (r_J9_floorMod_7cf53 (x / (60 : Int32)) (8 : Int32)) 8 := by
  unfold r_J9_floorMod_7cf53
  rw [if_pos (xor8 (by rw [d60 h.1]; have := h.1; omega))]
  exact hr_in h
