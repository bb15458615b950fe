def r_X1_has (t : XT) (k : Int32) : Int32 :=
  if k < 0 then
    (0 : Int32)
  else
    if (t.1 0) ≤ k then
      (0 : Int32)
    else
      (1 : Int32)
set_option maxHeartbeats 800000 in
set_option maxRecDepth 100000 in
theorem c_X1_has (l : Launch) (D : va_G) (I : ClassId) (q : Nat → Nat) (sz : Nat) (t : XT) (k : Int32)  : xMi l D [(I, .int)] yX1_has wsX1_has { frames := 0, cells := 0, slots := 0, locals := 0 } [.ref (q 2), .int k] sz (wT I q t) (r_X1_has t k) (wT I q t) 0 0 := by
  refine xk_start (cc := cX1_has) (maxL := 2) (ret := (some .boolean)) (Qf := fun A => xQi D [(I, .int)] A (r_X1_has t k) (wT I q t)) (by decide) rfl (Nat.le_of_ble_eq_true rfl) ?_
  intro p e s m below meth c A H ls hst hAe hsz hl
  obtain ⟨hx, hb, hr, hts, hown, hlocks, hml, hin, hN, hK, hP, hD, hA, hS⟩ := hst
  have hl : lv_has ls 2 [(0, .ref (q 2)), (1, .int k)] := hl
  have hP : va_P D vwCl (wT I q t) H := hP
  have hinX1 : ∀ w ∈ u_ws RX1 TX1 12, w ∈ wsX1_has := by decide +kernel
  have w_1 := hts (.fieldLink RX1 9 "BridgeBells$Travellers" "number" "I") (by decide +kernel)
  refine lv_iload_n hx hb dX1_has_0 rfl (lv_at hl 1 rfl) ?_
  refine lv_if_lt (tgt := 16) hx hb dX1_has_1 (by decide) (fun c_1 => ?_) (fun c_1 => ?_)
  · refine lv_iconst (v := (0 : Int32)) hx hb dX1_has_16 (by decide) ?_
    exact xk_iret (wf := fun z : XT => wT I q z) (u := t) (u1 := t) hx hb hr rfl hlocks hP hK hD hS (by unfold r_X1_has; rw [if_pos c_1]) rfl dX1_has_17
  · refine lv_iload_n hx hb dX1_has_4 rfl (lv_at hl 1 rfl) ?_
    refine lv_aload_n hx hb dX1_has_5 rfl (lv_at hl 0 rfl) ?_
    refine va_get (D := D) (ci := 1) (v := .int (t.1 0)) (C := RX1) (T := TX1) (N := 12) hx hb hts hinX1 hown hK hP 0 rfl rfl 0 (by decide) w_1 (fun _ h9 => h9) rfl dX1_has_6 ?_
    refine lv_icmp_ge (tgt := 16) hx hb dX1_has_9 (by decide) (fun c_2 => ?_) (fun c_2 => ?_)
    · refine lv_iconst (v := (0 : Int32)) hx hb dX1_has_16 (by decide) ?_
      exact xk_iret (wf := fun z : XT => wT I q z) (u := t) (u1 := t) hx hb hr rfl hlocks hP hK hD hS (by unfold r_X1_has; rw [if_neg c_1, if_pos c_2]) rfl dX1_has_17
    · refine lv_iconst (v := (1 : Int32)) hx hb dX1_has_12 (by decide) ?_
      refine lv_goto (tgt := 17) hx hb dX1_has_13 (by decide) ?_
      exact xk_iret (wf := fun z : XT => wT I q z) (u := t) (u1 := t) hx hb hr rfl hlocks hP hK hD hS (by unfold r_X1_has; rw [if_neg c_1, if_neg c_2]) rfl dX1_has_17

def r_X1_firstOfAll (t : XT) : Int32 :=
  if (t.1 4) = (-1 : Int32) then
    (t.1 5)
  else
    if (t.1 5) = (-1 : Int32) then
      (t.1 4)
    else
      (imn (t.1 4) (t.1 5))
set_option maxHeartbeats 800000 in
set_option maxRecDepth 100000 in
theorem c_X1_firstOfAll (l : Launch) (D : va_G) (I : ClassId) (q : Nat → Nat) (sz : Nat) (t : XT)  : xMi l D [(I, .int)] yX1_firstOfAll wsX1_firstOfAll { frames := 1, cells := 0, slots := 0, locals := 13 } [.ref (q 2)] sz (wT I q t) (r_X1_firstOfAll t) (wT I q t) 0 0 := by
  refine xk_start (cc := cX1_firstOfAll) (maxL := 1) (ret := (some .int)) (Qf := fun A => xQi D [(I, .int)] A (r_X1_firstOfAll t) (wT I q t)) (by decide) rfl (Nat.le_of_ble_eq_true rfl) ?_
  intro p e s m below meth c A H ls hst hAe hsz hl
  obtain ⟨hx, hb, hr, hts, hown, hlocks, hml, hin, hN, hK, hP, hD, hA, hS⟩ := hst
  have hl : lv_has ls 1 [(0, .ref (q 2))] := hl
  have hP : va_P D vwCl (wT I q t) H := hP
  have hinX1 : ∀ w ∈ u_ws RX1 TX1 12, w ∈ wsX1_firstOfAll := by decide +kernel
  have w_1 := hts (.fieldLink RX1 43 "BridgeBells$Travellers" "firstBarge" "I") (by decide +kernel)
  have w_2 := hts (.fieldLink RX1 46 "BridgeBells$Travellers" "firstCart" "I") (by decide +kernel)
  have w_3 := hts (.methodLink RX1 58 Lib.Math.min.name) (by decide +kernel)
  have w_4 := hts (.static Lib.Math.min.name) (by decide +kernel)
  have w_5 := hts (.initialized "java/lang/Math") (by decide +kernel)
  have w_6 := hts (.code Lib.Math.min.name Lib.Math.min.code 2 (some .int)) (by decide +kernel)
  refine lv_aload_n hx hb dX1_firstOfAll_0 rfl (lv_at hl 0 rfl) ?_
  refine va_get (D := D) (ci := 1) (v := .int (t.1 4)) (C := RX1) (T := TX1) (N := 12) hx hb hts hinX1 hown hK hP 0 rfl rfl 10 (by decide) w_1 (fun _ h9 => h9) rfl dX1_firstOfAll_1 ?_
  refine lv_iconst (v := (-1 : Int32)) hx hb dX1_firstOfAll_4 (by decide) ?_
  refine lv_icmp_ne (tgt := 13) hx hb dX1_firstOfAll_5 (by decide) (fun c_1 => ?_) (fun c_1 => ?_)
  · refine lv_aload_n hx hb dX1_firstOfAll_13 rfl (lv_at hl 0 rfl) ?_
    refine va_get (D := D) (ci := 1) (v := .int (t.1 5)) (C := RX1) (T := TX1) (N := 12) hx hb hts hinX1 hown hK hP 0 rfl rfl 11 (by decide) w_2 (fun _ h9 => h9) rfl dX1_firstOfAll_14 ?_
    refine lv_iconst (v := (-1 : Int32)) hx hb dX1_firstOfAll_17 (by decide) ?_
    refine lv_icmp_ne (tgt := 28) hx hb dX1_firstOfAll_18 (by decide) (fun c_2 => ?_) (fun c_2 => ?_)
    · refine lv_aload_n hx hb dX1_firstOfAll_28 rfl (lv_at hl 0 rfl) ?_
      refine va_get (D := D) (ci := 1) (v := .int (t.1 4)) (C := RX1) (T := TX1) (N := 12) hx hb hts hinX1 hown hK hP 0 rfl rfl 10 (by decide) w_1 (fun _ h9 => h9) rfl dX1_firstOfAll_29 ?_
      refine lv_aload_n hx hb dX1_firstOfAll_32 rfl (lv_at hl 0 rfl) ?_
      refine va_get (D := D) (ci := 1) (v := .int (t.1 5)) (C := RX1) (T := TX1) (N := 12) hx hb hts hinX1 hown hK hP 0 rfl rfl 11 (by decide) w_2 (fun _ h9 => h9) rfl dX1_firstOfAll_33 ?_
      refine va_mmin hx hb (hml.trans hl.1.symm) hown w_3 w_4 w_5 w_6 (Nat.le_of_ble_eq_true rfl) (Nat.le_of_ble_eq_true rfl) (Nat.le_of_ble_eq_true rfl) (Nat.le_of_ble_eq_true rfl) dX1_firstOfAll_36 ?_
      refine W.eq (g2 := F0 m 39 ls [.int (imn (t.1 4) (t.1 5))]) rfl ?_
      exact xk_iret (wf := fun z : XT => wT I q z) (u := t) (u1 := t) hx hb hr rfl hlocks hP hK hD hS (by unfold r_X1_firstOfAll; rw [if_neg c_1, if_neg c_2]) rfl dX1_firstOfAll_39
    · refine lv_aload_n hx hb dX1_firstOfAll_21 rfl (lv_at hl 0 rfl) ?_
      refine va_get (D := D) (ci := 1) (v := .int (t.1 4)) (C := RX1) (T := TX1) (N := 12) hx hb hts hinX1 hown hK hP 0 rfl rfl 10 (by decide) w_1 (fun _ h9 => h9) rfl dX1_firstOfAll_22 ?_
      refine lv_goto (tgt := 39) hx hb dX1_firstOfAll_25 (by decide) ?_
      exact xk_iret (wf := fun z : XT => wT I q z) (u := t) (u1 := t) hx hb hr rfl hlocks hP hK hD hS (by unfold r_X1_firstOfAll; rw [if_neg c_1, if_pos c_2]) rfl dX1_firstOfAll_39
  · refine lv_aload_n hx hb dX1_firstOfAll_8 rfl (lv_at hl 0 rfl) ?_
    refine va_get (D := D) (ci := 1) (v := .int (t.1 5)) (C := RX1) (T := TX1) (N := 12) hx hb hts hinX1 hown hK hP 0 rfl rfl 11 (by decide) w_2 (fun _ h9 => h9) rfl dX1_firstOfAll_9 ?_
    exact xk_iret (wf := fun z : XT => wT I q z) (u := t) (u1 := t) hx hb hr rfl hlocks hP hK hD hS (by unfold r_X1_firstOfAll; rw [if_pos c_1]) rfl dX1_firstOfAll_12

def r_X1_firstBargeElseCart (t : XT) : Int32 :=
  if (t.1 4) = (-1 : Int32) then
    (t.1 5)
  else
    (t.1 4)
set_option maxHeartbeats 800000 in
set_option maxRecDepth 100000 in
theorem c_X1_firstBargeElseCart (l : Launch) (D : va_G) (I : ClassId) (q : Nat → Nat) (sz : Nat) (t : XT)  : xMi l D [(I, .int)] yX1_firstBargeElseCart wsX1_firstBargeElseCart { frames := 0, cells := 0, slots := 0, locals := 0 } [.ref (q 2)] sz (wT I q t) (r_X1_firstBargeElseCart t) (wT I q t) 0 0 := by
  refine xk_start (cc := cX1_firstBargeElseCart) (maxL := 1) (ret := (some .int)) (Qf := fun A => xQi D [(I, .int)] A (r_X1_firstBargeElseCart t) (wT I q t)) (by decide) rfl (Nat.le_of_ble_eq_true rfl) ?_
  intro p e s m below meth c A H ls hst hAe hsz hl
  obtain ⟨hx, hb, hr, hts, hown, hlocks, hml, hin, hN, hK, hP, hD, hA, hS⟩ := hst
  have hl : lv_has ls 1 [(0, .ref (q 2))] := hl
  have hP : va_P D vwCl (wT I q t) H := hP
  have hinX1 : ∀ w ∈ u_ws RX1 TX1 12, w ∈ wsX1_firstBargeElseCart := by decide +kernel
  have w_1 := hts (.fieldLink RX1 43 "BridgeBells$Travellers" "firstBarge" "I") (by decide +kernel)
  have w_2 := hts (.fieldLink RX1 46 "BridgeBells$Travellers" "firstCart" "I") (by decide +kernel)
  refine lv_aload_n hx hb dX1_firstBargeElseCart_0 rfl (lv_at hl 0 rfl) ?_
  refine va_get (D := D) (ci := 1) (v := .int (t.1 4)) (C := RX1) (T := TX1) (N := 12) hx hb hts hinX1 hown hK hP 0 rfl rfl 10 (by decide) w_1 (fun _ h9 => h9) rfl dX1_firstBargeElseCart_1 ?_
  refine lv_iconst (v := (-1 : Int32)) hx hb dX1_firstBargeElseCart_4 (by decide) ?_
  refine lv_icmp_eq (tgt := 15) hx hb dX1_firstBargeElseCart_5 (by decide) (fun c_1 => ?_) (fun c_1 => ?_)
  · refine lv_aload_n hx hb dX1_firstBargeElseCart_15 rfl (lv_at hl 0 rfl) ?_
    refine va_get (D := D) (ci := 1) (v := .int (t.1 5)) (C := RX1) (T := TX1) (N := 12) hx hb hts hinX1 hown hK hP 0 rfl rfl 11 (by decide) w_2 (fun _ h9 => h9) rfl dX1_firstBargeElseCart_16 ?_
    exact xk_iret (wf := fun z : XT => wT I q z) (u := t) (u1 := t) hx hb hr rfl hlocks hP hK hD hS (by unfold r_X1_firstBargeElseCart; rw [if_pos c_1]) rfl dX1_firstBargeElseCart_19
  · refine lv_aload_n hx hb dX1_firstBargeElseCart_8 rfl (lv_at hl 0 rfl) ?_
    refine va_get (D := D) (ci := 1) (v := .int (t.1 4)) (C := RX1) (T := TX1) (N := 12) hx hb hts hinX1 hown hK hP 0 rfl rfl 10 (by decide) w_1 (fun _ h9 => h9) rfl dX1_firstBargeElseCart_9 ?_
    refine lv_goto (tgt := 19) hx hb dX1_firstBargeElseCart_12 (by decide) ?_
    exact xk_iret (wf := fun z : XT => wT I q z) (u := t) (u1 := t) hx hb hr rfl hlocks hP hK hD hS (by unfold r_X1_firstBargeElseCart; rw [if_neg c_1]) rfl dX1_firstBargeElseCart_19

def r_X1_firstCartElseBarge (t : XT) : Int32 :=
  if (t.1 5) = (-1 : Int32) then
    (t.1 4)
  else
    (t.1 5)
set_option maxHeartbeats 800000 in
set_option maxRecDepth 100000 in
theorem c_X1_firstCartElseBarge (l : Launch) (D : va_G) (I : ClassId) (q : Nat → Nat) (sz : Nat) (t : XT)  : xMi l D [(I, .int)] yX1_firstCartElseBarge wsX1_firstCartElseBarge { frames := 0, cells := 0, slots := 0, locals := 0 } [.ref (q 2)] sz (wT I q t) (r_X1_firstCartElseBarge t) (wT I q t) 0 0 := by
  refine xk_start (cc := cX1_firstCartElseBarge) (maxL := 1) (ret := (some .int)) (Qf := fun A => xQi D [(I, .int)] A (r_X1_firstCartElseBarge t) (wT I q t)) (by decide) rfl (Nat.le_of_ble_eq_true rfl) ?_
  intro p e s m below meth c A H ls hst hAe hsz hl
  obtain ⟨hx, hb, hr, hts, hown, hlocks, hml, hin, hN, hK, hP, hD, hA, hS⟩ := hst
  have hl : lv_has ls 1 [(0, .ref (q 2))] := hl
  have hP : va_P D vwCl (wT I q t) H := hP
  have hinX1 : ∀ w ∈ u_ws RX1 TX1 12, w ∈ wsX1_firstCartElseBarge := by decide +kernel
  have w_1 := hts (.fieldLink RX1 46 "BridgeBells$Travellers" "firstCart" "I") (by decide +kernel)
  have w_2 := hts (.fieldLink RX1 43 "BridgeBells$Travellers" "firstBarge" "I") (by decide +kernel)
  refine lv_aload_n hx hb dX1_firstCartElseBarge_0 rfl (lv_at hl 0 rfl) ?_
  refine va_get (D := D) (ci := 1) (v := .int (t.1 5)) (C := RX1) (T := TX1) (N := 12) hx hb hts hinX1 hown hK hP 0 rfl rfl 11 (by decide) w_1 (fun _ h9 => h9) rfl dX1_firstCartElseBarge_1 ?_
  refine lv_iconst (v := (-1 : Int32)) hx hb dX1_firstCartElseBarge_4 (by decide) ?_
  refine lv_icmp_eq (tgt := 15) hx hb dX1_firstCartElseBarge_5 (by decide) (fun c_1 => ?_) (fun c_1 => ?_)
  · refine lv_aload_n hx hb dX1_firstCartElseBarge_15 rfl (lv_at hl 0 rfl) ?_
    refine va_get (D := D) (ci := 1) (v := .int (t.1 4)) (C := RX1) (T := TX1) (N := 12) hx hb hts hinX1 hown hK hP 0 rfl rfl 10 (by decide) w_2 (fun _ h9 => h9) rfl dX1_firstCartElseBarge_16 ?_
    exact xk_iret (wf := fun z : XT => wT I q z) (u := t) (u1 := t) hx hb hr rfl hlocks hP hK hD hS (by unfold r_X1_firstCartElseBarge; rw [if_pos c_1]) rfl dX1_firstCartElseBarge_19
  · refine lv_aload_n hx hb dX1_firstCartElseBarge_8 rfl (lv_at hl 0 rfl) ?_
    refine va_get (D := D) (ci := 1) (v := .int (t.1 5)) (C := RX1) (T := TX1) (N := 12) hx hb hts hinX1 hown hK hP 0 rfl rfl 11 (by decide) w_1 (fun _ h9 => h9) rfl dX1_firstCartElseBarge_9 ?_
    refine lv_goto (tgt := 19) hx hb dX1_firstCartElseBarge_12 (by decide) ?_
    exact xk_iret (wf := fun z : XT => wT I q z) (u := t) (u1 := t) hx hb hr rfl hlocks hP hK hD hS (by unfold r_X1_firstCartElseBarge; rw [if_neg c_1]) rfl dX1_firstCartElseBarge_19

def r_X1_waited (t : XT) (k : Int32) (mi : Int32) : Int32 :=
  if ((t.2 2) k.toNatClampNeg) = 0 then
    (mi - ((t.2 3) k.toNatClampNeg))
  else
    (((t.2 5) k.toNatClampNeg) - ((t.2 3) k.toNatClampNeg))
set_option maxHeartbeats 800000 in
set_option maxRecDepth 100000 in
theorem c_X1_waited (l : Launch) (D : va_G) (I : ClassId) (q : Nat → Nat) (sz : Nat) (t : XT) (k : Int32) (mi : Int32) (hk : vp_in k 40) : xMi l D [(I, .int)] yX1_waited wsX1_waited { frames := 0, cells := 0, slots := 0, locals := 0 } [.ref (q 2), .int k, .int mi] sz (wT I q t) (r_X1_waited t k mi) (wT I q t) 0 0 := by
  refine xk_start (cc := cX1_waited) (maxL := 4) (ret := (some .int)) (Qf := fun A => xQi D [(I, .int)] A (r_X1_waited t k mi) (wT I q t)) (by decide) rfl (Nat.le_of_ble_eq_true rfl) ?_
  intro p e s m below meth c A H ls hst hAe hsz hl
  obtain ⟨hx, hb, hr, hts, hown, hlocks, hml, hin, hN, hK, hP, hD, hA, hS⟩ := hst
  have hl : lv_has ls 4 [(0, .ref (q 2)), (1, .int k), (2, .int mi)] := hl
  have hP : va_P D vwCl (wT I q t) H := hP
  have hinX1 : ∀ w ∈ u_ws RX1 TX1 12, w ∈ wsX1_waited := by decide +kernel
  have w_1 := hts (.fieldLink RX1 31 "BridgeBells$Travellers" "state" "[I") (by decide +kernel)
  have w_2 := hts (.fieldLink RX1 40 "BridgeBells$Travellers" "waitEnd" "[I") (by decide +kernel)
  have w_3 := hts (.fieldLink RX1 34 "BridgeBells$Travellers" "came" "[I") (by decide +kernel)
  refine lv_aload_n hx hb dX1_waited_0 rfl (lv_at hl 0 rfl) ?_
  refine va_get (D := D) (ci := 1) (v := .ref (q 5)) (C := RX1) (T := TX1) (N := 12) hx hb hts hinX1 hown hK hP 0 rfl rfl 6 (by decide) w_1 (fun _ h9 => h9) rfl dX1_waited_1 ?_
  refine lv_iload_n hx hb dX1_waited_4 rfl (lv_at hl 1 rfl) ?_
  refine va_iald (f := (t.2 2)) hx hb hK hP 3 0 rfl rfl (show vp_in k 40 from hk) dX1_waited_5 ?_
  refine lv_if_ne (tgt := 13) hx hb dX1_waited_6 (by decide) (fun c_1 => ?_) (fun c_1 => ?_)
  · refine lv_aload_n hx hb dX1_waited_13 rfl (lv_at hl 0 rfl) ?_
    refine va_get (D := D) (ci := 1) (v := .ref (q 8)) (C := RX1) (T := TX1) (N := 12) hx hb hts hinX1 hown hK hP 0 rfl rfl 9 (by decide) w_2 (fun _ h9 => h9) rfl dX1_waited_14 ?_
    refine lv_iload_n hx hb dX1_waited_17 rfl (lv_at hl 1 rfl) ?_
    refine va_iald (f := (t.2 5)) hx hb hK hP 6 0 rfl rfl (show vp_in k 40 from hk) dX1_waited_18 ?_
    refine lv_istore_n (lv' := [(3, .int ((t.2 5) k.toNatClampNeg)), (0, .ref (q 2)), (1, .int k), (2, .int mi)]) hx hb dX1_waited_19 rfl hl (by decide) rfl (fun ls hl => ?_)
    refine lv_iload_n hx hb dX1_waited_20 rfl (lv_at hl 0 rfl) ?_
    refine lv_aload_n hx hb dX1_waited_21 rfl (lv_at hl 1 rfl) ?_
    refine va_get (D := D) (ci := 1) (v := .ref (q 6)) (C := RX1) (T := TX1) (N := 12) hx hb hts hinX1 hown hK hP 0 rfl rfl 7 (by decide) w_3 (fun _ h9 => h9) rfl dX1_waited_22 ?_
    refine lv_iload_n hx hb dX1_waited_25 rfl (lv_at hl 2 rfl) ?_
    refine va_iald (f := (t.2 3)) hx hb hK hP 4 0 rfl rfl (show vp_in k 40 from hk) dX1_waited_26 ?_
    refine lv_isub hx hb dX1_waited_27 ?_
    exact xk_iret (wf := fun z : XT => wT I q z) (u := t) (u1 := t) hx hb hr rfl hlocks hP hK hD hS (by unfold r_X1_waited; rw [if_neg c_1]) rfl dX1_waited_28
  · refine lv_iload_n hx hb dX1_waited_9 rfl (lv_at hl 2 rfl) ?_
    refine lv_goto (tgt := 19) hx hb dX1_waited_10 (by decide) ?_
    refine lv_istore_n (lv' := [(3, .int mi), (0, .ref (q 2)), (1, .int k), (2, .int mi)]) hx hb dX1_waited_19 rfl hl (by decide) rfl (fun ls hl => ?_)
    refine lv_iload_n hx hb dX1_waited_20 rfl (lv_at hl 0 rfl) ?_
    refine lv_aload_n hx hb dX1_waited_21 rfl (lv_at hl 1 rfl) ?_
    refine va_get (D := D) (ci := 1) (v := .ref (q 6)) (C := RX1) (T := TX1) (N := 12) hx hb hts hinX1 hown hK hP 0 rfl rfl 7 (by decide) w_3 (fun _ h9 => h9) rfl dX1_waited_22 ?_
    refine lv_iload_n hx hb dX1_waited_25 rfl (lv_at hl 2 rfl) ?_
    refine va_iald (f := (t.2 3)) hx hb hK hP 4 0 rfl rfl (show vp_in k 40 from hk) dX1_waited_26 ?_
    refine lv_isub hx hb dX1_waited_27 ?_
    exact xk_iret (wf := fun z : XT => wT I q z) (u := t) (u1 := t) hx hb hr rfl hlocks hP hK hD hS (by unfold r_X1_waited; rw [if_pos c_1]) rfl dX1_waited_28

def s_X1_endPassage (t : XT) (k : Int32) (mi : Int32) : XT :=
  (xs t.1 1 ((t.1 1) + (1 : Int32)), xa (xa t.2 2 (upd (t.2 2) k.toNatClampNeg (2 : Int32))) 4 (upd (t.2 4) k.toNatClampNeg mi))
set_option maxHeartbeats 800000 in
set_option maxRecDepth 100000 in
theorem c_X1_endPassage (l : Launch) (D : va_G) (I : ClassId) (q : Nat → Nat) (sz : Nat) (t : XT) (k : Int32) (mi : Int32) (hk : vp_in k 40) : xMv l D [(I, .int)] yX1_endPassage wsX1_endPassage { frames := 0, cells := 0, slots := 0, locals := 0 } [.ref (q 2), .int k, .int mi] sz (wT I q t) (wT I q (s_X1_endPassage t k mi)) 0 0 := by
  refine xk_start (cc := cX1_endPassage) (maxL := 3) (ret := none) (Qf := fun A => xQv D [(I, .int)] A (wT I q (s_X1_endPassage t k mi))) (by decide) rfl (Nat.le_of_ble_eq_true rfl) ?_
  intro p e s m below meth c A H ls hst hAe hsz hl
  obtain ⟨hx, hb, hr, hts, hown, hlocks, hml, hin, hN, hK, hP, hD, hA, hS⟩ := hst
  have hl : lv_has ls 3 [(0, .ref (q 2)), (1, .int k), (2, .int mi)] := hl
  have hP : va_P D vwCl (wT I q t) H := hP
  have hinX1 : ∀ w ∈ u_ws RX1 TX1 12, w ∈ wsX1_endPassage := by decide +kernel
  have w_1 := hts (.fieldLink RX1 31 "BridgeBells$Travellers" "state" "[I") (by decide +kernel)
  have w_2 := hts (.fieldLink RX1 37 "BridgeBells$Travellers" "passedIn" "[I") (by decide +kernel)
  have w_3 := hts (.fieldLink RX1 15 "BridgeBells$Travellers" "passed" "I") (by decide +kernel)
  refine lv_aload_n hx hb dX1_endPassage_0 rfl (lv_at hl 0 rfl) ?_
  refine va_get (D := D) (ci := 1) (v := .ref (q 5)) (C := RX1) (T := TX1) (N := 12) hx hb hts hinX1 hown hK hP 0 rfl rfl 6 (by decide) w_1 (fun _ h9 => h9) rfl dX1_endPassage_1 ?_
  refine lv_iload_n hx hb dX1_endPassage_4 rfl (lv_at hl 1 rfl) ?_
  refine lv_iconst (v := (2 : Int32)) hx hb dX1_endPassage_5 (by decide) ?_
  refine va_iast (f := (t.2 2)) hx hb hK hP hD hS 3 0 rfl rfl (show vp_in k 40 from hk) dX1_endPassage_6 (fun H locs hP hD hS => ?_)
  have hP : va_P D vwCl (wT I q (t.1, xa t.2 2 (upd (t.2 2) k.toNatClampNeg (2 : Int32)))) H := hP
  have hD : va_D A (wT I q (t.1, xa t.2 2 (upd (t.2 2) k.toNatClampNeg (2 : Int32)))) := hD
  refine lv_aload_n hx hb dX1_endPassage_7 rfl (lv_at hl 0 rfl) ?_
  refine va_get (D := D) (ci := 1) (v := .ref (q 7)) (C := RX1) (T := TX1) (N := 12) hx hb hts hinX1 hown hK hP 0 rfl rfl 8 (by decide) w_2 (fun _ h9 => h9) rfl dX1_endPassage_8 ?_
  refine lv_iload_n hx hb dX1_endPassage_11 rfl (lv_at hl 1 rfl) ?_
  refine lv_iload_n hx hb dX1_endPassage_12 rfl (lv_at hl 2 rfl) ?_
  refine va_iast (f := (t.2 4)) hx hb hK hP hD hS 5 0 rfl rfl (show vp_in k 40 from hk) dX1_endPassage_13 (fun H locs hP hD hS => ?_)
  have hP : va_P D vwCl (wT I q (t.1, xa (xa t.2 2 (upd (t.2 2) k.toNatClampNeg (2 : Int32))) 4 (upd (t.2 4) k.toNatClampNeg mi))) H := hP
  have hD : va_D A (wT I q (t.1, xa (xa t.2 2 (upd (t.2 2) k.toNatClampNeg (2 : Int32))) 4 (upd (t.2 4) k.toNatClampNeg mi))) := hD
  refine lv_aload_n hx hb dX1_endPassage_14 rfl (lv_at hl 0 rfl) ?_
  refine lv_dup hx hb dX1_endPassage_15 rfl ?_
  refine va_get (D := D) (ci := 1) (v := .int (t.1 1)) (C := RX1) (T := TX1) (N := 12) hx hb hts hinX1 hown hK hP 0 rfl rfl 1 (by decide) w_3 (fun _ h9 => h9) rfl dX1_endPassage_16 ?_
  refine lv_iconst (v := (1 : Int32)) hx hb dX1_endPassage_19 (by decide) ?_
  refine lv_iadd hx hb dX1_endPassage_20 ?_
  refine va_put (D := D) (ci := 1) (v := .int ((t.1 1) + (1 : Int32))) (ty := tyX1 1) (C := RX1) (T := TX1) (N := 12) hx hb hts hinX1 tyX1 tyX1_ok nmX1 hown hK hP hD hS 0 rfl rfl 1 (by decide) w_3 (fun _ h9 => h9) rfl (tyX1_ok 1 (by decide)) rfl rfl (Nat.le_of_ble_eq_true rfl) dX1_endPassage_21 (fun H locs hP hD hS => ?_)
  have hP : va_P D vwCl (wT I q (xs t.1 1 ((t.1 1) + (1 : Int32)), xa (xa t.2 2 (upd (t.2 2) k.toNatClampNeg (2 : Int32))) 4 (upd (t.2 4) k.toNatClampNeg mi))) H := hP
  have hD : va_D A (wT I q (xs t.1 1 ((t.1 1) + (1 : Int32)), xa (xa t.2 2 (upd (t.2 2) k.toNatClampNeg (2 : Int32))) 4 (upd (t.2 4) k.toNatClampNeg mi))) := hD
  exact xk_vret (wf := fun z : XT => wT I q z) (u := (xs t.1 1 ((t.1 1) + (1 : Int32)), xa (xa t.2 2 (upd (t.2 2) k.toNatClampNeg (2 : Int32))) 4 (upd (t.2 4) k.toNatClampNeg mi))) (u1 := (s_X1_endPassage t k mi)) hx hb hr hlocks hP hK hD hS (by unfold s_X1_endPassage; rfl) dX1_endPassage_24

/-- one traveller seen -/
def sw_step (g : Nat → Nat → Int32) (k : Nat) (f : Nat → Int32) : Nat → Int32 :=
  if g 2 k = 0 then (if g 0 k = 1 then xs (xs f 2 (f 2 + 1)) 4 (nI k) else xs (xs f 3 (f 3 + 1)) 5 (nI k)) else f
/-- all below k seen, from the last to the first -/
def sw (g : Nat → Nat → Int32) : Nat → (Nat → Int32) → (Nat → Int32)
  | 0, f => f
  | k + 1, f => sw g k (sw_step g k f)
def s_X1_seeWhoWaits (t : XT) : XT := (sw t.2 (t.1 0).toNatClampNeg (xs (xs (xs (xs t.1 2 0) 3 0) 4 (-1)) 5 (-1)), t.2)

set_option maxHeartbeats 800000 in
set_option maxRecDepth 100000 in
theorem c_X1_seeWhoWaits (l : Launch) (D : va_G) (I : ClassId) (q : Nat → Nat) (sz : Nat) (t : XT) (hn : nOk (t.1 0)) : xMv l D [(I, .int)] yX1_seeWhoWaits wsX1_seeWhoWaits { frames := 0, cells := 0, slots := 0, locals := 0 } [.ref (q 2)] sz (wT I q t) (wT I q (s_X1_seeWhoWaits t)) 0 0 := by
  refine xk_start (cc := cX1_seeWhoWaits) (maxL := 2) (ret := none) (Qf := fun A => xQv D [(I, .int)] A (wT I q (s_X1_seeWhoWaits t))) (by decide) rfl (Nat.le_of_ble_eq_true rfl) ?_
  intro p e s m below meth c A H ls hst hAe hsz hl
  obtain ⟨hx, hb, hr, hts, hown, hlocks, hml, hin, hN, hK, hP, hD, hA, hS⟩ := hst
  have hl : lv_has ls 2 [(0, .ref (q 2))] := hl
  have hP : va_P D vwCl (wT I q t) H := hP
  have hinX1 : ∀ w ∈ u_ws RX1 TX1 12, w ∈ wsX1_seeWhoWaits := by decide +kernel
  have w_1 := hts (.fieldLink RX1 18 "BridgeBells$Travellers" "bargesWaiting" "I") (by decide +kernel)
  have w_2 := hts (.fieldLink RX1 21 "BridgeBells$Travellers" "cartsWaiting" "I") (by decide +kernel)
  have w_3 := hts (.fieldLink RX1 43 "BridgeBells$Travellers" "firstBarge" "I") (by decide +kernel)
  have w_4 := hts (.fieldLink RX1 46 "BridgeBells$Travellers" "firstCart" "I") (by decide +kernel)
  have w_5 := hts (.fieldLink RX1 9 "BridgeBells$Travellers" "number" "I") (by decide +kernel)
  have w_6 := hts (.fieldLink RX1 31 "BridgeBells$Travellers" "state" "[I") (by decide +kernel)
  have w_7 := hts (.fieldLink RX1 24 "BridgeBells$Travellers" "barge" "[I") (by decide +kernel)
  have hn40 : (t.1 0).toNatClampNeg ≤ 40 := nOk_le hn
  have hx0 : (t.1 0 - 1).toInt = ((t.1 0).toNatClampNeg : Int) - 1 := nOk_m1 hn
  refine lv_aload_n hx hb dX1_seeWhoWaits_0 rfl (lv_at hl 0 rfl) ?_
  refine lv_iconst (v := (0 : Int32)) hx hb dX1_seeWhoWaits_1 (by decide) ?_
  refine va_put (D := D) (ci := 1) (v := .int (0 : Int32)) (ty := tyX1 2) (C := RX1) (T := TX1) (N := 12) hx hb hts hinX1 tyX1 tyX1_ok nmX1 hown hK hP hD hS 0 rfl rfl 2 (by decide) w_1 (fun _ h9 => h9) rfl (tyX1_ok 2 (by decide)) rfl rfl (Nat.le_of_ble_eq_true rfl) dX1_seeWhoWaits_2 (fun H locs hP hD hS => ?_)
  have hP : va_P D vwCl (wT I q (xs t.1 2 (0 : Int32), t.2)) H := hP
  have hD : va_D A (wT I q (xs t.1 2 (0 : Int32), t.2)) := hD
  refine lv_aload_n hx hb dX1_seeWhoWaits_5 rfl (lv_at hl 0 rfl) ?_
  refine lv_iconst (v := (0 : Int32)) hx hb dX1_seeWhoWaits_6 (by decide) ?_
  refine va_put (D := D) (ci := 1) (v := .int (0 : Int32)) (ty := tyX1 3) (C := RX1) (T := TX1) (N := 12) hx hb hts hinX1 tyX1 tyX1_ok nmX1 hown hK hP hD hS 0 rfl rfl 3 (by decide) w_2 (fun _ h9 => h9) rfl (tyX1_ok 3 (by decide)) rfl rfl (Nat.le_of_ble_eq_true rfl) dX1_seeWhoWaits_7 (fun H locs hP hD hS => ?_)
  have hP : va_P D vwCl (wT I q (xs (xs t.1 2 (0 : Int32)) 3 (0 : Int32), t.2)) H := hP
  have hD : va_D A (wT I q (xs (xs t.1 2 (0 : Int32)) 3 (0 : Int32), t.2)) := hD
  refine lv_aload_n hx hb dX1_seeWhoWaits_10 rfl (lv_at hl 0 rfl) ?_
  refine lv_iconst (v := (-1 : Int32)) hx hb dX1_seeWhoWaits_11 (by decide) ?_
  refine va_put (D := D) (ci := 1) (v := .int (-1 : Int32)) (ty := tyX1 10) (C := RX1) (T := TX1) (N := 12) hx hb hts hinX1 tyX1 tyX1_ok nmX1 hown hK hP hD hS 0 rfl rfl 10 (by decide) w_3 (fun _ h9 => h9) rfl (tyX1_ok 10 (by decide)) rfl rfl (Nat.le_of_ble_eq_true rfl) dX1_seeWhoWaits_12 (fun H locs hP hD hS => ?_)
  have hP : va_P D vwCl (wT I q (xs (xs (xs t.1 2 (0 : Int32)) 3 (0 : Int32)) 4 (-1 : Int32), t.2)) H := hP
  have hD : va_D A (wT I q (xs (xs (xs t.1 2 (0 : Int32)) 3 (0 : Int32)) 4 (-1 : Int32), t.2)) := hD
  refine lv_aload_n hx hb dX1_seeWhoWaits_15 rfl (lv_at hl 0 rfl) ?_
  refine lv_iconst (v := (-1 : Int32)) hx hb dX1_seeWhoWaits_16 (by decide) ?_
  refine va_put (D := D) (ci := 1) (v := .int (-1 : Int32)) (ty := tyX1 11) (C := RX1) (T := TX1) (N := 12) hx hb hts hinX1 tyX1 tyX1_ok nmX1 hown hK hP hD hS 0 rfl rfl 11 (by decide) w_4 (fun _ h9 => h9) rfl (tyX1_ok 11 (by decide)) rfl rfl (Nat.le_of_ble_eq_true rfl) dX1_seeWhoWaits_17 (fun H locs hP hD hS => ?_)
  have hP : va_P D vwCl (wT I q (xs (xs (xs (xs t.1 2 (0 : Int32)) 3 (0 : Int32)) 4 (-1 : Int32)) 5 (-1 : Int32), t.2)) H := hP
  have hD : va_D A (wT I q (xs (xs (xs (xs t.1 2 (0 : Int32)) 3 (0 : Int32)) 4 (-1 : Int32)) 5 (-1 : Int32), t.2)) := hD
  refine lv_aload_n hx hb dX1_seeWhoWaits_20 rfl (lv_at hl 0 rfl) ?_
  refine va_get (D := D) (ci := 1) (v := .int (t.1 0)) (C := RX1) (T := TX1) (N := 12) hx hb hts hinX1 hown hK hP 0 rfl rfl 0 (by decide) w_5 (fun _ h9 => h9) rfl dX1_seeWhoWaits_21 ?_
  refine lv_iconst (v := (1 : Int32)) hx hb dX1_seeWhoWaits_24 (by decide) ?_
  refine lv_isub hx hb dX1_seeWhoWaits_25 ?_
  refine lv_istore_n (lv' := [(1, .int ((t.1 0) - (1 : Int32))), (0, .ref (q 2))]) hx hb dX1_seeWhoWaits_26 rfl hl (by decide) rfl (fun ls hl => ?_)
  have loop : ∀ (k : Nat) (x : Int32) (f : Nat → Int32), k ≤ 40 → x.toInt = (k : Int) - 1 → ∀ (H : Heap) (locs : List Loc), va_P D vwCl (wT I q (f, t.2)) H → va_D A (wT I q (f, t.2)) → va_S A s.heap H locs → ∀ ls, lv_has ls 2 [(1, .int x), (0, .ref (q 2))] → W p l e { frames := 0, cells := 0, slots := 0, locals := 0 } s m #[.ref (q 2)] below meth c H locs 0 0 (MQ below (xQv D [(I, .int)] A (wT I q (sw t.2 k f, t.2))) #[.ref (q 2)] s 0 0 A) (F0 m 27 ls []) := by
    intro k
    induction k with
    | zero =>
      intro x f hk hx1 H locs hP hD hS ls hl
      refine lv_iload_n hx hb dX1_seeWhoWaits_27 rfl (lv_at hl 0 rfl) ?_
      refine lv_if_lt (tgt := 92) hx hb dX1_seeWhoWaits_28 (by decide) (fun c_1 => ?_) (fun c_1 => ?_)
      · exact xk_vret (wf := fun z : XT => wT I q z) (u := (f, t.2)) hx hb hr hlocks hP hK hD hS rfl dX1_seeWhoWaits_92
      · exact absurd (Int32.lt_iff_toInt_lt.mpr (by rw [hx1]; decide)) c_1
    | succ k ih =>
      intro x f hk hx1 H locs hP hD hS ls hl
      have hin1 : vp_in x 40 := vin40 (by omega) (by omega)
      have hxk : x = nI k := Int32.toInt_inj.mp (by rw [hx1, nI_toInt (by omega)]; omega)
      subst hxk
      refine lv_iload_n hx hb dX1_seeWhoWaits_27 rfl (lv_at hl 0 rfl) ?_
      refine lv_if_lt (tgt := 92) hx hb dX1_seeWhoWaits_28 (by decide) (fun c_2 => ?_) (fun c_2 => ?_)
      · exact absurd (Int32.lt_iff_toInt_lt.mp c_2) (by rw [nI_toInt (by omega)]; show ¬ ((k : Int) < 0); omega)
      · refine lv_aload_n hx hb dX1_seeWhoWaits_31 rfl (lv_at hl 1 rfl) ?_
        refine va_get (D := D) (ci := 1) (v := .ref (q 5)) (C := RX1) (T := TX1) (N := 12) hx hb hts hinX1 hown hK hP 0 rfl rfl 6 (by decide) w_6 (fun _ h9 => h9) rfl dX1_seeWhoWaits_32 ?_
        refine lv_iload_n hx hb dX1_seeWhoWaits_35 rfl (lv_at hl 0 rfl) ?_
        refine va_iald (f := (t.2 2)) hx hb hK hP 3 0 rfl rfl (show vp_in (nI k) 40 from hin1) dX1_seeWhoWaits_36 ?_
        refine W.eq (congrArg (fun z => F0 m 37 ls (.int ((t.2 2) z) :: [])) (nI_clamp (n := k) (by omega))) ?_
        refine lv_if_eq (tgt := 43) hx hb dX1_seeWhoWaits_37 (by decide) (fun c_3 => ?_) (fun c_3 => ?_)
        · refine lv_aload_n hx hb dX1_seeWhoWaits_43 rfl (lv_at hl 1 rfl) ?_
          refine va_get (D := D) (ci := 1) (v := .ref (q 3)) (C := RX1) (T := TX1) (N := 12) hx hb hts hinX1 hown hK hP 0 rfl rfl 4 (by decide) w_7 (fun _ h9 => h9) rfl dX1_seeWhoWaits_44 ?_
          refine lv_iload_n hx hb dX1_seeWhoWaits_47 rfl (lv_at hl 0 rfl) ?_
          refine va_iald (f := (t.2 0)) hx hb hK hP 1 0 rfl rfl (show vp_in (nI k) 40 from hin1) dX1_seeWhoWaits_48 ?_
          refine W.eq (congrArg (fun z => F0 m 49 ls (.int ((t.2 0) z) :: [])) (nI_clamp (n := k) (by omega))) ?_
          refine lv_iconst (v := (1 : Int32)) hx hb dX1_seeWhoWaits_49 (by decide) ?_
          refine lv_icmp_ne (tgt := 71) hx hb dX1_seeWhoWaits_50 (by decide) (fun c_4 => ?_) (fun c_4 => ?_)
          · refine lv_aload_n hx hb dX1_seeWhoWaits_71 rfl (lv_at hl 1 rfl) ?_
            refine lv_dup hx hb dX1_seeWhoWaits_72 rfl ?_
            refine va_get (D := D) (ci := 1) (v := .int (f 3)) (C := RX1) (T := TX1) (N := 12) hx hb hts hinX1 hown hK hP 0 rfl rfl 3 (by decide) w_2 (fun _ h9 => h9) rfl dX1_seeWhoWaits_73 ?_
            refine lv_iconst (v := (1 : Int32)) hx hb dX1_seeWhoWaits_76 (by decide) ?_
            refine lv_iadd hx hb dX1_seeWhoWaits_77 ?_
            refine va_put (D := D) (ci := 1) (v := .int ((f 3) + (1 : Int32))) (ty := tyX1 3) (C := RX1) (T := TX1) (N := 12) hx hb hts hinX1 tyX1 tyX1_ok nmX1 hown hK hP hD hS 0 rfl rfl 3 (by decide) w_2 (fun _ h9 => h9) rfl (tyX1_ok 3 (by decide)) rfl rfl (Nat.le_of_ble_eq_true rfl) dX1_seeWhoWaits_78 (fun H locs hP hD hS => ?_)
            have hP : va_P D vwCl (wT I q (xs f 3 ((f 3) + (1 : Int32)), t.2)) H := hP
            have hD : va_D A (wT I q (xs f 3 ((f 3) + (1 : Int32)), t.2)) := hD
            refine lv_aload_n hx hb dX1_seeWhoWaits_81 rfl (lv_at hl 1 rfl) ?_
            refine lv_iload_n hx hb dX1_seeWhoWaits_82 rfl (lv_at hl 0 rfl) ?_
            refine va_put (D := D) (ci := 1) (v := .int (nI k)) (ty := tyX1 11) (C := RX1) (T := TX1) (N := 12) hx hb hts hinX1 tyX1 tyX1_ok nmX1 hown hK hP hD hS 0 rfl rfl 11 (by decide) w_4 (fun _ h9 => h9) rfl (tyX1_ok 11 (by decide)) rfl rfl (Nat.le_of_ble_eq_true rfl) dX1_seeWhoWaits_83 (fun H locs hP hD hS => ?_)
            have hP : va_P D vwCl (wT I q (xs (xs f 3 ((f 3) + (1 : Int32))) 5 (nI k), t.2)) H := hP
            have hD : va_D A (wT I q (xs (xs f 3 ((f 3) + (1 : Int32))) 5 (nI k), t.2)) := hD
            refine lv_iinc (v := ((nI k) + (-1 : Int32))) (lv' := [(1, .int ((nI k) + (-1 : Int32))), (0, .ref (q 2))]) hx hb dX1_seeWhoWaits_86 hl (k := 0) rfl (by first | rfl | decide) (by decide) rfl (fun ls hl => ?_)
            refine lv_goto (tgt := 27) hx hb dX1_seeWhoWaits_89 (by decide) ?_
            have e9 : sw t.2 (k + 1) f = sw t.2 k (xs (xs f 3 ((f 3) + (1 : Int32))) 5 (nI k)) := by
              show sw t.2 k (sw_step t.2 k f) = _
              unfold sw_step; rw [if_pos c_3, if_neg c_4]
            rw [e9]
            exact ih _ _ (by omega) (by rw [Int32.toInt_add, nI_toInt (by omega)]; exact i_m1 (by omega)) _ _ hP hD hS ls hl
          · refine lv_aload_n hx hb dX1_seeWhoWaits_53 rfl (lv_at hl 1 rfl) ?_
            refine lv_dup hx hb dX1_seeWhoWaits_54 rfl ?_
            refine va_get (D := D) (ci := 1) (v := .int (f 2)) (C := RX1) (T := TX1) (N := 12) hx hb hts hinX1 hown hK hP 0 rfl rfl 2 (by decide) w_1 (fun _ h9 => h9) rfl dX1_seeWhoWaits_55 ?_
            refine lv_iconst (v := (1 : Int32)) hx hb dX1_seeWhoWaits_58 (by decide) ?_
            refine lv_iadd hx hb dX1_seeWhoWaits_59 ?_
            refine va_put (D := D) (ci := 1) (v := .int ((f 2) + (1 : Int32))) (ty := tyX1 2) (C := RX1) (T := TX1) (N := 12) hx hb hts hinX1 tyX1 tyX1_ok nmX1 hown hK hP hD hS 0 rfl rfl 2 (by decide) w_1 (fun _ h9 => h9) rfl (tyX1_ok 2 (by decide)) rfl rfl (Nat.le_of_ble_eq_true rfl) dX1_seeWhoWaits_60 (fun H locs hP hD hS => ?_)
            have hP : va_P D vwCl (wT I q (xs f 2 ((f 2) + (1 : Int32)), t.2)) H := hP
            have hD : va_D A (wT I q (xs f 2 ((f 2) + (1 : Int32)), t.2)) := hD
            refine lv_aload_n hx hb dX1_seeWhoWaits_63 rfl (lv_at hl 1 rfl) ?_
            refine lv_iload_n hx hb dX1_seeWhoWaits_64 rfl (lv_at hl 0 rfl) ?_
            refine va_put (D := D) (ci := 1) (v := .int (nI k)) (ty := tyX1 10) (C := RX1) (T := TX1) (N := 12) hx hb hts hinX1 tyX1 tyX1_ok nmX1 hown hK hP hD hS 0 rfl rfl 10 (by decide) w_3 (fun _ h9 => h9) rfl (tyX1_ok 10 (by decide)) rfl rfl (Nat.le_of_ble_eq_true rfl) dX1_seeWhoWaits_65 (fun H locs hP hD hS => ?_)
            have hP : va_P D vwCl (wT I q (xs (xs f 2 ((f 2) + (1 : Int32))) 4 (nI k), t.2)) H := hP
            have hD : va_D A (wT I q (xs (xs f 2 ((f 2) + (1 : Int32))) 4 (nI k), t.2)) := hD
            refine lv_goto (tgt := 86) hx hb dX1_seeWhoWaits_68 (by decide) ?_
            refine lv_iinc (v := ((nI k) + (-1 : Int32))) (lv' := [(1, .int ((nI k) + (-1 : Int32))), (0, .ref (q 2))]) hx hb dX1_seeWhoWaits_86 hl (k := 0) rfl (by first | rfl | decide) (by decide) rfl (fun ls hl => ?_)
            refine lv_goto (tgt := 27) hx hb dX1_seeWhoWaits_89 (by decide) ?_
            have e9 : sw t.2 (k + 1) f = sw t.2 k (xs (xs f 2 ((f 2) + (1 : Int32))) 4 (nI k)) := by
              show sw t.2 k (sw_step t.2 k f) = _
              unfold sw_step; rw [if_pos c_3, if_pos c_4]
            rw [e9]
            exact ih _ _ (by omega) (by rw [Int32.toInt_add, nI_toInt (by omega)]; exact i_m1 (by omega)) _ _ hP hD hS ls hl
        · refine lv_goto (tgt := 86) hx hb dX1_seeWhoWaits_40 (by decide) ?_
          refine lv_iinc (v := ((nI k) + (-1 : Int32))) (lv' := [(1, .int ((nI k) + (-1 : Int32))), (0, .ref (q 2))]) hx hb dX1_seeWhoWaits_86 hl (k := 0) rfl (by first | rfl | decide) (by decide) rfl (fun ls hl => ?_)
          refine lv_goto (tgt := 27) hx hb dX1_seeWhoWaits_89 (by decide) ?_
          have e9 : sw t.2 (k + 1) f = sw t.2 k (f) := by
            show sw t.2 k (sw_step t.2 k f) = _
            unfold sw_step; rw [if_neg c_3]
          rw [e9]
          exact ih _ _ (by omega) (by rw [Int32.toInt_add, nI_toInt (by omega)]; exact i_m1 (by omega)) _ _ hP hD hS ls hl
  exact loop _ _ _ hn40 hx0 _ _ hP hD hS ls hl

def g1_X1_endWait (t : XT) (k : Int32) (st : Int32) (mi : Int32) : XT := s_X1_seeWhoWaits (t.1, xa (xa t.2 2 (upd (t.2 2) k.toNatClampNeg st)) 5 (upd (t.2 5) k.toNatClampNeg mi))
def s_X1_endWait (t : XT) (k : Int32) (st : Int32) (mi : Int32) : XT :=
  (g1_X1_endWait t k st mi)
set_option maxHeartbeats 800000 in
set_option maxRecDepth 100000 in
theorem c_X1_endWait (l : Launch) (D : va_G) (I : ClassId) (q : Nat → Nat) (sz : Nat) (t : XT) (k : Int32) (st : Int32) (mi : Int32) (hk : vp_in k 40) (hn : nOk (t.1 0)) : xMv l D [(I, .int)] yX1_endWait wsX1_endWait { frames := 1, cells := 0, slots := 0, locals := 21 } [.ref (q 2), .int k, .int st, .int mi] sz (wT I q t) (wT I q (s_X1_endWait t k st mi)) 0 0 := by
  refine xk_start (cc := cX1_endWait) (maxL := 4) (ret := none) (Qf := fun A => xQv D [(I, .int)] A (wT I q (s_X1_endWait t k st mi))) (by decide) rfl (Nat.le_of_ble_eq_true rfl) ?_
  intro p e s m below meth c A H ls hst hAe hsz hl
  obtain ⟨hx, hb, hr, hts, hown, hlocks, hml, hin, hN, hK, hP, hD, hA, hS⟩ := hst
  have hl : lv_has ls 4 [(0, .ref (q 2)), (1, .int k), (2, .int st), (3, .int mi)] := hl
  have hP : va_P D vwCl (wT I q t) H := hP
  have hinX1 : ∀ w ∈ u_ws RX1 TX1 12, w ∈ wsX1_endWait := by decide +kernel
  have w_1 := hts (.fieldLink RX1 31 "BridgeBells$Travellers" "state" "[I") (by decide +kernel)
  have w_2 := hts (.fieldLink RX1 40 "BridgeBells$Travellers" "waitEnd" "[I") (by decide +kernel)
  refine lv_aload_n hx hb dX1_endWait_0 rfl (lv_at hl 0 rfl) ?_
  refine va_get (D := D) (ci := 1) (v := .ref (q 5)) (C := RX1) (T := TX1) (N := 12) hx hb hts hinX1 hown hK hP 0 rfl rfl 6 (by decide) w_1 (fun _ h9 => h9) rfl dX1_endWait_1 ?_
  refine lv_iload_n hx hb dX1_endWait_4 rfl (lv_at hl 1 rfl) ?_
  refine lv_iload_n hx hb dX1_endWait_5 rfl (lv_at hl 2 rfl) ?_
  refine va_iast (f := (t.2 2)) hx hb hK hP hD hS 3 0 rfl rfl (show vp_in k 40 from hk) dX1_endWait_6 (fun H locs hP hD hS => ?_)
  have hP : va_P D vwCl (wT I q (t.1, xa t.2 2 (upd (t.2 2) k.toNatClampNeg st))) H := hP
  have hD : va_D A (wT I q (t.1, xa t.2 2 (upd (t.2 2) k.toNatClampNeg st))) := hD
  refine lv_aload_n hx hb dX1_endWait_7 rfl (lv_at hl 0 rfl) ?_
  refine va_get (D := D) (ci := 1) (v := .ref (q 8)) (C := RX1) (T := TX1) (N := 12) hx hb hts hinX1 hown hK hP 0 rfl rfl 9 (by decide) w_2 (fun _ h9 => h9) rfl dX1_endWait_8 ?_
  refine lv_iload_n hx hb dX1_endWait_11 rfl (lv_at hl 1 rfl) ?_
  refine lv_iload_n hx hb dX1_endWait_12 rfl (lv_at hl 3 rfl) ?_
  refine va_iast (f := (t.2 5)) hx hb hK hP hD hS 6 0 rfl rfl (show vp_in k 40 from hk) dX1_endWait_13 (fun H locs hP hD hS => ?_)
  have hP : va_P D vwCl (wT I q (t.1, xa (xa t.2 2 (upd (t.2 2) k.toNatClampNeg st)) 5 (upd (t.2 5) k.toNatClampNeg mi))) H := hP
  have hD : va_D A (wT I q (t.1, xa (xa t.2 2 (upd (t.2 2) k.toNatClampNeg st)) 5 (upd (t.2 5) k.toNatClampNeg mi))) := hD
  refine lv_aload_n hx hb dX1_endWait_14 rfl (lv_at hl 0 rfl) ?_
  refine xk_callv ([]) (wT I q (s_X1_seeWhoWaits (t.1, xa (xa t.2 2 (upd (t.2 2) k.toNatClampNeg st)) 5 (upd (t.2 5) k.toNatClampNeg mi)))) [0, 1, 2, 3, 4, 5, 6] [] [0, 1, 2, 3, 4, 5, 6] hP hD hS hA (va_runV (As := []) (rest := []) ⟨hx, hb, hml, hown, hts⟩ (c_X1_seeWhoWaits l D I q H.size (t.1, xa (xa t.2 2 (upd (t.2 2) k.toNatClampNeg st)) 5 (upd (t.2 5) k.toNatClampNeg mi)) hn) (cwV 0 hts gX1_endWait_X1_seeWhoWaits rfl rfl rfl (by decide +kernel) ⟨Nat.le_of_ble_eq_true rfl, Nat.le_of_ble_eq_true rfl⟩) (xk_preV (wc := wT I q (t.1, xa (xa t.2 2 (upd (t.2 2) k.toNatClampNeg st)) 5 (upd (t.2 5) k.toNatClampNeg mi))) (q0 := 0) (ci := 1) hN hP hK hD [0, 1, 2, 3, 4, 5, 6] rfl rfl rfl rfl) rfl rfl hl.1 rfl (lv_room (Nat.le_of_ble_eq_true rfl)) dX1_endWait_15 ⟨Nat.le_of_ble_eq_true rfl, Nat.le_of_ble_eq_true rfl⟩) rfl rfl rfl (by decide) rfl rfl (fun H locs hP hD hS => ?_)
  generalize hz_1 : s_X1_seeWhoWaits (t.1, xa (xa t.2 2 (upd (t.2 2) k.toNatClampNeg st)) 5 (upd (t.2 5) k.toNatClampNeg mi)) = z_1 at hP hD
  have hg_1 : g1_X1_endWait t k st mi = z_1 := by rw [← hz_1]; rfl
  exact xk_vret (wf := fun z : XT => wT I q z) (u := z_1) (u1 := (s_X1_endWait t k st mi)) hx hb hr hlocks hP hK hD hS (by subst hg_1; unfold s_X1_endWait; rfl) dX1_endWait_18

def g1_X1_add (t : XT) (bg : Int32) (mn : Int32) (mi : Int32) : XT := s_X1_seeWhoWaits (xs t.1 0 ((t.1 0) + (1 : Int32)), xa (xa (xa (xa (xa t.2 0 (upd (t.2 0) (t.1 0).toNatClampNeg (0 : Int32))) 1 (upd (t.2 1) (t.1 0).toNatClampNeg mn)) 2 (upd (t.2 2) (t.1 0).toNatClampNeg (0 : Int32))) 3 (upd (t.2 3) (t.1 0).toNatClampNeg mi)) 4 (upd (t.2 4) (t.1 0).toNatClampNeg (-1 : Int32)))
def g2_X1_add (t : XT) (bg : Int32) (mn : Int32) (mi : Int32) : XT := s_X1_seeWhoWaits (xs t.1 0 ((t.1 0) + (1 : Int32)), xa (xa (xa (xa (xa t.2 0 (upd (t.2 0) (t.1 0).toNatClampNeg (1 : Int32))) 1 (upd (t.2 1) (t.1 0).toNatClampNeg mn)) 2 (upd (t.2 2) (t.1 0).toNatClampNeg (0 : Int32))) 3 (upd (t.2 3) (t.1 0).toNatClampNeg mi)) 4 (upd (t.2 4) (t.1 0).toNatClampNeg (-1 : Int32)))
def r_X1_add (t : XT) (bg : Int32) (mn : Int32) (mi : Int32) : Int32 :=
  if bg = 0 then
    (t.1 0)
  else
    (t.1 0)
def s_X1_add (t : XT) (bg : Int32) (mn : Int32) (mi : Int32) : XT :=
  if bg = 0 then
    (g1_X1_add t bg mn mi)
  else
    (g2_X1_add t bg mn mi)
set_option maxHeartbeats 800000 in
set_option maxRecDepth 100000 in
theorem c_X1_add (l : Launch) (D : va_G) (I : ClassId) (q : Nat → Nat) (sz : Nat) (t : XT) (bg : Int32) (mn : Int32) (mi : Int32) (hn : nOk (t.1 0)) (hn2 : (t.1 0).toInt < 40) : xMi l D [(I, .int)] yX1_add wsX1_add { frames := 1, cells := 0, slots := 0, locals := 21 } [.ref (q 2), .int bg, .int mn, .int mi] sz (wT I q t) (r_X1_add t bg mn mi) (wT I q (s_X1_add t bg mn mi)) 0 0 := by
  refine xk_start (cc := cX1_add) (maxL := 5) (ret := (some .int)) (Qf := fun A => xQi D [(I, .int)] A (r_X1_add t bg mn mi) (wT I q (s_X1_add t bg mn mi))) (by decide) rfl (Nat.le_of_ble_eq_true rfl) ?_
  intro p e s m below meth c A H ls hst hAe hsz hl
  obtain ⟨hx, hb, hr, hts, hown, hlocks, hml, hin, hN, hK, hP, hD, hA, hS⟩ := hst
  have hl : lv_has ls 5 [(0, .ref (q 2)), (1, .int bg), (2, .int mn), (3, .int mi)] := hl
  have hP : va_P D vwCl (wT I q t) H := hP
  have hinX1 : ∀ w ∈ u_ws RX1 TX1 12, w ∈ wsX1_add := by decide +kernel
  have w_1 := hts (.fieldLink RX1 9 "BridgeBells$Travellers" "number" "I") (by decide +kernel)
  have w_2 := hts (.fieldLink RX1 24 "BridgeBells$Travellers" "barge" "[I") (by decide +kernel)
  have w_3 := hts (.fieldLink RX1 28 "BridgeBells$Travellers" "needs" "[I") (by decide +kernel)
  have w_4 := hts (.fieldLink RX1 31 "BridgeBells$Travellers" "state" "[I") (by decide +kernel)
  have w_5 := hts (.fieldLink RX1 34 "BridgeBells$Travellers" "came" "[I") (by decide +kernel)
  have w_6 := hts (.fieldLink RX1 37 "BridgeBells$Travellers" "passedIn" "[I") (by decide +kernel)
  refine lv_aload_n hx hb dX1_add_0 rfl (lv_at hl 0 rfl) ?_
  refine va_get (D := D) (ci := 1) (v := .int (t.1 0)) (C := RX1) (T := TX1) (N := 12) hx hb hts hinX1 hown hK hP 0 rfl rfl 0 (by decide) w_1 (fun _ h9 => h9) rfl dX1_add_1 ?_
  refine lv_istore (lv' := [(4, .int (t.1 0)), (0, .ref (q 2)), (1, .int bg), (2, .int mn), (3, .int mi)]) hx hb dX1_add_4 hl (by decide) rfl (fun ls hl => ?_)
  refine lv_aload_n hx hb dX1_add_6 rfl (lv_at hl 1 rfl) ?_
  refine va_get (D := D) (ci := 1) (v := .ref (q 3)) (C := RX1) (T := TX1) (N := 12) hx hb hts hinX1 hown hK hP 0 rfl rfl 4 (by decide) w_2 (fun _ h9 => h9) rfl dX1_add_7 ?_
  refine lv_iload hx hb dX1_add_10 (lv_at hl 0 rfl) ?_
  refine lv_iload_n hx hb dX1_add_12 rfl (lv_at hl 2 rfl) ?_
  refine lv_if_eq (tgt := 20) hx hb dX1_add_13 (by decide) (fun c_1 => ?_) (fun c_1 => ?_)
  · refine lv_iconst (v := (0 : Int32)) hx hb dX1_add_20 (by decide) ?_
    refine va_iast (f := (t.2 0)) hx hb hK hP hD hS 1 0 rfl rfl (show vp_in (t.1 0) 40 from (vin40 hn.1 hn2)) dX1_add_21 (fun H locs hP hD hS => ?_)
    have hP : va_P D vwCl (wT I q (t.1, xa t.2 0 (upd (t.2 0) (t.1 0).toNatClampNeg (0 : Int32)))) H := hP
    have hD : va_D A (wT I q (t.1, xa t.2 0 (upd (t.2 0) (t.1 0).toNatClampNeg (0 : Int32)))) := hD
    refine lv_aload_n hx hb dX1_add_22 rfl (lv_at hl 1 rfl) ?_
    refine va_get (D := D) (ci := 1) (v := .ref (q 4)) (C := RX1) (T := TX1) (N := 12) hx hb hts hinX1 hown hK hP 0 rfl rfl 5 (by decide) w_3 (fun _ h9 => h9) rfl dX1_add_23 ?_
    refine lv_iload hx hb dX1_add_26 (lv_at hl 0 rfl) ?_
    refine lv_iload_n hx hb dX1_add_28 rfl (lv_at hl 3 rfl) ?_
    refine va_iast (f := (t.2 1)) hx hb hK hP hD hS 2 0 rfl rfl (show vp_in (t.1 0) 40 from (vin40 hn.1 hn2)) dX1_add_29 (fun H locs hP hD hS => ?_)
    have hP : va_P D vwCl (wT I q (t.1, xa (xa t.2 0 (upd (t.2 0) (t.1 0).toNatClampNeg (0 : Int32))) 1 (upd (t.2 1) (t.1 0).toNatClampNeg mn))) H := hP
    have hD : va_D A (wT I q (t.1, xa (xa t.2 0 (upd (t.2 0) (t.1 0).toNatClampNeg (0 : Int32))) 1 (upd (t.2 1) (t.1 0).toNatClampNeg mn))) := hD
    refine lv_aload_n hx hb dX1_add_30 rfl (lv_at hl 1 rfl) ?_
    refine va_get (D := D) (ci := 1) (v := .ref (q 5)) (C := RX1) (T := TX1) (N := 12) hx hb hts hinX1 hown hK hP 0 rfl rfl 6 (by decide) w_4 (fun _ h9 => h9) rfl dX1_add_31 ?_
    refine lv_iload hx hb dX1_add_34 (lv_at hl 0 rfl) ?_
    refine lv_iconst (v := (0 : Int32)) hx hb dX1_add_36 (by decide) ?_
    refine va_iast (f := (t.2 2)) hx hb hK hP hD hS 3 0 rfl rfl (show vp_in (t.1 0) 40 from (vin40 hn.1 hn2)) dX1_add_37 (fun H locs hP hD hS => ?_)
    have hP : va_P D vwCl (wT I q (t.1, xa (xa (xa t.2 0 (upd (t.2 0) (t.1 0).toNatClampNeg (0 : Int32))) 1 (upd (t.2 1) (t.1 0).toNatClampNeg mn)) 2 (upd (t.2 2) (t.1 0).toNatClampNeg (0 : Int32)))) H := hP
    have hD : va_D A (wT I q (t.1, xa (xa (xa t.2 0 (upd (t.2 0) (t.1 0).toNatClampNeg (0 : Int32))) 1 (upd (t.2 1) (t.1 0).toNatClampNeg mn)) 2 (upd (t.2 2) (t.1 0).toNatClampNeg (0 : Int32)))) := hD
    refine lv_aload_n hx hb dX1_add_38 rfl (lv_at hl 1 rfl) ?_
    refine va_get (D := D) (ci := 1) (v := .ref (q 6)) (C := RX1) (T := TX1) (N := 12) hx hb hts hinX1 hown hK hP 0 rfl rfl 7 (by decide) w_5 (fun _ h9 => h9) rfl dX1_add_39 ?_
    refine lv_iload hx hb dX1_add_42 (lv_at hl 0 rfl) ?_
    refine lv_iload_n hx hb dX1_add_44 rfl (lv_at hl 4 rfl) ?_
    refine va_iast (f := (t.2 3)) hx hb hK hP hD hS 4 0 rfl rfl (show vp_in (t.1 0) 40 from (vin40 hn.1 hn2)) dX1_add_45 (fun H locs hP hD hS => ?_)
    have hP : va_P D vwCl (wT I q (t.1, xa (xa (xa (xa t.2 0 (upd (t.2 0) (t.1 0).toNatClampNeg (0 : Int32))) 1 (upd (t.2 1) (t.1 0).toNatClampNeg mn)) 2 (upd (t.2 2) (t.1 0).toNatClampNeg (0 : Int32))) 3 (upd (t.2 3) (t.1 0).toNatClampNeg mi))) H := hP
    have hD : va_D A (wT I q (t.1, xa (xa (xa (xa t.2 0 (upd (t.2 0) (t.1 0).toNatClampNeg (0 : Int32))) 1 (upd (t.2 1) (t.1 0).toNatClampNeg mn)) 2 (upd (t.2 2) (t.1 0).toNatClampNeg (0 : Int32))) 3 (upd (t.2 3) (t.1 0).toNatClampNeg mi))) := hD
    refine lv_aload_n hx hb dX1_add_46 rfl (lv_at hl 1 rfl) ?_
    refine va_get (D := D) (ci := 1) (v := .ref (q 7)) (C := RX1) (T := TX1) (N := 12) hx hb hts hinX1 hown hK hP 0 rfl rfl 8 (by decide) w_6 (fun _ h9 => h9) rfl dX1_add_47 ?_
    refine lv_iload hx hb dX1_add_50 (lv_at hl 0 rfl) ?_
    refine lv_iconst (v := (-1 : Int32)) hx hb dX1_add_52 (by decide) ?_
    refine va_iast (f := (t.2 4)) hx hb hK hP hD hS 5 0 rfl rfl (show vp_in (t.1 0) 40 from (vin40 hn.1 hn2)) dX1_add_53 (fun H locs hP hD hS => ?_)
    have hP : va_P D vwCl (wT I q (t.1, xa (xa (xa (xa (xa t.2 0 (upd (t.2 0) (t.1 0).toNatClampNeg (0 : Int32))) 1 (upd (t.2 1) (t.1 0).toNatClampNeg mn)) 2 (upd (t.2 2) (t.1 0).toNatClampNeg (0 : Int32))) 3 (upd (t.2 3) (t.1 0).toNatClampNeg mi)) 4 (upd (t.2 4) (t.1 0).toNatClampNeg (-1 : Int32)))) H := hP
    have hD : va_D A (wT I q (t.1, xa (xa (xa (xa (xa t.2 0 (upd (t.2 0) (t.1 0).toNatClampNeg (0 : Int32))) 1 (upd (t.2 1) (t.1 0).toNatClampNeg mn)) 2 (upd (t.2 2) (t.1 0).toNatClampNeg (0 : Int32))) 3 (upd (t.2 3) (t.1 0).toNatClampNeg mi)) 4 (upd (t.2 4) (t.1 0).toNatClampNeg (-1 : Int32)))) := hD
    refine lv_aload_n hx hb dX1_add_54 rfl (lv_at hl 1 rfl) ?_
    refine lv_dup hx hb dX1_add_55 rfl ?_
    refine va_get (D := D) (ci := 1) (v := .int (t.1 0)) (C := RX1) (T := TX1) (N := 12) hx hb hts hinX1 hown hK hP 0 rfl rfl 0 (by decide) w_1 (fun _ h9 => h9) rfl dX1_add_56 ?_
    refine lv_iconst (v := (1 : Int32)) hx hb dX1_add_59 (by decide) ?_
    refine lv_iadd hx hb dX1_add_60 ?_
    refine va_put (D := D) (ci := 1) (v := .int ((t.1 0) + (1 : Int32))) (ty := tyX1 0) (C := RX1) (T := TX1) (N := 12) hx hb hts hinX1 tyX1 tyX1_ok nmX1 hown hK hP hD hS 0 rfl rfl 0 (by decide) w_1 (fun _ h9 => h9) rfl (tyX1_ok 0 (by decide)) rfl rfl (Nat.le_of_ble_eq_true rfl) dX1_add_61 (fun H locs hP hD hS => ?_)
    have hP : va_P D vwCl (wT I q (xs t.1 0 ((t.1 0) + (1 : Int32)), xa (xa (xa (xa (xa t.2 0 (upd (t.2 0) (t.1 0).toNatClampNeg (0 : Int32))) 1 (upd (t.2 1) (t.1 0).toNatClampNeg mn)) 2 (upd (t.2 2) (t.1 0).toNatClampNeg (0 : Int32))) 3 (upd (t.2 3) (t.1 0).toNatClampNeg mi)) 4 (upd (t.2 4) (t.1 0).toNatClampNeg (-1 : Int32)))) H := hP
    have hD : va_D A (wT I q (xs t.1 0 ((t.1 0) + (1 : Int32)), xa (xa (xa (xa (xa t.2 0 (upd (t.2 0) (t.1 0).toNatClampNeg (0 : Int32))) 1 (upd (t.2 1) (t.1 0).toNatClampNeg mn)) 2 (upd (t.2 2) (t.1 0).toNatClampNeg (0 : Int32))) 3 (upd (t.2 3) (t.1 0).toNatClampNeg mi)) 4 (upd (t.2 4) (t.1 0).toNatClampNeg (-1 : Int32)))) := hD
    refine lv_aload_n hx hb dX1_add_64 rfl (lv_at hl 1 rfl) ?_
    refine xk_callv ([]) (wT I q (s_X1_seeWhoWaits (xs t.1 0 ((t.1 0) + (1 : Int32)), xa (xa (xa (xa (xa t.2 0 (upd (t.2 0) (t.1 0).toNatClampNeg (0 : Int32))) 1 (upd (t.2 1) (t.1 0).toNatClampNeg mn)) 2 (upd (t.2 2) (t.1 0).toNatClampNeg (0 : Int32))) 3 (upd (t.2 3) (t.1 0).toNatClampNeg mi)) 4 (upd (t.2 4) (t.1 0).toNatClampNeg (-1 : Int32))))) [0, 1, 2, 3, 4, 5, 6] [] [0, 1, 2, 3, 4, 5, 6] hP hD hS hA (va_runV (As := []) (rest := []) ⟨hx, hb, hml, hown, hts⟩ (c_X1_seeWhoWaits l D I q H.size (xs t.1 0 ((t.1 0) + (1 : Int32)), xa (xa (xa (xa (xa t.2 0 (upd (t.2 0) (t.1 0).toNatClampNeg (0 : Int32))) 1 (upd (t.2 1) (t.1 0).toNatClampNeg mn)) 2 (upd (t.2 2) (t.1 0).toNatClampNeg (0 : Int32))) 3 (upd (t.2 3) (t.1 0).toNatClampNeg mi)) 4 (upd (t.2 4) (t.1 0).toNatClampNeg (-1 : Int32))) (nOk_p1 hn hn2)) (cwV 0 hts gX1_add_X1_seeWhoWaits rfl rfl rfl (by decide +kernel) ⟨Nat.le_of_ble_eq_true rfl, Nat.le_of_ble_eq_true rfl⟩) (xk_preV (wc := wT I q (xs t.1 0 ((t.1 0) + (1 : Int32)), xa (xa (xa (xa (xa t.2 0 (upd (t.2 0) (t.1 0).toNatClampNeg (0 : Int32))) 1 (upd (t.2 1) (t.1 0).toNatClampNeg mn)) 2 (upd (t.2 2) (t.1 0).toNatClampNeg (0 : Int32))) 3 (upd (t.2 3) (t.1 0).toNatClampNeg mi)) 4 (upd (t.2 4) (t.1 0).toNatClampNeg (-1 : Int32)))) (q0 := 0) (ci := 1) hN hP hK hD [0, 1, 2, 3, 4, 5, 6] rfl rfl rfl rfl) rfl rfl hl.1 rfl (lv_room (Nat.le_of_ble_eq_true rfl)) dX1_add_65 ⟨Nat.le_of_ble_eq_true rfl, Nat.le_of_ble_eq_true rfl⟩) rfl rfl rfl (by decide) rfl rfl (fun H locs hP hD hS => ?_)
    generalize hz_1 : s_X1_seeWhoWaits (xs t.1 0 ((t.1 0) + (1 : Int32)), xa (xa (xa (xa (xa t.2 0 (upd (t.2 0) (t.1 0).toNatClampNeg (0 : Int32))) 1 (upd (t.2 1) (t.1 0).toNatClampNeg mn)) 2 (upd (t.2 2) (t.1 0).toNatClampNeg (0 : Int32))) 3 (upd (t.2 3) (t.1 0).toNatClampNeg mi)) 4 (upd (t.2 4) (t.1 0).toNatClampNeg (-1 : Int32))) = z_1 at hP hD
    have hg_1 : g1_X1_add t bg mn mi = z_1 := by rw [← hz_1]; rfl
    refine lv_iload hx hb dX1_add_68 (lv_at hl 0 rfl) ?_
    exact xk_iret (wf := fun z : XT => wT I q z) (u := z_1) (u1 := (s_X1_add t bg mn mi)) hx hb hr rfl hlocks hP hK hD hS (by subst hg_1; unfold r_X1_add; rw [if_pos c_1]) (by subst hg_1; unfold s_X1_add; rw [if_pos c_1]) dX1_add_70
  · refine lv_iconst (v := (1 : Int32)) hx hb dX1_add_16 (by decide) ?_
    refine lv_goto (tgt := 21) hx hb dX1_add_17 (by decide) ?_
    refine va_iast (f := (t.2 0)) hx hb hK hP hD hS 1 0 rfl rfl (show vp_in (t.1 0) 40 from (vin40 hn.1 hn2)) dX1_add_21 (fun H locs hP hD hS => ?_)
    have hP : va_P D vwCl (wT I q (t.1, xa t.2 0 (upd (t.2 0) (t.1 0).toNatClampNeg (1 : Int32)))) H := hP
    have hD : va_D A (wT I q (t.1, xa t.2 0 (upd (t.2 0) (t.1 0).toNatClampNeg (1 : Int32)))) := hD
    refine lv_aload_n hx hb dX1_add_22 rfl (lv_at hl 1 rfl) ?_
    refine va_get (D := D) (ci := 1) (v := .ref (q 4)) (C := RX1) (T := TX1) (N := 12) hx hb hts hinX1 hown hK hP 0 rfl rfl 5 (by decide) w_3 (fun _ h9 => h9) rfl dX1_add_23 ?_
    refine lv_iload hx hb dX1_add_26 (lv_at hl 0 rfl) ?_
    refine lv_iload_n hx hb dX1_add_28 rfl (lv_at hl 3 rfl) ?_
    refine va_iast (f := (t.2 1)) hx hb hK hP hD hS 2 0 rfl rfl (show vp_in (t.1 0) 40 from (vin40 hn.1 hn2)) dX1_add_29 (fun H locs hP hD hS => ?_)
    have hP : va_P D vwCl (wT I q (t.1, xa (xa t.2 0 (upd (t.2 0) (t.1 0).toNatClampNeg (1 : Int32))) 1 (upd (t.2 1) (t.1 0).toNatClampNeg mn))) H := hP
    have hD : va_D A (wT I q (t.1, xa (xa t.2 0 (upd (t.2 0) (t.1 0).toNatClampNeg (1 : Int32))) 1 (upd (t.2 1) (t.1 0).toNatClampNeg mn))) := hD
    refine lv_aload_n hx hb dX1_add_30 rfl (lv_at hl 1 rfl) ?_
    refine va_get (D := D) (ci := 1) (v := .ref (q 5)) (C := RX1) (T := TX1) (N := 12) hx hb hts hinX1 hown hK hP 0 rfl rfl 6 (by decide) w_4 (fun _ h9 => h9) rfl dX1_add_31 ?_
    refine lv_iload hx hb dX1_add_34 (lv_at hl 0 rfl) ?_
    refine lv_iconst (v := (0 : Int32)) hx hb dX1_add_36 (by decide) ?_
    refine va_iast (f := (t.2 2)) hx hb hK hP hD hS 3 0 rfl rfl (show vp_in (t.1 0) 40 from (vin40 hn.1 hn2)) dX1_add_37 (fun H locs hP hD hS => ?_)
    have hP : va_P D vwCl (wT I q (t.1, xa (xa (xa t.2 0 (upd (t.2 0) (t.1 0).toNatClampNeg (1 : Int32))) 1 (upd (t.2 1) (t.1 0).toNatClampNeg mn)) 2 (upd (t.2 2) (t.1 0).toNatClampNeg (0 : Int32)))) H := hP
    have hD : va_D A (wT I q (t.1, xa (xa (xa t.2 0 (upd (t.2 0) (t.1 0).toNatClampNeg (1 : Int32))) 1 (upd (t.2 1) (t.1 0).toNatClampNeg mn)) 2 (upd (t.2 2) (t.1 0).toNatClampNeg (0 : Int32)))) := hD
    refine lv_aload_n hx hb dX1_add_38 rfl (lv_at hl 1 rfl) ?_
    refine va_get (D := D) (ci := 1) (v := .ref (q 6)) (C := RX1) (T := TX1) (N := 12) hx hb hts hinX1 hown hK hP 0 rfl rfl 7 (by decide) w_5 (fun _ h9 => h9) rfl dX1_add_39 ?_
    refine lv_iload hx hb dX1_add_42 (lv_at hl 0 rfl) ?_
    refine lv_iload_n hx hb dX1_add_44 rfl (lv_at hl 4 rfl) ?_
    refine va_iast (f := (t.2 3)) hx hb hK hP hD hS 4 0 rfl rfl (show vp_in (t.1 0) 40 from (vin40 hn.1 hn2)) dX1_add_45 (fun H locs hP hD hS => ?_)
    have hP : va_P D vwCl (wT I q (t.1, xa (xa (xa (xa t.2 0 (upd (t.2 0) (t.1 0).toNatClampNeg (1 : Int32))) 1 (upd (t.2 1) (t.1 0).toNatClampNeg mn)) 2 (upd (t.2 2) (t.1 0).toNatClampNeg (0 : Int32))) 3 (upd (t.2 3) (t.1 0).toNatClampNeg mi))) H := hP
    have hD : va_D A (wT I q (t.1, xa (xa (xa (xa t.2 0 (upd (t.2 0) (t.1 0).toNatClampNeg (1 : Int32))) 1 (upd (t.2 1) (t.1 0).toNatClampNeg mn)) 2 (upd (t.2 2) (t.1 0).toNatClampNeg (0 : Int32))) 3 (upd (t.2 3) (t.1 0).toNatClampNeg mi))) := hD
    refine lv_aload_n hx hb dX1_add_46 rfl (lv_at hl 1 rfl) ?_
    refine va_get (D := D) (ci := 1) (v := .ref (q 7)) (C := RX1) (T := TX1) (N := 12) hx hb hts hinX1 hown hK hP 0 rfl rfl 8 (by decide) w_6 (fun _ h9 => h9) rfl dX1_add_47 ?_
    refine lv_iload hx hb dX1_add_50 (lv_at hl 0 rfl) ?_
    refine lv_iconst (v := (-1 : Int32)) hx hb dX1_add_52 (by decide) ?_
    refine va_iast (f := (t.2 4)) hx hb hK hP hD hS 5 0 rfl rfl (show vp_in (t.1 0) 40 from (vin40 hn.1 hn2)) dX1_add_53 (fun H locs hP hD hS => ?_)
    have hP : va_P D vwCl (wT I q (t.1, xa (xa (xa (xa (xa t.2 0 (upd (t.2 0) (t.1 0).toNatClampNeg (1 : Int32))) 1 (upd (t.2 1) (t.1 0).toNatClampNeg mn)) 2 (upd (t.2 2) (t.1 0).toNatClampNeg (0 : Int32))) 3 (upd (t.2 3) (t.1 0).toNatClampNeg mi)) 4 (upd (t.2 4) (t.1 0).toNatClampNeg (-1 : Int32)))) H := hP
    have hD : va_D A (wT I q (t.1, xa (xa (xa (xa (xa t.2 0 (upd (t.2 0) (t.1 0).toNatClampNeg (1 : Int32))) 1 (upd (t.2 1) (t.1 0).toNatClampNeg mn)) 2 (upd (t.2 2) (t.1 0).toNatClampNeg (0 : Int32))) 3 (upd (t.2 3) (t.1 0).toNatClampNeg mi)) 4 (upd (t.2 4) (t.1 0).toNatClampNeg (-1 : Int32)))) := hD
    refine lv_aload_n hx hb dX1_add_54 rfl (lv_at hl 1 rfl) ?_
    refine lv_dup hx hb dX1_add_55 rfl ?_
    refine va_get (D := D) (ci := 1) (v := .int (t.1 0)) (C := RX1) (T := TX1) (N := 12) hx hb hts hinX1 hown hK hP 0 rfl rfl 0 (by decide) w_1 (fun _ h9 => h9) rfl dX1_add_56 ?_
    refine lv_iconst (v := (1 : Int32)) hx hb dX1_add_59 (by decide) ?_
    refine lv_iadd hx hb dX1_add_60 ?_
    refine va_put (D := D) (ci := 1) (v := .int ((t.1 0) + (1 : Int32))) (ty := tyX1 0) (C := RX1) (T := TX1) (N := 12) hx hb hts hinX1 tyX1 tyX1_ok nmX1 hown hK hP hD hS 0 rfl rfl 0 (by decide) w_1 (fun _ h9 => h9) rfl (tyX1_ok 0 (by decide)) rfl rfl (Nat.le_of_ble_eq_true rfl) dX1_add_61 (fun H locs hP hD hS => ?_)
    have hP : va_P D vwCl (wT I q (xs t.1 0 ((t.1 0) + (1 : Int32)), xa (xa (xa (xa (xa t.2 0 (upd (t.2 0) (t.1 0).toNatClampNeg (1 : Int32))) 1 (upd (t.2 1) (t.1 0).toNatClampNeg mn)) 2 (upd (t.2 2) (t.1 0).toNatClampNeg (0 : Int32))) 3 (upd (t.2 3) (t.1 0).toNatClampNeg mi)) 4 (upd (t.2 4) (t.1 0).toNatClampNeg (-1 : Int32)))) H := hP
    have hD : va_D A (wT I q (xs t.1 0 ((t.1 0) + (1 : Int32)), xa (xa (xa (xa (xa t.2 0 (upd (t.2 0) (t.1 0).toNatClampNeg (1 : Int32))) 1 (upd (t.2 1) (t.1 0).toNatClampNeg mn)) 2 (upd (t.2 2) (t.1 0).toNatClampNeg (0 : Int32))) 3 (upd (t.2 3) (t.1 0).toNatClampNeg mi)) 4 (upd (t.2 4) (t.1 0).toNatClampNeg (-1 : Int32)))) := hD
    refine lv_aload_n hx hb dX1_add_64 rfl (lv_at hl 1 rfl) ?_
    refine xk_callv ([]) (wT I q (s_X1_seeWhoWaits (xs t.1 0 ((t.1 0) + (1 : Int32)), xa (xa (xa (xa (xa t.2 0 (upd (t.2 0) (t.1 0).toNatClampNeg (1 : Int32))) 1 (upd (t.2 1) (t.1 0).toNatClampNeg mn)) 2 (upd (t.2 2) (t.1 0).toNatClampNeg (0 : Int32))) 3 (upd (t.2 3) (t.1 0).toNatClampNeg mi)) 4 (upd (t.2 4) (t.1 0).toNatClampNeg (-1 : Int32))))) [0, 1, 2, 3, 4, 5, 6] [] [0, 1, 2, 3, 4, 5, 6] hP hD hS hA (va_runV (As := []) (rest := []) ⟨hx, hb, hml, hown, hts⟩ (c_X1_seeWhoWaits l D I q H.size (xs t.1 0 ((t.1 0) + (1 : Int32)), xa (xa (xa (xa (xa t.2 0 (upd (t.2 0) (t.1 0).toNatClampNeg (1 : Int32))) 1 (upd (t.2 1) (t.1 0).toNatClampNeg mn)) 2 (upd (t.2 2) (t.1 0).toNatClampNeg (0 : Int32))) 3 (upd (t.2 3) (t.1 0).toNatClampNeg mi)) 4 (upd (t.2 4) (t.1 0).toNatClampNeg (-1 : Int32))) (nOk_p1 hn hn2)) (cwV 0 hts gX1_add_X1_seeWhoWaits rfl rfl rfl (by decide +kernel) ⟨Nat.le_of_ble_eq_true rfl, Nat.le_of_ble_eq_true rfl⟩) (xk_preV (wc := wT I q (xs t.1 0 ((t.1 0) + (1 : Int32)), xa (xa (xa (xa (xa t.2 0 (upd (t.2 0) (t.1 0).toNatClampNeg (1 : Int32))) 1 (upd (t.2 1) (t.1 0).toNatClampNeg mn)) 2 (upd (t.2 2) (t.1 0).toNatClampNeg (0 : Int32))) 3 (upd (t.2 3) (t.1 0).toNatClampNeg mi)) 4 (upd (t.2 4) (t.1 0).toNatClampNeg (-1 : Int32)))) (q0 := 0) (ci := 1) hN hP hK hD [0, 1, 2, 3, 4, 5, 6] rfl rfl rfl rfl) rfl rfl hl.1 rfl (lv_room (Nat.le_of_ble_eq_true rfl)) dX1_add_65 ⟨Nat.le_of_ble_eq_true rfl, Nat.le_of_ble_eq_true rfl⟩) rfl rfl rfl (by decide) rfl rfl (fun H locs hP hD hS => ?_)
    generalize hz_2 : s_X1_seeWhoWaits (xs t.1 0 ((t.1 0) + (1 : Int32)), xa (xa (xa (xa (xa t.2 0 (upd (t.2 0) (t.1 0).toNatClampNeg (1 : Int32))) 1 (upd (t.2 1) (t.1 0).toNatClampNeg mn)) 2 (upd (t.2 2) (t.1 0).toNatClampNeg (0 : Int32))) 3 (upd (t.2 3) (t.1 0).toNatClampNeg mi)) 4 (upd (t.2 4) (t.1 0).toNatClampNeg (-1 : Int32))) = z_2 at hP hD
    have hg_2 : g2_X1_add t bg mn mi = z_2 := by rw [← hz_2]; rfl
    refine lv_iload hx hb dX1_add_68 (lv_at hl 0 rfl) ?_
    exact xk_iret (wf := fun z : XT => wT I q z) (u := z_2) (u1 := (s_X1_add t bg mn mi)) hx hb hr rfl hlocks hP hK hD hS (by subst hg_2; unfold r_X1_add; rw [if_neg c_1]) (by subst hg_2; unfold s_X1_add; rw [if_neg c_1]) dX1_add_70

set_option maxHeartbeats 800000 in
set_option maxRecDepth 100000 in
theorem c_X1_copyFrom (l : Launch) (D : va_G) (I : ClassId) (q r : Nat → Nat) (sz : Nat) (t : XT) (o : XT)  : xMv l D [(I, .int)] yX1_copyFrom wsX1_copyFrom { frames := 1, cells := 0, slots := 0, locals := 18 } [.ref (q 2), .ref (r 2)] sz (wT I q t ++ wT I r o) (wT I q o ++ wT I r o) 0 0 := by
  refine xk_start (cc := cX1_copyFrom) (maxL := 2) (ret := none) (Qf := fun A => xQv D [(I, .int)] A (wT I q o ++ wT I r o)) (by decide) rfl (Nat.le_of_ble_eq_true rfl) ?_
  intro p e s m below meth c A H ls hst hAe hsz hl
  obtain ⟨hx, hb, hr, hts, hown, hlocks, hml, hin, hN, hK, hP, hD, hA, hS⟩ := hst
  have hl : lv_has ls 2 [(0, .ref (q 2)), (1, .ref (r 2))] := hl
  have hP : va_P D vwCl (wT I q t ++ wT I r o) H := hP
  have hinX1 : ∀ w ∈ u_ws RX1 TX1 12, w ∈ wsX1_copyFrom := by decide +kernel
  have w_1 := hts (.fieldLink RX1 9 "BridgeBells$Travellers" "number" "I") (by decide +kernel)
  have w_2 := hts (.fieldLink RX1 15 "BridgeBells$Travellers" "passed" "I") (by decide +kernel)
  have w_3 := hts (.fieldLink RX1 18 "BridgeBells$Travellers" "bargesWaiting" "I") (by decide +kernel)
  have w_4 := hts (.fieldLink RX1 21 "BridgeBells$Travellers" "cartsWaiting" "I") (by decide +kernel)
  have w_5 := hts (.fieldLink RX1 24 "BridgeBells$Travellers" "barge" "[I") (by decide +kernel)
  have w_6 := hts (.methodLink RX1 49 arraycopyName) (by decide +kernel)
  have w_7 := hts (.native arraycopyName) (by decide +kernel)
  have w_8 := hts (.static arraycopyName) (by decide +kernel)
  have w_9 := hts (.initialized "java/lang/System") (by decide +kernel)
  have w_10 := hts (.fieldLink RX1 28 "BridgeBells$Travellers" "needs" "[I") (by decide +kernel)
  have w_11 := hts (.fieldLink RX1 31 "BridgeBells$Travellers" "state" "[I") (by decide +kernel)
  have w_12 := hts (.fieldLink RX1 34 "BridgeBells$Travellers" "came" "[I") (by decide +kernel)
  have w_13 := hts (.fieldLink RX1 37 "BridgeBells$Travellers" "passedIn" "[I") (by decide +kernel)
  have w_14 := hts (.fieldLink RX1 40 "BridgeBells$Travellers" "waitEnd" "[I") (by decide +kernel)
  have w_15 := hts (.fieldLink RX1 43 "BridgeBells$Travellers" "firstBarge" "I") (by decide +kernel)
  have w_16 := hts (.fieldLink RX1 46 "BridgeBells$Travellers" "firstCart" "I") (by decide +kernel)
  refine lv_aload_n hx hb dX1_copyFrom_0 rfl (lv_at hl 0 rfl) ?_
  refine lv_aload_n hx hb dX1_copyFrom_1 rfl (lv_at hl 1 rfl) ?_
  refine va_get (D := D) (ci := 1) (v := .int (o.1 0)) (C := RX1) (T := TX1) (N := 12) hx hb hts hinX1 hown hK hP 7 rfl rfl 0 (by decide) w_1 (fun _ h9 => h9) rfl dX1_copyFrom_2 ?_
  refine va_put (D := D) (ci := 1) (v := .int (o.1 0)) (ty := tyX1 0) (C := RX1) (T := TX1) (N := 12) hx hb hts hinX1 tyX1 tyX1_ok nmX1 hown hK hP hD hS 0 rfl rfl 0 (by decide) w_1 (fun _ h9 => h9) rfl (tyX1_ok 0 (by decide)) rfl rfl (Nat.le_of_ble_eq_true rfl) dX1_copyFrom_5 (fun H locs hP hD hS => ?_)
  have hP : va_P D vwCl (wT I q (xs t.1 0 (o.1 0), t.2) ++ wT I r o) H := hP
  have hD : va_D A (wT I q (xs t.1 0 (o.1 0), t.2) ++ wT I r o) := hD
  refine lv_aload_n hx hb dX1_copyFrom_8 rfl (lv_at hl 0 rfl) ?_
  refine lv_aload_n hx hb dX1_copyFrom_9 rfl (lv_at hl 1 rfl) ?_
  refine va_get (D := D) (ci := 1) (v := .int (o.1 1)) (C := RX1) (T := TX1) (N := 12) hx hb hts hinX1 hown hK hP 7 rfl rfl 1 (by decide) w_2 (fun _ h9 => h9) rfl dX1_copyFrom_10 ?_
  refine va_put (D := D) (ci := 1) (v := .int (o.1 1)) (ty := tyX1 1) (C := RX1) (T := TX1) (N := 12) hx hb hts hinX1 tyX1 tyX1_ok nmX1 hown hK hP hD hS 0 rfl rfl 1 (by decide) w_2 (fun _ h9 => h9) rfl (tyX1_ok 1 (by decide)) rfl rfl (Nat.le_of_ble_eq_true rfl) dX1_copyFrom_13 (fun H locs hP hD hS => ?_)
  have hP : va_P D vwCl (wT I q (xs (xs t.1 0 (o.1 0)) 1 (o.1 1), t.2) ++ wT I r o) H := hP
  have hD : va_D A (wT I q (xs (xs t.1 0 (o.1 0)) 1 (o.1 1), t.2) ++ wT I r o) := hD
  refine lv_aload_n hx hb dX1_copyFrom_16 rfl (lv_at hl 0 rfl) ?_
  refine lv_aload_n hx hb dX1_copyFrom_17 rfl (lv_at hl 1 rfl) ?_
  refine va_get (D := D) (ci := 1) (v := .int (o.1 2)) (C := RX1) (T := TX1) (N := 12) hx hb hts hinX1 hown hK hP 7 rfl rfl 2 (by decide) w_3 (fun _ h9 => h9) rfl dX1_copyFrom_18 ?_
  refine va_put (D := D) (ci := 1) (v := .int (o.1 2)) (ty := tyX1 2) (C := RX1) (T := TX1) (N := 12) hx hb hts hinX1 tyX1 tyX1_ok nmX1 hown hK hP hD hS 0 rfl rfl 2 (by decide) w_3 (fun _ h9 => h9) rfl (tyX1_ok 2 (by decide)) rfl rfl (Nat.le_of_ble_eq_true rfl) dX1_copyFrom_21 (fun H locs hP hD hS => ?_)
  have hP : va_P D vwCl (wT I q (xs (xs (xs t.1 0 (o.1 0)) 1 (o.1 1)) 2 (o.1 2), t.2) ++ wT I r o) H := hP
  have hD : va_D A (wT I q (xs (xs (xs t.1 0 (o.1 0)) 1 (o.1 1)) 2 (o.1 2), t.2) ++ wT I r o) := hD
  refine lv_aload_n hx hb dX1_copyFrom_24 rfl (lv_at hl 0 rfl) ?_
  refine lv_aload_n hx hb dX1_copyFrom_25 rfl (lv_at hl 1 rfl) ?_
  refine va_get (D := D) (ci := 1) (v := .int (o.1 3)) (C := RX1) (T := TX1) (N := 12) hx hb hts hinX1 hown hK hP 7 rfl rfl 3 (by decide) w_4 (fun _ h9 => h9) rfl dX1_copyFrom_26 ?_
  refine va_put (D := D) (ci := 1) (v := .int (o.1 3)) (ty := tyX1 3) (C := RX1) (T := TX1) (N := 12) hx hb hts hinX1 tyX1 tyX1_ok nmX1 hown hK hP hD hS 0 rfl rfl 3 (by decide) w_4 (fun _ h9 => h9) rfl (tyX1_ok 3 (by decide)) rfl rfl (Nat.le_of_ble_eq_true rfl) dX1_copyFrom_29 (fun H locs hP hD hS => ?_)
  have hP : va_P D vwCl (wT I q (xs (xs (xs (xs t.1 0 (o.1 0)) 1 (o.1 1)) 2 (o.1 2)) 3 (o.1 3), t.2) ++ wT I r o) H := hP
  have hD : va_D A (wT I q (xs (xs (xs (xs t.1 0 (o.1 0)) 1 (o.1 1)) 2 (o.1 2)) 3 (o.1 3), t.2) ++ wT I r o) := hD
  refine lv_aload_n hx hb dX1_copyFrom_32 rfl (lv_at hl 1 rfl) ?_
  refine va_get (D := D) (ci := 1) (v := .ref (r 3)) (C := RX1) (T := TX1) (N := 12) hx hb hts hinX1 hown hK hP 7 rfl rfl 4 (by decide) w_5 (fun _ h9 => h9) rfl dX1_copyFrom_33 ?_
  refine lv_iconst (v := (0 : Int32)) hx hb dX1_copyFrom_36 (by decide) ?_
  refine lv_aload_n hx hb dX1_copyFrom_37 rfl (lv_at hl 0 rfl) ?_
  refine va_get (D := D) (ci := 1) (v := .ref (q 3)) (C := RX1) (T := TX1) (N := 12) hx hb hts hinX1 hown hK hP 0 rfl rfl 4 (by decide) w_5 (fun _ h9 => h9) rfl dX1_copyFrom_38 ?_
  refine lv_iconst (v := (0 : Int32)) hx hb dX1_copyFrom_41 (by decide) ?_
  refine lv_bipush (v := (40 : Int32)) hx hb dX1_copyFrom_42 (by decide) ?_
  refine va_copyi hx hb (hml.trans hl.1.symm) hown w_6 w_7 w_8 w_9 hK hP hD hS 8 1 0 0 rfl rfl rfl rfl rfl (by decide) (by decide) (by decide) (by decide) (by decide) (fun _ _ => rfl) (Nat.le_of_ble_eq_true rfl) (Nat.le_of_ble_eq_true rfl) dX1_copyFrom_44 (fun H locs hP hD hS => ?_)
  have hP := xk_arrP (g := (o.2 0)) 1 hP rfl (cpy_all (by decide))
  have hD := xk_arrD (g := (o.2 0)) 1 hD rfl
  have hP : va_P D vwCl (wT I q (xs (xs (xs (xs t.1 0 (o.1 0)) 1 (o.1 1)) 2 (o.1 2)) 3 (o.1 3), xa t.2 0 (o.2 0)) ++ wT I r o) H := hP
  have hD : va_D A (wT I q (xs (xs (xs (xs t.1 0 (o.1 0)) 1 (o.1 1)) 2 (o.1 2)) 3 (o.1 3), xa t.2 0 (o.2 0)) ++ wT I r o) := hD
  refine lv_aload_n hx hb dX1_copyFrom_47 rfl (lv_at hl 1 rfl) ?_
  refine va_get (D := D) (ci := 1) (v := .ref (r 4)) (C := RX1) (T := TX1) (N := 12) hx hb hts hinX1 hown hK hP 7 rfl rfl 5 (by decide) w_10 (fun _ h9 => h9) rfl dX1_copyFrom_48 ?_
  refine lv_iconst (v := (0 : Int32)) hx hb dX1_copyFrom_51 (by decide) ?_
  refine lv_aload_n hx hb dX1_copyFrom_52 rfl (lv_at hl 0 rfl) ?_
  refine va_get (D := D) (ci := 1) (v := .ref (q 4)) (C := RX1) (T := TX1) (N := 12) hx hb hts hinX1 hown hK hP 0 rfl rfl 5 (by decide) w_10 (fun _ h9 => h9) rfl dX1_copyFrom_53 ?_
  refine lv_iconst (v := (0 : Int32)) hx hb dX1_copyFrom_56 (by decide) ?_
  refine lv_bipush (v := (40 : Int32)) hx hb dX1_copyFrom_57 (by decide) ?_
  refine va_copyi hx hb (hml.trans hl.1.symm) hown w_6 w_7 w_8 w_9 hK hP hD hS 9 2 0 0 rfl rfl rfl rfl rfl (by decide) (by decide) (by decide) (by decide) (by decide) (fun _ _ => rfl) (Nat.le_of_ble_eq_true rfl) (Nat.le_of_ble_eq_true rfl) dX1_copyFrom_59 (fun H locs hP hD hS => ?_)
  have hP := xk_arrP (g := (o.2 1)) 2 hP rfl (cpy_all (by decide))
  have hD := xk_arrD (g := (o.2 1)) 2 hD rfl
  have hP : va_P D vwCl (wT I q (xs (xs (xs (xs t.1 0 (o.1 0)) 1 (o.1 1)) 2 (o.1 2)) 3 (o.1 3), xa (xa t.2 0 (o.2 0)) 1 (o.2 1)) ++ wT I r o) H := hP
  have hD : va_D A (wT I q (xs (xs (xs (xs t.1 0 (o.1 0)) 1 (o.1 1)) 2 (o.1 2)) 3 (o.1 3), xa (xa t.2 0 (o.2 0)) 1 (o.2 1)) ++ wT I r o) := hD
  refine lv_aload_n hx hb dX1_copyFrom_62 rfl (lv_at hl 1 rfl) ?_
  refine va_get (D := D) (ci := 1) (v := .ref (r 5)) (C := RX1) (T := TX1) (N := 12) hx hb hts hinX1 hown hK hP 7 rfl rfl 6 (by decide) w_11 (fun _ h9 => h9) rfl dX1_copyFrom_63 ?_
  refine lv_iconst (v := (0 : Int32)) hx hb dX1_copyFrom_66 (by decide) ?_
  refine lv_aload_n hx hb dX1_copyFrom_67 rfl (lv_at hl 0 rfl) ?_
  refine va_get (D := D) (ci := 1) (v := .ref (q 5)) (C := RX1) (T := TX1) (N := 12) hx hb hts hinX1 hown hK hP 0 rfl rfl 6 (by decide) w_11 (fun _ h9 => h9) rfl dX1_copyFrom_68 ?_
  refine lv_iconst (v := (0 : Int32)) hx hb dX1_copyFrom_71 (by decide) ?_
  refine lv_bipush (v := (40 : Int32)) hx hb dX1_copyFrom_72 (by decide) ?_
  refine va_copyi hx hb (hml.trans hl.1.symm) hown w_6 w_7 w_8 w_9 hK hP hD hS 10 3 0 0 rfl rfl rfl rfl rfl (by decide) (by decide) (by decide) (by decide) (by decide) (fun _ _ => rfl) (Nat.le_of_ble_eq_true rfl) (Nat.le_of_ble_eq_true rfl) dX1_copyFrom_74 (fun H locs hP hD hS => ?_)
  have hP := xk_arrP (g := (o.2 2)) 3 hP rfl (cpy_all (by decide))
  have hD := xk_arrD (g := (o.2 2)) 3 hD rfl
  have hP : va_P D vwCl (wT I q (xs (xs (xs (xs t.1 0 (o.1 0)) 1 (o.1 1)) 2 (o.1 2)) 3 (o.1 3), xa (xa (xa t.2 0 (o.2 0)) 1 (o.2 1)) 2 (o.2 2)) ++ wT I r o) H := hP
  have hD : va_D A (wT I q (xs (xs (xs (xs t.1 0 (o.1 0)) 1 (o.1 1)) 2 (o.1 2)) 3 (o.1 3), xa (xa (xa t.2 0 (o.2 0)) 1 (o.2 1)) 2 (o.2 2)) ++ wT I r o) := hD
  refine lv_aload_n hx hb dX1_copyFrom_77 rfl (lv_at hl 1 rfl) ?_
  refine va_get (D := D) (ci := 1) (v := .ref (r 6)) (C := RX1) (T := TX1) (N := 12) hx hb hts hinX1 hown hK hP 7 rfl rfl 7 (by decide) w_12 (fun _ h9 => h9) rfl dX1_copyFrom_78 ?_
  refine lv_iconst (v := (0 : Int32)) hx hb dX1_copyFrom_81 (by decide) ?_
  refine lv_aload_n hx hb dX1_copyFrom_82 rfl (lv_at hl 0 rfl) ?_
  refine va_get (D := D) (ci := 1) (v := .ref (q 6)) (C := RX1) (T := TX1) (N := 12) hx hb hts hinX1 hown hK hP 0 rfl rfl 7 (by decide) w_12 (fun _ h9 => h9) rfl dX1_copyFrom_83 ?_
  refine lv_iconst (v := (0 : Int32)) hx hb dX1_copyFrom_86 (by decide) ?_
  refine lv_bipush (v := (40 : Int32)) hx hb dX1_copyFrom_87 (by decide) ?_
  refine va_copyi hx hb (hml.trans hl.1.symm) hown w_6 w_7 w_8 w_9 hK hP hD hS 11 4 0 0 rfl rfl rfl rfl rfl (by decide) (by decide) (by decide) (by decide) (by decide) (fun _ _ => rfl) (Nat.le_of_ble_eq_true rfl) (Nat.le_of_ble_eq_true rfl) dX1_copyFrom_89 (fun H locs hP hD hS => ?_)
  have hP := xk_arrP (g := (o.2 3)) 4 hP rfl (cpy_all (by decide))
  have hD := xk_arrD (g := (o.2 3)) 4 hD rfl
  have hP : va_P D vwCl (wT I q (xs (xs (xs (xs t.1 0 (o.1 0)) 1 (o.1 1)) 2 (o.1 2)) 3 (o.1 3), xa (xa (xa (xa t.2 0 (o.2 0)) 1 (o.2 1)) 2 (o.2 2)) 3 (o.2 3)) ++ wT I r o) H := hP
  have hD : va_D A (wT I q (xs (xs (xs (xs t.1 0 (o.1 0)) 1 (o.1 1)) 2 (o.1 2)) 3 (o.1 3), xa (xa (xa (xa t.2 0 (o.2 0)) 1 (o.2 1)) 2 (o.2 2)) 3 (o.2 3)) ++ wT I r o) := hD
  refine lv_aload_n hx hb dX1_copyFrom_92 rfl (lv_at hl 1 rfl) ?_
  refine va_get (D := D) (ci := 1) (v := .ref (r 7)) (C := RX1) (T := TX1) (N := 12) hx hb hts hinX1 hown hK hP 7 rfl rfl 8 (by decide) w_13 (fun _ h9 => h9) rfl dX1_copyFrom_93 ?_
  refine lv_iconst (v := (0 : Int32)) hx hb dX1_copyFrom_96 (by decide) ?_
  refine lv_aload_n hx hb dX1_copyFrom_97 rfl (lv_at hl 0 rfl) ?_
  refine va_get (D := D) (ci := 1) (v := .ref (q 7)) (C := RX1) (T := TX1) (N := 12) hx hb hts hinX1 hown hK hP 0 rfl rfl 8 (by decide) w_13 (fun _ h9 => h9) rfl dX1_copyFrom_98 ?_
  refine lv_iconst (v := (0 : Int32)) hx hb dX1_copyFrom_101 (by decide) ?_
  refine lv_bipush (v := (40 : Int32)) hx hb dX1_copyFrom_102 (by decide) ?_
  refine va_copyi hx hb (hml.trans hl.1.symm) hown w_6 w_7 w_8 w_9 hK hP hD hS 12 5 0 0 rfl rfl rfl rfl rfl (by decide) (by decide) (by decide) (by decide) (by decide) (fun _ _ => rfl) (Nat.le_of_ble_eq_true rfl) (Nat.le_of_ble_eq_true rfl) dX1_copyFrom_104 (fun H locs hP hD hS => ?_)
  have hP := xk_arrP (g := (o.2 4)) 5 hP rfl (cpy_all (by decide))
  have hD := xk_arrD (g := (o.2 4)) 5 hD rfl
  have hP : va_P D vwCl (wT I q (xs (xs (xs (xs t.1 0 (o.1 0)) 1 (o.1 1)) 2 (o.1 2)) 3 (o.1 3), xa (xa (xa (xa (xa t.2 0 (o.2 0)) 1 (o.2 1)) 2 (o.2 2)) 3 (o.2 3)) 4 (o.2 4)) ++ wT I r o) H := hP
  have hD : va_D A (wT I q (xs (xs (xs (xs t.1 0 (o.1 0)) 1 (o.1 1)) 2 (o.1 2)) 3 (o.1 3), xa (xa (xa (xa (xa t.2 0 (o.2 0)) 1 (o.2 1)) 2 (o.2 2)) 3 (o.2 3)) 4 (o.2 4)) ++ wT I r o) := hD
  refine lv_aload_n hx hb dX1_copyFrom_107 rfl (lv_at hl 1 rfl) ?_
  refine va_get (D := D) (ci := 1) (v := .ref (r 8)) (C := RX1) (T := TX1) (N := 12) hx hb hts hinX1 hown hK hP 7 rfl rfl 9 (by decide) w_14 (fun _ h9 => h9) rfl dX1_copyFrom_108 ?_
  refine lv_iconst (v := (0 : Int32)) hx hb dX1_copyFrom_111 (by decide) ?_
  refine lv_aload_n hx hb dX1_copyFrom_112 rfl (lv_at hl 0 rfl) ?_
  refine va_get (D := D) (ci := 1) (v := .ref (q 8)) (C := RX1) (T := TX1) (N := 12) hx hb hts hinX1 hown hK hP 0 rfl rfl 9 (by decide) w_14 (fun _ h9 => h9) rfl dX1_copyFrom_113 ?_
  refine lv_iconst (v := (0 : Int32)) hx hb dX1_copyFrom_116 (by decide) ?_
  refine lv_bipush (v := (40 : Int32)) hx hb dX1_copyFrom_117 (by decide) ?_
  refine va_copyi hx hb (hml.trans hl.1.symm) hown w_6 w_7 w_8 w_9 hK hP hD hS 13 6 0 0 rfl rfl rfl rfl rfl (by decide) (by decide) (by decide) (by decide) (by decide) (fun _ _ => rfl) (Nat.le_of_ble_eq_true rfl) (Nat.le_of_ble_eq_true rfl) dX1_copyFrom_119 (fun H locs hP hD hS => ?_)
  have hP := xk_arrP (g := (o.2 5)) 6 hP rfl (cpy_all (by decide))
  have hD := xk_arrD (g := (o.2 5)) 6 hD rfl
  have hP : va_P D vwCl (wT I q (xs (xs (xs (xs t.1 0 (o.1 0)) 1 (o.1 1)) 2 (o.1 2)) 3 (o.1 3), xa (xa (xa (xa (xa (xa t.2 0 (o.2 0)) 1 (o.2 1)) 2 (o.2 2)) 3 (o.2 3)) 4 (o.2 4)) 5 (o.2 5)) ++ wT I r o) H := hP
  have hD : va_D A (wT I q (xs (xs (xs (xs t.1 0 (o.1 0)) 1 (o.1 1)) 2 (o.1 2)) 3 (o.1 3), xa (xa (xa (xa (xa (xa t.2 0 (o.2 0)) 1 (o.2 1)) 2 (o.2 2)) 3 (o.2 3)) 4 (o.2 4)) 5 (o.2 5)) ++ wT I r o) := hD
  refine lv_aload_n hx hb dX1_copyFrom_122 rfl (lv_at hl 0 rfl) ?_
  refine lv_aload_n hx hb dX1_copyFrom_123 rfl (lv_at hl 1 rfl) ?_
  refine va_get (D := D) (ci := 1) (v := .int (o.1 4)) (C := RX1) (T := TX1) (N := 12) hx hb hts hinX1 hown hK hP 7 rfl rfl 10 (by decide) w_15 (fun _ h9 => h9) rfl dX1_copyFrom_124 ?_
  refine va_put (D := D) (ci := 1) (v := .int (o.1 4)) (ty := tyX1 10) (C := RX1) (T := TX1) (N := 12) hx hb hts hinX1 tyX1 tyX1_ok nmX1 hown hK hP hD hS 0 rfl rfl 10 (by decide) w_15 (fun _ h9 => h9) rfl (tyX1_ok 10 (by decide)) rfl rfl (Nat.le_of_ble_eq_true rfl) dX1_copyFrom_127 (fun H locs hP hD hS => ?_)
  have hP : va_P D vwCl (wT I q (xs (xs (xs (xs (xs t.1 0 (o.1 0)) 1 (o.1 1)) 2 (o.1 2)) 3 (o.1 3)) 4 (o.1 4), xa (xa (xa (xa (xa (xa t.2 0 (o.2 0)) 1 (o.2 1)) 2 (o.2 2)) 3 (o.2 3)) 4 (o.2 4)) 5 (o.2 5)) ++ wT I r o) H := hP
  have hD : va_D A (wT I q (xs (xs (xs (xs (xs t.1 0 (o.1 0)) 1 (o.1 1)) 2 (o.1 2)) 3 (o.1 3)) 4 (o.1 4), xa (xa (xa (xa (xa (xa t.2 0 (o.2 0)) 1 (o.2 1)) 2 (o.2 2)) 3 (o.2 3)) 4 (o.2 4)) 5 (o.2 5)) ++ wT I r o) := hD
  refine lv_aload_n hx hb dX1_copyFrom_130 rfl (lv_at hl 0 rfl) ?_
  refine lv_aload_n hx hb dX1_copyFrom_131 rfl (lv_at hl 1 rfl) ?_
  refine va_get (D := D) (ci := 1) (v := .int (o.1 5)) (C := RX1) (T := TX1) (N := 12) hx hb hts hinX1 hown hK hP 7 rfl rfl 11 (by decide) w_16 (fun _ h9 => h9) rfl dX1_copyFrom_132 ?_
  refine va_put (D := D) (ci := 1) (v := .int (o.1 5)) (ty := tyX1 11) (C := RX1) (T := TX1) (N := 12) hx hb hts hinX1 tyX1 tyX1_ok nmX1 hown hK hP hD hS 0 rfl rfl 11 (by decide) w_16 (fun _ h9 => h9) rfl (tyX1_ok 11 (by decide)) rfl rfl (Nat.le_of_ble_eq_true rfl) dX1_copyFrom_135 (fun H locs hP hD hS => ?_)
  have hP : va_P D vwCl (wT I q (xs (xs (xs (xs (xs (xs t.1 0 (o.1 0)) 1 (o.1 1)) 2 (o.1 2)) 3 (o.1 3)) 4 (o.1 4)) 5 (o.1 5), xa (xa (xa (xa (xa (xa t.2 0 (o.2 0)) 1 (o.2 1)) 2 (o.2 2)) 3 (o.2 3)) 4 (o.2 4)) 5 (o.2 5)) ++ wT I r o) H := hP
  have hD : va_D A (wT I q (xs (xs (xs (xs (xs (xs t.1 0 (o.1 0)) 1 (o.1 1)) 2 (o.1 2)) 3 (o.1 3)) 4 (o.1 4)) 5 (o.1 5), xa (xa (xa (xa (xa (xa t.2 0 (o.2 0)) 1 (o.2 1)) 2 (o.2 2)) 3 (o.2 3)) 4 (o.2 4)) 5 (o.2 5)) ++ wT I r o) := hD
  have hP : va_P D vwCl (wT I q o ++ wT I r o) H := hP
  have hD : va_D A (wT I q o ++ wT I r o) := hD
  exact xk_vret (wf := fun z : XT × XT => wT I q z.1 ++ wT I r z.2) (u := (o, o)) (u1 := (o, o)) hx hb hr hlocks hP hK hD hS rfl dX1_copyFrom_138
