theorem lt40 {x : Int32} (h : x < (40 : Int32)) : x.toInt < 40 := by
  rw [Int32.lt_iff_toInt_lt] at h
  have h3 : (40 : Int32).toInt = 40 := by decide
  omega
theorem in08 {x : Int32} (h1 : ¬ x < 0) (h2 : x < (8 : Int32)) : vp_in x 8 := by
  rw [Int32.lt_iff_toInt_lt] at h1 h2
  have h3 : (8 : Int32).toInt = 8 := by decide
  have h4 : (0 : Int32).toInt = 0 := by decide
  exact vinN (by omega) (by omega)

def r_X2_isSpan (mi : Int32) : Int32 :=
  if mi < (1 : Int32) then
    (0 : Int32)
  else
    if (240 : Int32) < mi then
      (0 : Int32)
    else
      (1 : Int32)
set_option maxHeartbeats 800000 in
set_option maxRecDepth 100000 in
theorem c_X2_isSpan (l : Launch) (D : va_G) (I : ClassId) (sz : Nat) (mi : Int32)  : xMi l D [(I, .int)] yX2_isSpan wsX2_isSpan { frames := 0, cells := 0, slots := 0, locals := 0 } [.int mi] sz [] (r_X2_isSpan mi) [] 0 0 := by
  refine xk_start (cc := cX2_isSpan) (maxL := 1) (ret := (some .boolean)) (Qf := fun A => xQi D [(I, .int)] A (r_X2_isSpan mi) []) (by decide) rfl (Nat.le_of_ble_eq_true rfl) ?_
  intro p e s m below meth c A H ls hst hAe hsz hl
  obtain ⟨hx, hb, hr, hts, hown, hlocks, hml, hin, hN, hK, hP, hD, hA, hS⟩ := hst
  have hl : lv_has ls 1 [(0, .int mi)] := hl
  refine lv_iload_n hx hb dX2_isSpan_0 rfl (lv_at hl 0 rfl) ?_
  refine lv_iconst (v := (1 : Int32)) hx hb dX2_isSpan_1 (by decide) ?_
  refine lv_icmp_lt (tgt := 16) hx hb dX2_isSpan_2 (by decide) (fun c_1 => ?_) (fun c_1 => ?_)
  · refine lv_iconst (v := (0 : Int32)) hx hb dX2_isSpan_16 (by decide) ?_
    exact xk_iret (wf := fun _ : Unit => ([] : va_W)) (u := ()) hx hb hr rfl hlocks hP hK hD hS (by unfold r_X2_isSpan; rw [if_pos c_1]) rfl dX2_isSpan_17
  · refine lv_iload_n hx hb dX2_isSpan_5 rfl (lv_at hl 0 rfl) ?_
    refine lv_sipush (v := (240 : Int32)) hx hb dX2_isSpan_6 (by decide) ?_
    refine lv_icmp_gt (tgt := 16) hx hb dX2_isSpan_9 (by decide) (fun c_2 => ?_) (fun c_2 => ?_)
    · refine lv_iconst (v := (0 : Int32)) hx hb dX2_isSpan_16 (by decide) ?_
      exact xk_iret (wf := fun _ : Unit => ([] : va_W)) (u := ()) hx hb hr rfl hlocks hP hK hD hS (by unfold r_X2_isSpan; rw [if_neg c_1, if_pos c_2]) rfl dX2_isSpan_17
    · refine lv_iconst (v := (1 : Int32)) hx hb dX2_isSpan_12 (by decide) ?_
      refine lv_goto (tgt := 17) hx hb dX2_isSpan_13 (by decide) ?_
      exact xk_iret (wf := fun _ : Unit => ([] : va_W)) (u := ()) hx hb hr rfl hlocks hP hK hD hS (by unfold r_X2_isSpan; rw [if_neg c_1, if_neg c_2]) rfl dX2_isSpan_17

theorem span_b {v : Int32} (h : ¬ r_X2_isSpan v = 0) : 0 ≤ v.toInt ∧ v.toInt ≤ 240 := by
  unfold r_X2_isSpan at h
  have h3 : (1 : Int32).toInt = 1 := by decide
  have h4 : (240 : Int32).toInt = 240 := by decide
  by_cases h1 : v < (1 : Int32)
  · rw [if_pos h1] at h
    exact absurd rfl h
  · rw [if_neg h1] at h
    by_cases h2 : (240 : Int32) < v
    · rw [if_pos h2] at h
      exact absurd rfl h
    · rw [Int32.lt_iff_toInt_lt] at h1 h2
      omega

def g1_X2_come (b : XBr) (bg : Int32) (mn : Int32) : XT := s_X1_add b.2.2 bg mn (b.1 0)
def r_X2_come (b : XBr) (bg : Int32) (mn : Int32) : Int32 :=
  if mn < (1 : Int32) then
    (0 : Int32)
  else
    if mn ≤ (6 : Int32) then
      if (b.2.2.1 0) < (40 : Int32) then
        (r_X1_add b.2.2 bg mn (b.1 0))
      else
        (0 : Int32)
    else
      (0 : Int32)
def x_X2_come (b : XBr) (bg : Int32) (mn : Int32) : Int32 :=
  if mn < (1 : Int32) then
    (1 : Int32)
  else
    if mn ≤ (6 : Int32) then
      if (b.2.2.1 0) < (40 : Int32) then
        (0 : Int32)
      else
        (2 : Int32)
    else
      (1 : Int32)
def s_X2_come (b : XBr) (bg : Int32) (mn : Int32) : XBr :=
  if mn < (1 : Int32) then
    b
  else
    if mn ≤ (6 : Int32) then
      if (b.2.2.1 0) < (40 : Int32) then
        (b.1, b.2.1, (g1_X2_come b bg mn))
      else
        b
    else
      b
set_option maxHeartbeats 1600000 in
set_option maxRecDepth 100000 in
theorem c_X2_come (l : Launch) (hlt : l.stackTraces = false) (D : va_G) (I : ClassId) (h : Nat) (qb qt : Nat → Nat) (sz : Nat) (b z : XBr) (bg : Int32) (mn : Int32) (hn : nOk (b.2.2.1 0)) : xMX l D [(I, .int)] yX2_come wsX2_come { frames := 6, cells := 1, slots := 6, locals := 82 } [.ref h, .int bg, .int mn] sz ([cX h qb qt] ++ wB I qb b ++ wB I qt z) XBr [(eIA, 1), (eIS, 2)] (r_X2_come b bg mn) (x_X2_come b bg mn) (fun v : XBr => [cX h qb qt] ++ wB I qb (s_X2_come b bg mn) ++ wB I qt v) 1 6 := by
  refine xk_startX (cc := cX2_come) (maxL := 3) (ret := (some .int)) (Qf := fun A => xQiX D [(I, .int)] A XBr (r_X2_come b bg mn) (x_X2_come b bg mn) (fun v : XBr => [cX h qb qt] ++ wB I qb (s_X2_come b bg mn) ++ wB I qt v)) (XCf := fun A => xXC D [(I, .int)] A XBr [(eIA, 1), (eIS, 2)] (x_X2_come b bg mn) (fun v : XBr => [cX h qb qt] ++ wB I qb (s_X2_come b bg mn) ++ wB I qt v)) (by decide) rfl (Nat.le_of_ble_eq_true rfl) ?_
  intro p e s m below meth c A H ls hst hAe hsz hl hex hXX
  obtain ⟨hx, hb, hr, hts, hown, hlocks, hml, hin, hN, hK, hP, hD, hA, hS⟩ := hst
  have hl : lv_has ls 3 [(0, .ref h), (1, .int bg), (2, .int mn)] := hl
  have hP : va_P D vwCl ([cX h qb qt] ++ wB I qb b ++ wB I qt z) H := hP
  have hinX2 : ∀ w ∈ u_ws RX2 TX2 2, w ∈ wsX2_come := by decide +kernel
  have hinX0 : ∀ w ∈ u_ws RX0 TX0 11, w ∈ wsX2_come := by decide +kernel
  have hinX1 : ∀ w ∈ u_ws RX1 TX1 12, w ∈ wsX2_come := by decide +kernel
  have w_1 := hts (.classLink RX2 19 eIA) (by decide +kernel)
  have w_2 := hts (.initialized eIA) (by decide +kernel)
  have w_3 := hts (.fieldLink RX2 10 "BridgeBells" "bridge" "LBridgeBells$Bridge;") (by decide +kernel)
  have w_4 := hts (.fieldLink RX2 26 "BridgeBells$Bridge" "travellers" "LBridgeBells$Travellers;") (by decide +kernel)
  have w_5 := hts (.fieldLink RX2 30 "BridgeBells$Travellers" "number" "I") (by decide +kernel)
  have w_6 := hts (.fieldLink RX2 41 "BridgeBells$Bridge" "minute" "I") (by decide +kernel)
  have w_7 := hts (.classLink RX2 36 eIS) (by decide +kernel)
  have w_8 := hts (.initialized eIS) (by decide +kernel)
  refine lv_iload_n hx hb dX2_come_0 rfl (lv_at hl 2 rfl) ?_
  refine lv_iconst (v := (1 : Int32)) hx hb dX2_come_1 (by decide) ?_
  refine lv_icmp_lt (tgt := 11) hx hb dX2_come_2 (by decide) (fun c_1 => ?_) (fun c_1 => ?_)
  · refine xk_throw (wf := fun (z : XBr) (v : XBr) => [cX h qb qt] ++ wB I qb z ++ wB I qt v) (u := b) (u1 := (s_X2_come b bg mn)) z (cls := eIA) (text := "minutes is not 1 to 6") (ik := 19) (is := 21) (ic := 23) hx hb hlt hown (by decide +kernel) w_1 w_2 (by decide) (fun w h => hts w (List.mem_cons_of_mem _ (List.mem_append_left _ (List.mem_append_right _ h)))) (by decide +kernel) (by decide +kernel) hXX hP hK hD hS (hl.1.trans hml.symm) dX2_come_11 dX2_come_14 dX2_come_15 dX2_come_17 dX2_come_20 hex (Nat.le_of_ble_eq_true rfl) (Nat.le_of_ble_eq_true rfl) (Nat.le_of_ble_eq_true rfl) (Nat.le_of_ble_eq_true rfl) hlocks (Nat.le_of_ble_eq_true rfl) (Nat.le_of_ble_eq_true rfl) ?_ ?_
    · unfold x_X2_come; rw [if_pos c_1]; decide
    · unfold s_X2_come; rw [if_pos c_1]
  · refine lv_iload_n hx hb dX2_come_5 rfl (lv_at hl 2 rfl) ?_
    refine lv_bipush (v := (6 : Int32)) hx hb dX2_come_6 (by decide) ?_
    refine lv_icmp_le (tgt := 21) hx hb dX2_come_8 (by decide) (fun c_2 => ?_) (fun c_2 => ?_)
    · refine lv_aload_n hx hb dX2_come_21 rfl (lv_at hl 0 rfl) ?_
      refine va_get (D := D) (ci := 2) (v := .ref (qb 0)) (C := RX2) (T := TX2) (N := 2) hx hb hts hinX2 hown hK hP 0 rfl rfl 0 (by decide) w_3 (fun _ h9 => h9) rfl dX2_come_22 ?_
      refine va_get (D := D) (ci := 0) (v := .ref (qb 2)) (C := RX0) (T := TX0) (N := 11) hx hb hts hinX0 hown hK hP 1 rfl rfl 7 (by decide) w_4 (fun _ h9 => h9) rfl dX2_come_25 ?_
      refine va_get (D := D) (ci := 1) (v := .int (b.2.2.1 0)) (C := RX1) (T := TX1) (N := 12) hx hb hts hinX1 hown hK hP 3 rfl rfl 0 (by decide) w_5 (fun _ h9 => h9) rfl dX2_come_28 ?_
      refine lv_bipush (v := (40 : Int32)) hx hb dX2_come_31 (by decide) ?_
      refine lv_icmp_lt (tgt := 46) hx hb dX2_come_33 (by decide) (fun c_3 => ?_) (fun c_3 => ?_)
      · refine lv_aload_n hx hb dX2_come_46 rfl (lv_at hl 0 rfl) ?_
        refine va_get (D := D) (ci := 2) (v := .ref (qb 0)) (C := RX2) (T := TX2) (N := 2) hx hb hts hinX2 hown hK hP 0 rfl rfl 0 (by decide) w_3 (fun _ h9 => h9) rfl dX2_come_47 ?_
        refine va_get (D := D) (ci := 0) (v := .ref (qb 2)) (C := RX0) (T := TX0) (N := 11) hx hb hts hinX0 hown hK hP 1 rfl rfl 7 (by decide) w_4 (fun _ h9 => h9) rfl dX2_come_50 ?_
        refine lv_iload_n hx hb dX2_come_53 rfl (lv_at hl 1 rfl) ?_
        refine lv_iload_n hx hb dX2_come_54 rfl (lv_at hl 2 rfl) ?_
        refine lv_aload_n hx hb dX2_come_55 rfl (lv_at hl 0 rfl) ?_
        refine va_get (D := D) (ci := 2) (v := .ref (qb 0)) (C := RX2) (T := TX2) (N := 2) hx hb hts hinX2 hown hK hP 0 rfl rfl 0 (by decide) w_3 (fun _ h9 => h9) rfl dX2_come_56 ?_
        refine va_get (D := D) (ci := 0) (v := .int (b.1 0)) (C := RX0) (T := TX0) (N := 11) hx hb hts hinX0 hown hK hP 1 rfl rfl 0 (by decide) w_6 (fun _ h9 => h9) rfl dX2_come_59 ?_
        refine xk_calli ([cX h qb qt, cXB qb b.1, cA I (qb 1) 8 b.2.1, cXB qt z.1, cA I (qt 1) 8 z.2.1, cXT qt z.2.2.1, cA I (qt 3) 40 (z.2.2.2 0), cA I (qt 4) 40 (z.2.2.2 1), cA I (qt 5) 40 (z.2.2.2 2), cA I (qt 6) 40 (z.2.2.2 3), cA I (qt 7) 40 (z.2.2.2 4), cA I (qt 8) 40 (z.2.2.2 5)]) ([cX h qb qt] ++ wB I qb (b.1, b.2.1, (s_X1_add b.2.2 bg mn (b.1 0))) ++ wB I qt z) [3, 4, 5, 6, 7, 8, 9] [0, 1, 2, 10, 11, 12, 13, 14, 15, 16, 17, 18] [0, 1, 2, 12, 13, 14, 15, 16, 17, 18, 3, 4, 5, 6, 7, 8, 9, 10, 11] hP hD hS hA (va_runV (As := [.int bg, .int mn, .int (b.1 0)]) (rest := []) ⟨hx, hb, hml, hown, hts⟩ (c_X1_add l D I qb H.size b.2.2 bg mn (b.1 0) hn (lt40 c_3)) (cwV 3 hts gX2_come_X1_add rfl rfl rfl (by decide +kernel) ⟨Nat.le_of_ble_eq_true rfl, Nat.le_of_ble_eq_true rfl⟩) (xk_preV (wc := wT I qb b.2.2) (q0 := 3) (ci := 1) hN hP hK hD [3, 4, 5, 6, 7, 8, 9] rfl rfl rfl rfl) rfl rfl hl.1 rfl (lv_room (Nat.le_of_ble_eq_true rfl)) dX2_come_62 ⟨Nat.le_of_ble_eq_true rfl, Nat.le_of_ble_eq_true rfl⟩) rfl rfl rfl (by decide) rfl rfl (fun H locs hP hD hS => ?_)
        generalize hz_1 : s_X1_add b.2.2 bg mn (b.1 0) = z_1 at hP hD
        have hg_1 : g1_X2_come b bg mn = z_1 := by rw [← hz_1]; rfl
        refine W.widen (k := 1) (n := 6) (Nat.le_of_ble_eq_true rfl) (Nat.le_of_ble_eq_true rfl) ?_
        exact xk_iretX (wf := fun (z : XBr) (v : XBr) => [cX h qb qt] ++ wB I qb z ++ wB I qt v) (u := (b.1, b.2.1, z_1)) (u1 := (s_X2_come b bg mn)) z hx hb hr rfl hlocks hP hK hD hS (by subst hg_1; unfold x_X2_come; rw [if_neg c_1, if_pos c_2, if_pos c_3]) (by subst hg_1; unfold r_X2_come; rw [if_neg c_1, if_pos c_2, if_pos c_3]) (by subst hg_1; unfold s_X2_come; rw [if_neg c_1, if_pos c_2, if_pos c_3]) dX2_come_65
      · refine xk_throw (wf := fun (z : XBr) (v : XBr) => [cX h qb qt] ++ wB I qb z ++ wB I qt v) (u := b) (u1 := (s_X2_come b bg mn)) z (cls := eIS) (text := "there are 40 travellers") (ik := 36) (is := 38) (ic := 40) hx hb hlt hown (by decide +kernel) w_7 w_8 (by decide) (fun w h => hts w (List.mem_cons_of_mem _ (List.mem_append_right _ h))) (by decide +kernel) (by decide +kernel) hXX hP hK hD hS (hl.1.trans hml.symm) dX2_come_36 dX2_come_39 dX2_come_40 dX2_come_42 dX2_come_45 hex (Nat.le_of_ble_eq_true rfl) (Nat.le_of_ble_eq_true rfl) (Nat.le_of_ble_eq_true rfl) (Nat.le_of_ble_eq_true rfl) hlocks (Nat.le_of_ble_eq_true rfl) (Nat.le_of_ble_eq_true rfl) ?_ ?_
        · unfold x_X2_come; rw [if_neg c_1, if_pos c_2, if_neg c_3]; decide
        · unfold s_X2_come; rw [if_neg c_1, if_pos c_2, if_neg c_3]
    · refine xk_throw (wf := fun (z : XBr) (v : XBr) => [cX h qb qt] ++ wB I qb z ++ wB I qt v) (u := b) (u1 := (s_X2_come b bg mn)) z (cls := eIA) (text := "minutes is not 1 to 6") (ik := 19) (is := 21) (ic := 23) hx hb hlt hown (by decide +kernel) w_1 w_2 (by decide) (fun w h => hts w (List.mem_cons_of_mem _ (List.mem_append_left _ (List.mem_append_right _ h)))) (by decide +kernel) (by decide +kernel) hXX hP hK hD hS (hl.1.trans hml.symm) dX2_come_11 dX2_come_14 dX2_come_15 dX2_come_17 dX2_come_20 hex (Nat.le_of_ble_eq_true rfl) (Nat.le_of_ble_eq_true rfl) (Nat.le_of_ble_eq_true rfl) (Nat.le_of_ble_eq_true rfl) hlocks (Nat.le_of_ble_eq_true rfl) (Nat.le_of_ble_eq_true rfl) ?_ ?_
      · unfold x_X2_come; rw [if_neg c_1, if_neg c_2]; decide
      · unfold s_X2_come; rw [if_neg c_1, if_neg c_2]

def g1_X2_leave (b : XBr) (k : Int32) : XT := s_X1_endWait b.2.2 k (3 : Int32) (b.1 0)
def r_X2_leave (b : XBr) (k : Int32) : Int32 :=
  if (r_X1_has b.2.2 k) = 0 then
    (0 : Int32)
  else
    if ((b.2.2.2 2) k.toNatClampNeg) = 0 then
      (r_X1_waited (g1_X2_leave b k) k (b.1 0))
    else
      (0 : Int32)
def x_X2_leave (b : XBr) (k : Int32) : Int32 :=
  if (r_X1_has b.2.2 k) = 0 then
    (1 : Int32)
  else
    if ((b.2.2.2 2) k.toNatClampNeg) = 0 then
      (0 : Int32)
    else
      (2 : Int32)
def s_X2_leave (b : XBr) (k : Int32) : XBr :=
  if (r_X1_has b.2.2 k) = 0 then
    b
  else
    if ((b.2.2.2 2) k.toNatClampNeg) = 0 then
      (b.1, b.2.1, (g1_X2_leave b k))
    else
      b
set_option maxHeartbeats 1600000 in
set_option maxRecDepth 100000 in
theorem c_X2_leave (l : Launch) (hlt : l.stackTraces = false) (D : va_G) (I : ClassId) (h : Nat) (qb qt : Nat → Nat) (sz : Nat) (b z : XBr) (k : Int32) (hn : nOk (b.2.2.1 0)) : xMX l D [(I, .int)] yX2_leave wsX2_leave { frames := 6, cells := 1, slots := 6, locals := 82 } [.ref h, .int k] sz ([cX h qb qt] ++ wB I qb b ++ wB I qt z) XBr [(eIO, 1), (eIS, 2)] (r_X2_leave b k) (x_X2_leave b k) (fun v : XBr => [cX h qb qt] ++ wB I qb (s_X2_leave b k) ++ wB I qt v) 1 6 := by
  refine xk_startX (cc := cX2_leave) (maxL := 2) (ret := (some .int)) (Qf := fun A => xQiX D [(I, .int)] A XBr (r_X2_leave b k) (x_X2_leave b k) (fun v : XBr => [cX h qb qt] ++ wB I qb (s_X2_leave b k) ++ wB I qt v)) (XCf := fun A => xXC D [(I, .int)] A XBr [(eIO, 1), (eIS, 2)] (x_X2_leave b k) (fun v : XBr => [cX h qb qt] ++ wB I qb (s_X2_leave b k) ++ wB I qt v)) (by decide) rfl (Nat.le_of_ble_eq_true rfl) ?_
  intro p e s m below meth c A H ls hst hAe hsz hl hex hXX
  obtain ⟨hx, hb, hr, hts, hown, hlocks, hml, hin, hN, hK, hP, hD, hA, hS⟩ := hst
  have hl : lv_has ls 2 [(0, .ref h), (1, .int k)] := hl
  have hP : va_P D vwCl ([cX h qb qt] ++ wB I qb b ++ wB I qt z) H := hP
  have hinX2 : ∀ w ∈ u_ws RX2 TX2 2, w ∈ wsX2_leave := by decide +kernel
  have hinX0 : ∀ w ∈ u_ws RX0 TX0 11, w ∈ wsX2_leave := by decide +kernel
  have hinX1 : ∀ w ∈ u_ws RX1 TX1 12, w ∈ wsX2_leave := by decide +kernel
  have w_1 := hts (.fieldLink RX2 10 "BridgeBells" "bridge" "LBridgeBells$Bridge;") (by decide +kernel)
  have w_2 := hts (.fieldLink RX2 26 "BridgeBells$Bridge" "travellers" "LBridgeBells$Travellers;") (by decide +kernel)
  have w_3 := hts (.fieldLink RX2 57 "BridgeBells$Travellers" "state" "[I") (by decide +kernel)
  have w_4 := hts (.fieldLink RX2 41 "BridgeBells$Bridge" "minute" "I") (by decide +kernel)
  have w_5 := hts (.classLink RX2 36 eIS) (by decide +kernel)
  have w_6 := hts (.initialized eIS) (by decide +kernel)
  have w_7 := hts (.classLink RX2 52 eIO) (by decide +kernel)
  have w_8 := hts (.initialized eIO) (by decide +kernel)
  refine lv_aload_n hx hb dX2_leave_0 rfl (lv_at hl 0 rfl) ?_
  refine va_get (D := D) (ci := 2) (v := .ref (qb 0)) (C := RX2) (T := TX2) (N := 2) hx hb hts hinX2 hown hK hP 0 rfl rfl 0 (by decide) w_1 (fun _ h9 => h9) rfl dX2_leave_1 ?_
  refine va_get (D := D) (ci := 0) (v := .ref (qb 2)) (C := RX0) (T := TX0) (N := 11) hx hb hts hinX0 hown hK hP 1 rfl rfl 7 (by decide) w_2 (fun _ h9 => h9) rfl dX2_leave_4 ?_
  refine lv_iload_n hx hb dX2_leave_7 rfl (lv_at hl 1 rfl) ?_
  refine xk_calli ([cX h qb qt, cXB qb b.1, cA I (qb 1) 8 b.2.1, cXB qt z.1, cA I (qt 1) 8 z.2.1, cXT qt z.2.2.1, cA I (qt 3) 40 (z.2.2.2 0), cA I (qt 4) 40 (z.2.2.2 1), cA I (qt 5) 40 (z.2.2.2 2), cA I (qt 6) 40 (z.2.2.2 3), cA I (qt 7) 40 (z.2.2.2 4), cA I (qt 8) 40 (z.2.2.2 5)]) ([cX h qb qt] ++ wB I qb b ++ wB I qt z) [3, 4, 5, 6, 7, 8, 9] [0, 1, 2, 10, 11, 12, 13, 14, 15, 16, 17, 18] [0, 1, 2, 12, 13, 14, 15, 16, 17, 18, 3, 4, 5, 6, 7, 8, 9, 10, 11] hP hD hS hA (va_runV (As := [.int k]) (rest := []) ⟨hx, hb, hml, hown, hts⟩ (c_X1_has l D I qb H.size b.2.2 k ) (cwV 1 hts gX2_leave_X1_has rfl rfl rfl (by decide +kernel) ⟨Nat.le_of_ble_eq_true rfl, Nat.le_of_ble_eq_true rfl⟩) (xk_preV (wc := wT I qb b.2.2) (q0 := 3) (ci := 1) hN hP hK hD [3, 4, 5, 6, 7, 8, 9] rfl rfl rfl rfl) rfl rfl hl.1 rfl (lv_room (Nat.le_of_ble_eq_true rfl)) dX2_leave_8 ⟨Nat.le_of_ble_eq_true rfl, Nat.le_of_ble_eq_true rfl⟩) rfl rfl rfl (by decide) rfl rfl (fun H locs hP hD hS => ?_)
  refine lv_if_ne (tgt := 24) hx hb dX2_leave_11 (by decide) (fun c_1 => ?_) (fun c_1 => ?_)
  · refine lv_aload_n hx hb dX2_leave_24 rfl (lv_at hl 0 rfl) ?_
    refine va_get (D := D) (ci := 2) (v := .ref (qb 0)) (C := RX2) (T := TX2) (N := 2) hx hb hts hinX2 hown hK hP 0 rfl rfl 0 (by decide) w_1 (fun _ h9 => h9) rfl dX2_leave_25 ?_
    refine va_get (D := D) (ci := 0) (v := .ref (qb 2)) (C := RX0) (T := TX0) (N := 11) hx hb hts hinX0 hown hK hP 1 rfl rfl 7 (by decide) w_2 (fun _ h9 => h9) rfl dX2_leave_28 ?_
    refine va_get (D := D) (ci := 1) (v := .ref (qb 5)) (C := RX1) (T := TX1) (N := 12) hx hb hts hinX1 hown hK hP 3 rfl rfl 6 (by decide) w_3 (fun _ h9 => h9) rfl dX2_leave_31 ?_
    refine lv_iload_n hx hb dX2_leave_34 rfl (lv_at hl 1 rfl) ?_
    refine va_iald (f := (b.2.2.2 2)) hx hb hK hP 6 0 rfl rfl (show vp_in k 40 from (has_v hn c_1)) dX2_leave_35 ?_
    refine lv_if_eq (tgt := 49) hx hb dX2_leave_36 (by decide) (fun c_2 => ?_) (fun c_2 => ?_)
    · refine lv_aload_n hx hb dX2_leave_49 rfl (lv_at hl 0 rfl) ?_
      refine va_get (D := D) (ci := 2) (v := .ref (qb 0)) (C := RX2) (T := TX2) (N := 2) hx hb hts hinX2 hown hK hP 0 rfl rfl 0 (by decide) w_1 (fun _ h9 => h9) rfl dX2_leave_50 ?_
      refine va_get (D := D) (ci := 0) (v := .ref (qb 2)) (C := RX0) (T := TX0) (N := 11) hx hb hts hinX0 hown hK hP 1 rfl rfl 7 (by decide) w_2 (fun _ h9 => h9) rfl dX2_leave_53 ?_
      refine lv_iload_n hx hb dX2_leave_56 rfl (lv_at hl 1 rfl) ?_
      refine lv_iconst (v := (3 : Int32)) hx hb dX2_leave_57 (by decide) ?_
      refine lv_aload_n hx hb dX2_leave_58 rfl (lv_at hl 0 rfl) ?_
      refine va_get (D := D) (ci := 2) (v := .ref (qb 0)) (C := RX2) (T := TX2) (N := 2) hx hb hts hinX2 hown hK hP 0 rfl rfl 0 (by decide) w_1 (fun _ h9 => h9) rfl dX2_leave_59 ?_
      refine va_get (D := D) (ci := 0) (v := .int (b.1 0)) (C := RX0) (T := TX0) (N := 11) hx hb hts hinX0 hown hK hP 1 rfl rfl 0 (by decide) w_4 (fun _ h9 => h9) rfl dX2_leave_62 ?_
      refine xk_callv ([cX h qb qt, cXB qb b.1, cA I (qb 1) 8 b.2.1, cXB qt z.1, cA I (qt 1) 8 z.2.1, cXT qt z.2.2.1, cA I (qt 3) 40 (z.2.2.2 0), cA I (qt 4) 40 (z.2.2.2 1), cA I (qt 5) 40 (z.2.2.2 2), cA I (qt 6) 40 (z.2.2.2 3), cA I (qt 7) 40 (z.2.2.2 4), cA I (qt 8) 40 (z.2.2.2 5)]) ([cX h qb qt] ++ wB I qb (b.1, b.2.1, (s_X1_endWait b.2.2 k (3 : Int32) (b.1 0))) ++ wB I qt z) [3, 4, 5, 6, 7, 8, 9] [0, 1, 2, 10, 11, 12, 13, 14, 15, 16, 17, 18] [0, 1, 2, 12, 13, 14, 15, 16, 17, 18, 3, 4, 5, 6, 7, 8, 9, 10, 11] hP hD hS hA (va_runV (As := [.int k, .int (3 : Int32), .int (b.1 0)]) (rest := []) ⟨hx, hb, hml, hown, hts⟩ (c_X1_endWait l D I qb H.size b.2.2 k (3 : Int32) (b.1 0) (has_v hn c_1) hn) (cwV 3 hts gX2_leave_X1_endWait rfl rfl rfl (by decide +kernel) ⟨Nat.le_of_ble_eq_true rfl, Nat.le_of_ble_eq_true rfl⟩) (xk_preV (wc := wT I qb b.2.2) (q0 := 3) (ci := 1) hN hP hK hD [3, 4, 5, 6, 7, 8, 9] rfl rfl rfl rfl) rfl rfl hl.1 rfl (lv_room (Nat.le_of_ble_eq_true rfl)) dX2_leave_65 ⟨Nat.le_of_ble_eq_true rfl, Nat.le_of_ble_eq_true rfl⟩) rfl rfl rfl (by decide) rfl rfl (fun H locs hP hD hS => ?_)
      generalize hz_1 : s_X1_endWait b.2.2 k (3 : Int32) (b.1 0) = z_1 at hP hD
      have hg_1 : g1_X2_leave b k = z_1 := by rw [← hz_1]; rfl
      refine lv_aload_n hx hb dX2_leave_68 rfl (lv_at hl 0 rfl) ?_
      refine va_get (D := D) (ci := 2) (v := .ref (qb 0)) (C := RX2) (T := TX2) (N := 2) hx hb hts hinX2 hown hK hP 0 rfl rfl 0 (by decide) w_1 (fun _ h9 => h9) rfl dX2_leave_69 ?_
      refine va_get (D := D) (ci := 0) (v := .ref (qb 2)) (C := RX0) (T := TX0) (N := 11) hx hb hts hinX0 hown hK hP 1 rfl rfl 7 (by decide) w_2 (fun _ h9 => h9) rfl dX2_leave_72 ?_
      refine lv_iload_n hx hb dX2_leave_75 rfl (lv_at hl 1 rfl) ?_
      refine lv_aload_n hx hb dX2_leave_76 rfl (lv_at hl 0 rfl) ?_
      refine va_get (D := D) (ci := 2) (v := .ref (qb 0)) (C := RX2) (T := TX2) (N := 2) hx hb hts hinX2 hown hK hP 0 rfl rfl 0 (by decide) w_1 (fun _ h9 => h9) rfl dX2_leave_77 ?_
      refine va_get (D := D) (ci := 0) (v := .int (b.1 0)) (C := RX0) (T := TX0) (N := 11) hx hb hts hinX0 hown hK hP 1 rfl rfl 0 (by decide) w_4 (fun _ h9 => h9) rfl dX2_leave_80 ?_
      refine xk_calli ([cX h qb qt, cXB qb b.1, cA I (qb 1) 8 b.2.1, cXB qt z.1, cA I (qt 1) 8 z.2.1, cXT qt z.2.2.1, cA I (qt 3) 40 (z.2.2.2 0), cA I (qt 4) 40 (z.2.2.2 1), cA I (qt 5) 40 (z.2.2.2 2), cA I (qt 6) 40 (z.2.2.2 3), cA I (qt 7) 40 (z.2.2.2 4), cA I (qt 8) 40 (z.2.2.2 5)]) ([cX h qb qt] ++ wB I qb (b.1, b.2.1, z_1) ++ wB I qt z) [3, 4, 5, 6, 7, 8, 9] [0, 1, 2, 10, 11, 12, 13, 14, 15, 16, 17, 18] [0, 1, 2, 12, 13, 14, 15, 16, 17, 18, 3, 4, 5, 6, 7, 8, 9, 10, 11] hP hD hS hA (va_runV (As := [.int k, .int (b.1 0)]) (rest := []) ⟨hx, hb, hml, hown, hts⟩ (c_X1_waited l D I qb H.size z_1 k (b.1 0) (has_v hn c_1)) (cwV 2 hts gX2_leave_X1_waited rfl rfl rfl (by decide +kernel) ⟨Nat.le_of_ble_eq_true rfl, Nat.le_of_ble_eq_true rfl⟩) (xk_preV (wc := wT I qb z_1) (q0 := 3) (ci := 1) hN hP hK hD [3, 4, 5, 6, 7, 8, 9] rfl rfl rfl rfl) rfl rfl hl.1 rfl (lv_room (Nat.le_of_ble_eq_true rfl)) dX2_leave_83 ⟨Nat.le_of_ble_eq_true rfl, Nat.le_of_ble_eq_true rfl⟩) rfl rfl rfl (by decide) rfl rfl (fun H locs hP hD hS => ?_)
      refine W.widen (k := 1) (n := 6) (Nat.le_of_ble_eq_true rfl) (Nat.le_of_ble_eq_true rfl) ?_
      exact xk_iretX (wf := fun (z : XBr) (v : XBr) => [cX h qb qt] ++ wB I qb z ++ wB I qt v) (u := (b.1, b.2.1, z_1)) (u1 := (s_X2_leave b k)) z hx hb hr rfl hlocks hP hK hD hS (by subst hg_1; unfold x_X2_leave; rw [if_neg c_1, if_pos c_2]) (by subst hg_1; unfold r_X2_leave; rw [if_neg c_1, if_pos c_2]) (by subst hg_1; unfold s_X2_leave; rw [if_neg c_1, if_pos c_2]) dX2_leave_86
    · refine xk_throw (wf := fun (z : XBr) (v : XBr) => [cX h qb qt] ++ wB I qb z ++ wB I qt v) (u := b) (u1 := (s_X2_leave b k)) z (cls := eIS) (text := "the traveller does not wait") (ik := 36) (is := 61) (ic := 40) hx hb hlt hown (by decide +kernel) w_5 w_6 (by decide) (fun w h => hts w (List.mem_cons_of_mem _ (List.mem_append_right _ h))) (by decide +kernel) (by decide +kernel) hXX hP hK hD hS (hl.1.trans hml.symm) dX2_leave_39 dX2_leave_42 dX2_leave_43 dX2_leave_45 dX2_leave_48 hex (Nat.le_of_ble_eq_true rfl) (Nat.le_of_ble_eq_true rfl) (Nat.le_of_ble_eq_true rfl) (Nat.le_of_ble_eq_true rfl) hlocks (Nat.le_of_ble_eq_true rfl) (Nat.le_of_ble_eq_true rfl) ?_ ?_
      · unfold x_X2_leave; rw [if_neg c_1, if_neg c_2]; decide
      · unfold s_X2_leave; rw [if_neg c_1, if_neg c_2]
  · refine xk_throw (wf := fun (z : XBr) (v : XBr) => [cX h qb qt] ++ wB I qb z ++ wB I qt v) (u := b) (u1 := (s_X2_leave b k)) z (cls := eIO) (text := "there is no such traveller") (ik := 52) (is := 54) (ic := 56) hx hb hlt hown (by decide +kernel) w_7 w_8 (by decide) (fun w h => hts w (List.mem_cons_of_mem _ (List.mem_append_left _ (List.mem_append_right _ h)))) (by decide +kernel) (by decide +kernel) hXX hP hK hD hS (hl.1.trans hml.symm) dX2_leave_14 dX2_leave_17 dX2_leave_18 dX2_leave_20 dX2_leave_23 hex (Nat.le_of_ble_eq_true rfl) (Nat.le_of_ble_eq_true rfl) (Nat.le_of_ble_eq_true rfl) (Nat.le_of_ble_eq_true rfl) hlocks (Nat.le_of_ble_eq_true rfl) (Nat.le_of_ble_eq_true rfl) ?_ ?_
    · unfold x_X2_leave; rw [if_pos c_1]; decide
    · unfold s_X2_leave; rw [if_pos c_1]

def r_X2_ring (b : XBr) (nc : Int32) : Int32 :=
  if nc < 0 then
    (0 : Int32)
  else
    if nc ≤ (4 : Int32) then
      (b.1 4)
    else
      (0 : Int32)
def x_X2_ring (b : XBr) (nc : Int32) : Int32 :=
  if nc < 0 then
    (1 : Int32)
  else
    if nc ≤ (4 : Int32) then
      (0 : Int32)
    else
      (1 : Int32)
def s_X2_ring (b : XBr) (nc : Int32) : XBr :=
  if nc < 0 then
    b
  else
    if nc ≤ (4 : Int32) then
      (xs b.1 4 nc, b.2)
    else
      b
set_option maxHeartbeats 1600000 in
set_option maxRecDepth 100000 in
theorem c_X2_ring (l : Launch) (hlt : l.stackTraces = false) (D : va_G) (I : ClassId) (h : Nat) (qb qt : Nat → Nat) (sz : Nat) (b z : XBr) (nc : Int32)  : xMX l D [(I, .int)] yX2_ring wsX2_ring { frames := 6, cells := 1, slots := 6, locals := 82 } [.ref h, .int nc] sz ([cX h qb qt] ++ wB I qb b ++ wB I qt z) XBr [(eIA, 1)] (r_X2_ring b nc) (x_X2_ring b nc) (fun v : XBr => [cX h qb qt] ++ wB I qb (s_X2_ring b nc) ++ wB I qt v) 1 6 := by
  refine xk_startX (cc := cX2_ring) (maxL := 3) (ret := (some .int)) (Qf := fun A => xQiX D [(I, .int)] A XBr (r_X2_ring b nc) (x_X2_ring b nc) (fun v : XBr => [cX h qb qt] ++ wB I qb (s_X2_ring b nc) ++ wB I qt v)) (XCf := fun A => xXC D [(I, .int)] A XBr [(eIA, 1)] (x_X2_ring b nc) (fun v : XBr => [cX h qb qt] ++ wB I qb (s_X2_ring b nc) ++ wB I qt v)) (by decide) rfl (Nat.le_of_ble_eq_true rfl) ?_
  intro p e s m below meth c A H ls hst hAe hsz hl hex hXX
  obtain ⟨hx, hb, hr, hts, hown, hlocks, hml, hin, hN, hK, hP, hD, hA, hS⟩ := hst
  have hl : lv_has ls 3 [(0, .ref h), (1, .int nc)] := hl
  have hP : va_P D vwCl ([cX h qb qt] ++ wB I qb b ++ wB I qt z) H := hP
  have hinX2 : ∀ w ∈ u_ws RX2 TX2 2, w ∈ wsX2_ring := by decide +kernel
  have hinX0 : ∀ w ∈ u_ws RX0 TX0 11, w ∈ wsX2_ring := by decide +kernel
  have w_1 := hts (.classLink RX2 19 eIA) (by decide +kernel)
  have w_2 := hts (.initialized eIA) (by decide +kernel)
  have w_3 := hts (.fieldLink RX2 10 "BridgeBells" "bridge" "LBridgeBells$Bridge;") (by decide +kernel)
  have w_4 := hts (.fieldLink RX2 73 "BridgeBells$Bridge" "code" "I") (by decide +kernel)
  refine lv_iload_n hx hb dX2_ring_0 rfl (lv_at hl 1 rfl) ?_
  refine lv_if_lt (tgt := 9) hx hb dX2_ring_1 (by decide) (fun c_1 => ?_) (fun c_1 => ?_)
  · refine xk_throw (wf := fun (z : XBr) (v : XBr) => [cX h qb qt] ++ wB I qb z ++ wB I qt v) (u := b) (u1 := (s_X2_ring b nc)) z (cls := eIA) (text := "code is not 0 to 4") (ik := 19) (is := 71) (ic := 23) hx hb hlt hown (by decide +kernel) w_1 w_2 (by decide) (fun w h => hts w (List.mem_cons_of_mem _ (List.mem_append_right _ h))) (by decide +kernel) (by decide +kernel) hXX hP hK hD hS (hl.1.trans hml.symm) dX2_ring_9 dX2_ring_12 dX2_ring_13 dX2_ring_15 dX2_ring_18 hex (Nat.le_of_ble_eq_true rfl) (Nat.le_of_ble_eq_true rfl) (Nat.le_of_ble_eq_true rfl) (Nat.le_of_ble_eq_true rfl) hlocks (Nat.le_of_ble_eq_true rfl) (Nat.le_of_ble_eq_true rfl) ?_ ?_
    · unfold x_X2_ring; rw [if_pos c_1]; decide
    · unfold s_X2_ring; rw [if_pos c_1]
  · refine lv_iload_n hx hb dX2_ring_4 rfl (lv_at hl 1 rfl) ?_
    refine lv_iconst (v := (4 : Int32)) hx hb dX2_ring_5 (by decide) ?_
    refine lv_icmp_le (tgt := 19) hx hb dX2_ring_6 (by decide) (fun c_2 => ?_) (fun c_2 => ?_)
    · refine lv_aload_n hx hb dX2_ring_19 rfl (lv_at hl 0 rfl) ?_
      refine va_get (D := D) (ci := 2) (v := .ref (qb 0)) (C := RX2) (T := TX2) (N := 2) hx hb hts hinX2 hown hK hP 0 rfl rfl 0 (by decide) w_3 (fun _ h9 => h9) rfl dX2_ring_20 ?_
      refine va_get (D := D) (ci := 0) (v := .int (b.1 4)) (C := RX0) (T := TX0) (N := 11) hx hb hts hinX0 hown hK hP 1 rfl rfl 4 (by decide) w_4 (fun _ h9 => h9) rfl dX2_ring_23 ?_
      refine lv_istore_n (lv' := [(2, .int (b.1 4)), (0, .ref h), (1, .int nc)]) hx hb dX2_ring_26 rfl hl (by decide) rfl (fun ls hl => ?_)
      refine lv_aload_n hx hb dX2_ring_27 rfl (lv_at hl 1 rfl) ?_
      refine va_get (D := D) (ci := 2) (v := .ref (qb 0)) (C := RX2) (T := TX2) (N := 2) hx hb hts hinX2 hown hK hP 0 rfl rfl 0 (by decide) w_3 (fun _ h9 => h9) rfl dX2_ring_28 ?_
      refine lv_iload_n hx hb dX2_ring_31 rfl (lv_at hl 2 rfl) ?_
      refine va_put (D := D) (ci := 0) (v := .int nc) (ty := tyX0 4) (C := RX0) (T := TX0) (N := 11) hx hb hts hinX0 tyX0 tyX0_ok nmX0 hown hK hP hD hS 1 rfl rfl 4 (by decide) w_4 (fun _ h9 => h9) rfl (tyX0_ok 4 (by decide)) rfl rfl (Nat.le_of_ble_eq_true rfl) dX2_ring_32 (fun H locs hP hD hS => ?_)
      have hP : va_P D vwCl ([cX h qb qt] ++ wB I qb (xs b.1 4 nc, b.2) ++ wB I qt z) H := hP
      have hD : va_D A ([cX h qb qt] ++ wB I qb (xs b.1 4 nc, b.2) ++ wB I qt z) := hD
      refine lv_iload_n hx hb dX2_ring_35 rfl (lv_at hl 0 rfl) ?_
      refine W.widen (k := 1) (n := 6) (Nat.le_of_ble_eq_true rfl) (Nat.le_of_ble_eq_true rfl) ?_
      exact xk_iretX (wf := fun (z : XBr) (v : XBr) => [cX h qb qt] ++ wB I qb z ++ wB I qt v) (u := (xs b.1 4 nc, b.2)) (u1 := (s_X2_ring b nc)) z hx hb hr rfl hlocks hP hK hD hS (by unfold x_X2_ring; rw [if_neg c_1, if_pos c_2]) (by unfold r_X2_ring; rw [if_neg c_1, if_pos c_2]) (by unfold s_X2_ring; rw [if_neg c_1, if_pos c_2]) dX2_ring_36
    · refine xk_throw (wf := fun (z : XBr) (v : XBr) => [cX h qb qt] ++ wB I qb z ++ wB I qt v) (u := b) (u1 := (s_X2_ring b nc)) z (cls := eIA) (text := "code is not 0 to 4") (ik := 19) (is := 71) (ic := 23) hx hb hlt hown (by decide +kernel) w_1 w_2 (by decide) (fun w h => hts w (List.mem_cons_of_mem _ (List.mem_append_right _ h))) (by decide +kernel) (by decide +kernel) hXX hP hK hD hS (hl.1.trans hml.symm) dX2_ring_9 dX2_ring_12 dX2_ring_13 dX2_ring_15 dX2_ring_18 hex (Nat.le_of_ble_eq_true rfl) (Nat.le_of_ble_eq_true rfl) (Nat.le_of_ble_eq_true rfl) (Nat.le_of_ble_eq_true rfl) hlocks (Nat.le_of_ble_eq_true rfl) (Nat.le_of_ble_eq_true rfl) ?_ ?_
      · unfold x_X2_ring; rw [if_neg c_1, if_neg c_2]; decide
      · unfold s_X2_ring; rw [if_neg c_1, if_neg c_2]

def r_X2_poise (b : XBr) (cp : Int32) : Int32 :=
  if cp < 0 then
    (0 : Int32)
  else
    if cp ≤ (30 : Int32) then
      if (b.1 1) = 0 then
        (b.1 2)
      else
        if (b.1 1) = (60 : Int32) then
          (b.1 2)
        else
          (0 : Int32)
    else
      (0 : Int32)
def x_X2_poise (b : XBr) (cp : Int32) : Int32 :=
  if cp < 0 then
    (1 : Int32)
  else
    if cp ≤ (30 : Int32) then
      if (b.1 1) = 0 then
        (0 : Int32)
      else
        if (b.1 1) = (60 : Int32) then
          (0 : Int32)
        else
          (2 : Int32)
    else
      (1 : Int32)
def s_X2_poise (b : XBr) (cp : Int32) : XBr :=
  if cp < 0 then
    b
  else
    if cp ≤ (30 : Int32) then
      if (b.1 1) = 0 then
        (xs b.1 2 cp, b.2)
      else
        if (b.1 1) = (60 : Int32) then
          (xs b.1 2 cp, b.2)
        else
          b
    else
      b
set_option maxHeartbeats 1600000 in
set_option maxRecDepth 100000 in
theorem c_X2_poise (l : Launch) (hlt : l.stackTraces = false) (D : va_G) (I : ClassId) (h : Nat) (qb qt : Nat → Nat) (sz : Nat) (b z : XBr) (cp : Int32)  : xMX l D [(I, .int)] yX2_poise wsX2_poise { frames := 6, cells := 1, slots := 6, locals := 82 } [.ref h, .int cp] sz ([cX h qb qt] ++ wB I qb b ++ wB I qt z) XBr [(eIA, 1), (eIS, 2)] (r_X2_poise b cp) (x_X2_poise b cp) (fun v : XBr => [cX h qb qt] ++ wB I qb (s_X2_poise b cp) ++ wB I qt v) 1 6 := by
  refine xk_startX (cc := cX2_poise) (maxL := 3) (ret := (some .int)) (Qf := fun A => xQiX D [(I, .int)] A XBr (r_X2_poise b cp) (x_X2_poise b cp) (fun v : XBr => [cX h qb qt] ++ wB I qb (s_X2_poise b cp) ++ wB I qt v)) (XCf := fun A => xXC D [(I, .int)] A XBr [(eIA, 1), (eIS, 2)] (x_X2_poise b cp) (fun v : XBr => [cX h qb qt] ++ wB I qb (s_X2_poise b cp) ++ wB I qt v)) (by decide) rfl (Nat.le_of_ble_eq_true rfl) ?_
  intro p e s m below meth c A H ls hst hAe hsz hl hex hXX
  obtain ⟨hx, hb, hr, hts, hown, hlocks, hml, hin, hN, hK, hP, hD, hA, hS⟩ := hst
  have hl : lv_has ls 3 [(0, .ref h), (1, .int cp)] := hl
  have hP : va_P D vwCl ([cX h qb qt] ++ wB I qb b ++ wB I qt z) H := hP
  have hinX2 : ∀ w ∈ u_ws RX2 TX2 2, w ∈ wsX2_poise := by decide +kernel
  have hinX0 : ∀ w ∈ u_ws RX0 TX0 11, w ∈ wsX2_poise := by decide +kernel
  have w_1 := hts (.classLink RX2 19 eIA) (by decide +kernel)
  have w_2 := hts (.initialized eIA) (by decide +kernel)
  have w_3 := hts (.fieldLink RX2 10 "BridgeBells" "bridge" "LBridgeBells$Bridge;") (by decide +kernel)
  have w_4 := hts (.fieldLink RX2 78 "BridgeBells$Bridge" "angle" "I") (by decide +kernel)
  have w_5 := hts (.fieldLink RX2 83 "BridgeBells$Bridge" "counterpoise" "I") (by decide +kernel)
  have w_6 := hts (.classLink RX2 36 eIS) (by decide +kernel)
  have w_7 := hts (.initialized eIS) (by decide +kernel)
  refine lv_iload_n hx hb dX2_poise_0 rfl (lv_at hl 1 rfl) ?_
  refine lv_if_lt (tgt := 10) hx hb dX2_poise_1 (by decide) (fun c_1 => ?_) (fun c_1 => ?_)
  · refine xk_throw (wf := fun (z : XBr) (v : XBr) => [cX h qb qt] ++ wB I qb z ++ wB I qt v) (u := b) (u1 := (s_X2_poise b cp)) z (cls := eIA) (text := "counterpoise is not 0 to 30") (ik := 19) (is := 76) (ic := 23) hx hb hlt hown (by decide +kernel) w_1 w_2 (by decide) (fun w h => hts w (List.mem_cons_of_mem _ (List.mem_append_left _ (List.mem_append_right _ h)))) (by decide +kernel) (by decide +kernel) hXX hP hK hD hS (hl.1.trans hml.symm) dX2_poise_10 dX2_poise_13 dX2_poise_14 dX2_poise_16 dX2_poise_19 hex (Nat.le_of_ble_eq_true rfl) (Nat.le_of_ble_eq_true rfl) (Nat.le_of_ble_eq_true rfl) (Nat.le_of_ble_eq_true rfl) hlocks (Nat.le_of_ble_eq_true rfl) (Nat.le_of_ble_eq_true rfl) ?_ ?_
    · unfold x_X2_poise; rw [if_pos c_1]; decide
    · unfold s_X2_poise; rw [if_pos c_1]
  · refine lv_iload_n hx hb dX2_poise_4 rfl (lv_at hl 1 rfl) ?_
    refine lv_bipush (v := (30 : Int32)) hx hb dX2_poise_5 (by decide) ?_
    refine lv_icmp_le (tgt := 20) hx hb dX2_poise_7 (by decide) (fun c_2 => ?_) (fun c_2 => ?_)
    · refine lv_aload_n hx hb dX2_poise_20 rfl (lv_at hl 0 rfl) ?_
      refine va_get (D := D) (ci := 2) (v := .ref (qb 0)) (C := RX2) (T := TX2) (N := 2) hx hb hts hinX2 hown hK hP 0 rfl rfl 0 (by decide) w_3 (fun _ h9 => h9) rfl dX2_poise_21 ?_
      refine va_get (D := D) (ci := 0) (v := .int (b.1 1)) (C := RX0) (T := TX0) (N := 11) hx hb hts hinX0 hown hK hP 1 rfl rfl 1 (by decide) w_4 (fun _ h9 => h9) rfl dX2_poise_24 ?_
      refine lv_if_eq (tgt := 52) hx hb dX2_poise_27 (by decide) (fun c_3 => ?_) (fun c_3 => ?_)
      · refine lv_aload_n hx hb dX2_poise_52 rfl (lv_at hl 0 rfl) ?_
        refine va_get (D := D) (ci := 2) (v := .ref (qb 0)) (C := RX2) (T := TX2) (N := 2) hx hb hts hinX2 hown hK hP 0 rfl rfl 0 (by decide) w_3 (fun _ h9 => h9) rfl dX2_poise_53 ?_
        refine va_get (D := D) (ci := 0) (v := .int (b.1 2)) (C := RX0) (T := TX0) (N := 11) hx hb hts hinX0 hown hK hP 1 rfl rfl 2 (by decide) w_5 (fun _ h9 => h9) rfl dX2_poise_56 ?_
        refine lv_istore_n (lv' := [(2, .int (b.1 2)), (0, .ref h), (1, .int cp)]) hx hb dX2_poise_59 rfl hl (by decide) rfl (fun ls hl => ?_)
        refine lv_aload_n hx hb dX2_poise_60 rfl (lv_at hl 1 rfl) ?_
        refine va_get (D := D) (ci := 2) (v := .ref (qb 0)) (C := RX2) (T := TX2) (N := 2) hx hb hts hinX2 hown hK hP 0 rfl rfl 0 (by decide) w_3 (fun _ h9 => h9) rfl dX2_poise_61 ?_
        refine lv_iload_n hx hb dX2_poise_64 rfl (lv_at hl 2 rfl) ?_
        refine va_put (D := D) (ci := 0) (v := .int cp) (ty := tyX0 2) (C := RX0) (T := TX0) (N := 11) hx hb hts hinX0 tyX0 tyX0_ok nmX0 hown hK hP hD hS 1 rfl rfl 2 (by decide) w_5 (fun _ h9 => h9) rfl (tyX0_ok 2 (by decide)) rfl rfl (Nat.le_of_ble_eq_true rfl) dX2_poise_65 (fun H locs hP hD hS => ?_)
        have hP : va_P D vwCl ([cX h qb qt] ++ wB I qb (xs b.1 2 cp, b.2) ++ wB I qt z) H := hP
        have hD : va_D A ([cX h qb qt] ++ wB I qb (xs b.1 2 cp, b.2) ++ wB I qt z) := hD
        refine lv_iload_n hx hb dX2_poise_68 rfl (lv_at hl 0 rfl) ?_
        refine W.widen (k := 1) (n := 6) (Nat.le_of_ble_eq_true rfl) (Nat.le_of_ble_eq_true rfl) ?_
        exact xk_iretX (wf := fun (z : XBr) (v : XBr) => [cX h qb qt] ++ wB I qb z ++ wB I qt v) (u := (xs b.1 2 cp, b.2)) (u1 := (s_X2_poise b cp)) z hx hb hr rfl hlocks hP hK hD hS (by unfold x_X2_poise; rw [if_neg c_1, if_pos c_2, if_pos c_3]) (by unfold r_X2_poise; rw [if_neg c_1, if_pos c_2, if_pos c_3]) (by unfold s_X2_poise; rw [if_neg c_1, if_pos c_2, if_pos c_3]) dX2_poise_69
      · refine lv_aload_n hx hb dX2_poise_30 rfl (lv_at hl 0 rfl) ?_
        refine va_get (D := D) (ci := 2) (v := .ref (qb 0)) (C := RX2) (T := TX2) (N := 2) hx hb hts hinX2 hown hK hP 0 rfl rfl 0 (by decide) w_3 (fun _ h9 => h9) rfl dX2_poise_31 ?_
        refine va_get (D := D) (ci := 0) (v := .int (b.1 1)) (C := RX0) (T := TX0) (N := 11) hx hb hts hinX0 hown hK hP 1 rfl rfl 1 (by decide) w_4 (fun _ h9 => h9) rfl dX2_poise_34 ?_
        refine lv_bipush (v := (60 : Int32)) hx hb dX2_poise_37 (by decide) ?_
        refine lv_icmp_eq (tgt := 52) hx hb dX2_poise_39 (by decide) (fun c_4 => ?_) (fun c_4 => ?_)
        · refine lv_aload_n hx hb dX2_poise_52 rfl (lv_at hl 0 rfl) ?_
          refine va_get (D := D) (ci := 2) (v := .ref (qb 0)) (C := RX2) (T := TX2) (N := 2) hx hb hts hinX2 hown hK hP 0 rfl rfl 0 (by decide) w_3 (fun _ h9 => h9) rfl dX2_poise_53 ?_
          refine va_get (D := D) (ci := 0) (v := .int (b.1 2)) (C := RX0) (T := TX0) (N := 11) hx hb hts hinX0 hown hK hP 1 rfl rfl 2 (by decide) w_5 (fun _ h9 => h9) rfl dX2_poise_56 ?_
          refine lv_istore_n (lv' := [(2, .int (b.1 2)), (0, .ref h), (1, .int cp)]) hx hb dX2_poise_59 rfl hl (by decide) rfl (fun ls hl => ?_)
          refine lv_aload_n hx hb dX2_poise_60 rfl (lv_at hl 1 rfl) ?_
          refine va_get (D := D) (ci := 2) (v := .ref (qb 0)) (C := RX2) (T := TX2) (N := 2) hx hb hts hinX2 hown hK hP 0 rfl rfl 0 (by decide) w_3 (fun _ h9 => h9) rfl dX2_poise_61 ?_
          refine lv_iload_n hx hb dX2_poise_64 rfl (lv_at hl 2 rfl) ?_
          refine va_put (D := D) (ci := 0) (v := .int cp) (ty := tyX0 2) (C := RX0) (T := TX0) (N := 11) hx hb hts hinX0 tyX0 tyX0_ok nmX0 hown hK hP hD hS 1 rfl rfl 2 (by decide) w_5 (fun _ h9 => h9) rfl (tyX0_ok 2 (by decide)) rfl rfl (Nat.le_of_ble_eq_true rfl) dX2_poise_65 (fun H locs hP hD hS => ?_)
          have hP : va_P D vwCl ([cX h qb qt] ++ wB I qb (xs b.1 2 cp, b.2) ++ wB I qt z) H := hP
          have hD : va_D A ([cX h qb qt] ++ wB I qb (xs b.1 2 cp, b.2) ++ wB I qt z) := hD
          refine lv_iload_n hx hb dX2_poise_68 rfl (lv_at hl 0 rfl) ?_
          refine W.widen (k := 1) (n := 6) (Nat.le_of_ble_eq_true rfl) (Nat.le_of_ble_eq_true rfl) ?_
          exact xk_iretX (wf := fun (z : XBr) (v : XBr) => [cX h qb qt] ++ wB I qb z ++ wB I qt v) (u := (xs b.1 2 cp, b.2)) (u1 := (s_X2_poise b cp)) z hx hb hr rfl hlocks hP hK hD hS (by unfold x_X2_poise; rw [if_neg c_1, if_pos c_2, if_neg c_3, if_pos c_4]) (by unfold r_X2_poise; rw [if_neg c_1, if_pos c_2, if_neg c_3, if_pos c_4]) (by unfold s_X2_poise; rw [if_neg c_1, if_pos c_2, if_neg c_3, if_pos c_4]) dX2_poise_69
        · refine xk_throw (wf := fun (z : XBr) (v : XBr) => [cX h qb qt] ++ wB I qb z ++ wB I qt v) (u := b) (u1 := (s_X2_poise b cp)) z (cls := eIS) (text := "the bridge is neither up nor down") (ik := 36) (is := 81) (ic := 40) hx hb hlt hown (by decide +kernel) w_6 w_7 (by decide) (fun w h => hts w (List.mem_cons_of_mem _ (List.mem_append_right _ h))) (by decide +kernel) (by decide +kernel) hXX hP hK hD hS (hl.1.trans hml.symm) dX2_poise_42 dX2_poise_45 dX2_poise_46 dX2_poise_48 dX2_poise_51 hex (Nat.le_of_ble_eq_true rfl) (Nat.le_of_ble_eq_true rfl) (Nat.le_of_ble_eq_true rfl) (Nat.le_of_ble_eq_true rfl) hlocks (Nat.le_of_ble_eq_true rfl) (Nat.le_of_ble_eq_true rfl) ?_ ?_
          · unfold x_X2_poise; rw [if_neg c_1, if_pos c_2, if_neg c_3, if_neg c_4]; decide
          · unfold s_X2_poise; rw [if_neg c_1, if_pos c_2, if_neg c_3, if_neg c_4]
    · refine xk_throw (wf := fun (z : XBr) (v : XBr) => [cX h qb qt] ++ wB I qb z ++ wB I qt v) (u := b) (u1 := (s_X2_poise b cp)) z (cls := eIA) (text := "counterpoise is not 0 to 30") (ik := 19) (is := 76) (ic := 23) hx hb hlt hown (by decide +kernel) w_1 w_2 (by decide) (fun w h => hts w (List.mem_cons_of_mem _ (List.mem_append_left _ (List.mem_append_right _ h)))) (by decide +kernel) (by decide +kernel) hXX hP hK hD hS (hl.1.trans hml.symm) dX2_poise_10 dX2_poise_13 dX2_poise_14 dX2_poise_16 dX2_poise_19 hex (Nat.le_of_ble_eq_true rfl) (Nat.le_of_ble_eq_true rfl) (Nat.le_of_ble_eq_true rfl) (Nat.le_of_ble_eq_true rfl) hlocks (Nat.le_of_ble_eq_true rfl) (Nat.le_of_ble_eq_true rfl) ?_ ?_
      · unfold x_X2_poise; rw [if_neg c_1, if_neg c_2]; decide
      · unfold s_X2_poise; rw [if_neg c_1, if_neg c_2]

def r_X2_setCold (b : XBr) (k : Int32) (cv : Int32) : Int32 :=
  if k < 0 then
    (0 : Int32)
  else
    if k < (8 : Int32) then
      if cv < (-3 : Int32) then
        (0 : Int32)
      else
        if cv ≤ (3 : Int32) then
          (b.2.1 k.toNatClampNeg)
        else
          (0 : Int32)
    else
      (0 : Int32)
def x_X2_setCold (b : XBr) (k : Int32) (cv : Int32) : Int32 :=
  if k < 0 then
    (1 : Int32)
  else
    if k < (8 : Int32) then
      if cv < (-3 : Int32) then
        (2 : Int32)
      else
        if cv ≤ (3 : Int32) then
          (0 : Int32)
        else
          (2 : Int32)
    else
      (1 : Int32)
def s_X2_setCold (b : XBr) (k : Int32) (cv : Int32) : XBr :=
  if k < 0 then
    b
  else
    if k < (8 : Int32) then
      if cv < (-3 : Int32) then
        b
      else
        if cv ≤ (3 : Int32) then
          (b.1, (upd b.2.1 k.toNatClampNeg cv), b.2.2)
        else
          b
    else
      b
set_option maxHeartbeats 1600000 in
set_option maxRecDepth 100000 in
theorem c_X2_setCold (l : Launch) (hlt : l.stackTraces = false) (D : va_G) (I : ClassId) (h : Nat) (qb qt : Nat → Nat) (sz : Nat) (b z : XBr) (k : Int32) (cv : Int32)  : xMX l D [(I, .int)] yX2_setCold wsX2_setCold { frames := 6, cells := 1, slots := 6, locals := 82 } [.ref h, .int k, .int cv] sz ([cX h qb qt] ++ wB I qb b ++ wB I qt z) XBr [(eIO, 1), (eIA, 2)] (r_X2_setCold b k cv) (x_X2_setCold b k cv) (fun v : XBr => [cX h qb qt] ++ wB I qb (s_X2_setCold b k cv) ++ wB I qt v) 1 6 := by
  refine xk_startX (cc := cX2_setCold) (maxL := 4) (ret := (some .int)) (Qf := fun A => xQiX D [(I, .int)] A XBr (r_X2_setCold b k cv) (x_X2_setCold b k cv) (fun v : XBr => [cX h qb qt] ++ wB I qb (s_X2_setCold b k cv) ++ wB I qt v)) (XCf := fun A => xXC D [(I, .int)] A XBr [(eIO, 1), (eIA, 2)] (x_X2_setCold b k cv) (fun v : XBr => [cX h qb qt] ++ wB I qb (s_X2_setCold b k cv) ++ wB I qt v)) (by decide) rfl (Nat.le_of_ble_eq_true rfl) ?_
  intro p e s m below meth c A H ls hst hAe hsz hl hex hXX
  obtain ⟨hx, hb, hr, hts, hown, hlocks, hml, hin, hN, hK, hP, hD, hA, hS⟩ := hst
  have hl : lv_has ls 4 [(0, .ref h), (1, .int k), (2, .int cv)] := hl
  have hP : va_P D vwCl ([cX h qb qt] ++ wB I qb b ++ wB I qt z) H := hP
  have hinX2 : ∀ w ∈ u_ws RX2 TX2 2, w ∈ wsX2_setCold := by decide +kernel
  have hinX0 : ∀ w ∈ u_ws RX0 TX0 11, w ∈ wsX2_setCold := by decide +kernel
  have w_1 := hts (.classLink RX2 52 eIO) (by decide +kernel)
  have w_2 := hts (.initialized eIO) (by decide +kernel)
  have w_3 := hts (.classLink RX2 19 eIA) (by decide +kernel)
  have w_4 := hts (.initialized eIA) (by decide +kernel)
  have w_5 := hts (.fieldLink RX2 10 "BridgeBells" "bridge" "LBridgeBells$Bridge;") (by decide +kernel)
  have w_6 := hts (.fieldLink RX2 90 "BridgeBells$Bridge" "cold" "[I") (by decide +kernel)
  refine lv_iload_n hx hb dX2_setCold_0 rfl (lv_at hl 1 rfl) ?_
  refine lv_if_lt (tgt := 10) hx hb dX2_setCold_1 (by decide) (fun c_1 => ?_) (fun c_1 => ?_)
  · refine xk_throw (wf := fun (z : XBr) (v : XBr) => [cX h qb qt] ++ wB I qb z ++ wB I qt v) (u := b) (u1 := (s_X2_setCold b k cv)) z (cls := eIO) (text := "hour is not 0 to 7") (ik := 52) (is := 86) (ic := 56) hx hb hlt hown (by decide +kernel) w_1 w_2 (by decide) (fun w h => hts w (List.mem_cons_of_mem _ (List.mem_append_left _ (List.mem_append_right _ h)))) (by decide +kernel) (by decide +kernel) hXX hP hK hD hS (hl.1.trans hml.symm) dX2_setCold_10 dX2_setCold_13 dX2_setCold_14 dX2_setCold_16 dX2_setCold_19 hex (Nat.le_of_ble_eq_true rfl) (Nat.le_of_ble_eq_true rfl) (Nat.le_of_ble_eq_true rfl) (Nat.le_of_ble_eq_true rfl) hlocks (Nat.le_of_ble_eq_true rfl) (Nat.le_of_ble_eq_true rfl) ?_ ?_
    · unfold x_X2_setCold; rw [if_pos c_1]; decide
    · unfold s_X2_setCold; rw [if_pos c_1]
  · refine lv_iload_n hx hb dX2_setCold_4 rfl (lv_at hl 1 rfl) ?_
    refine lv_bipush (v := (8 : Int32)) hx hb dX2_setCold_5 (by decide) ?_
    refine lv_icmp_lt (tgt := 20) hx hb dX2_setCold_7 (by decide) (fun c_2 => ?_) (fun c_2 => ?_)
    · refine lv_iload_n hx hb dX2_setCold_20 rfl (lv_at hl 2 rfl) ?_
      refine lv_bipush (v := (-3 : Int32)) hx hb dX2_setCold_21 (by decide) ?_
      refine lv_icmp_lt (tgt := 31) hx hb dX2_setCold_23 (by decide) (fun c_3 => ?_) (fun c_3 => ?_)
      · refine xk_throw (wf := fun (z : XBr) (v : XBr) => [cX h qb qt] ++ wB I qb z ++ wB I qt v) (u := b) (u1 := (s_X2_setCold b k cv)) z (cls := eIA) (text := "cold is not -3 to 3") (ik := 19) (is := 88) (ic := 23) hx hb hlt hown (by decide +kernel) w_3 w_4 (by decide) (fun w h => hts w (List.mem_cons_of_mem _ (List.mem_append_right _ h))) (by decide +kernel) (by decide +kernel) hXX hP hK hD hS (hl.1.trans hml.symm) dX2_setCold_31 dX2_setCold_34 dX2_setCold_35 dX2_setCold_37 dX2_setCold_40 hex (Nat.le_of_ble_eq_true rfl) (Nat.le_of_ble_eq_true rfl) (Nat.le_of_ble_eq_true rfl) (Nat.le_of_ble_eq_true rfl) hlocks (Nat.le_of_ble_eq_true rfl) (Nat.le_of_ble_eq_true rfl) ?_ ?_
        · unfold x_X2_setCold; rw [if_neg c_1, if_pos c_2, if_pos c_3]; decide
        · unfold s_X2_setCold; rw [if_neg c_1, if_pos c_2, if_pos c_3]
      · refine lv_iload_n hx hb dX2_setCold_26 rfl (lv_at hl 2 rfl) ?_
        refine lv_iconst (v := (3 : Int32)) hx hb dX2_setCold_27 (by decide) ?_
        refine lv_icmp_le (tgt := 41) hx hb dX2_setCold_28 (by decide) (fun c_4 => ?_) (fun c_4 => ?_)
        · refine lv_aload_n hx hb dX2_setCold_41 rfl (lv_at hl 0 rfl) ?_
          refine va_get (D := D) (ci := 2) (v := .ref (qb 0)) (C := RX2) (T := TX2) (N := 2) hx hb hts hinX2 hown hK hP 0 rfl rfl 0 (by decide) w_5 (fun _ h9 => h9) rfl dX2_setCold_42 ?_
          refine va_get (D := D) (ci := 0) (v := .ref (qb 1)) (C := RX0) (T := TX0) (N := 11) hx hb hts hinX0 hown hK hP 1 rfl rfl 6 (by decide) w_6 (fun _ h9 => h9) rfl dX2_setCold_45 ?_
          refine lv_iload_n hx hb dX2_setCold_48 rfl (lv_at hl 1 rfl) ?_
          refine va_iald (f := b.2.1) hx hb hK hP 2 0 rfl rfl (show vp_in k 8 from (in08 c_1 c_2)) dX2_setCold_49 ?_
          refine lv_istore_n (lv' := [(3, .int (b.2.1 k.toNatClampNeg)), (0, .ref h), (1, .int k), (2, .int cv)]) hx hb dX2_setCold_50 rfl hl (by decide) rfl (fun ls hl => ?_)
          refine lv_aload_n hx hb dX2_setCold_51 rfl (lv_at hl 1 rfl) ?_
          refine va_get (D := D) (ci := 2) (v := .ref (qb 0)) (C := RX2) (T := TX2) (N := 2) hx hb hts hinX2 hown hK hP 0 rfl rfl 0 (by decide) w_5 (fun _ h9 => h9) rfl dX2_setCold_52 ?_
          refine va_get (D := D) (ci := 0) (v := .ref (qb 1)) (C := RX0) (T := TX0) (N := 11) hx hb hts hinX0 hown hK hP 1 rfl rfl 6 (by decide) w_6 (fun _ h9 => h9) rfl dX2_setCold_55 ?_
          refine lv_iload_n hx hb dX2_setCold_58 rfl (lv_at hl 2 rfl) ?_
          refine lv_iload_n hx hb dX2_setCold_59 rfl (lv_at hl 3 rfl) ?_
          refine va_iast (f := b.2.1) hx hb hK hP hD hS 2 0 rfl rfl (show vp_in k 8 from (in08 c_1 c_2)) dX2_setCold_60 (fun H locs hP hD hS => ?_)
          have hP : va_P D vwCl ([cX h qb qt] ++ wB I qb (b.1, (upd b.2.1 k.toNatClampNeg cv), b.2.2) ++ wB I qt z) H := hP
          have hD : va_D A ([cX h qb qt] ++ wB I qb (b.1, (upd b.2.1 k.toNatClampNeg cv), b.2.2) ++ wB I qt z) := hD
          refine lv_iload_n hx hb dX2_setCold_61 rfl (lv_at hl 0 rfl) ?_
          refine W.widen (k := 1) (n := 6) (Nat.le_of_ble_eq_true rfl) (Nat.le_of_ble_eq_true rfl) ?_
          exact xk_iretX (wf := fun (z : XBr) (v : XBr) => [cX h qb qt] ++ wB I qb z ++ wB I qt v) (u := (b.1, (upd b.2.1 k.toNatClampNeg cv), b.2.2)) (u1 := (s_X2_setCold b k cv)) z hx hb hr rfl hlocks hP hK hD hS (by unfold x_X2_setCold; rw [if_neg c_1, if_pos c_2, if_neg c_3, if_pos c_4]) (by unfold r_X2_setCold; rw [if_neg c_1, if_pos c_2, if_neg c_3, if_pos c_4]) (by unfold s_X2_setCold; rw [if_neg c_1, if_pos c_2, if_neg c_3, if_pos c_4]) dX2_setCold_62
        · refine xk_throw (wf := fun (z : XBr) (v : XBr) => [cX h qb qt] ++ wB I qb z ++ wB I qt v) (u := b) (u1 := (s_X2_setCold b k cv)) z (cls := eIA) (text := "cold is not -3 to 3") (ik := 19) (is := 88) (ic := 23) hx hb hlt hown (by decide +kernel) w_3 w_4 (by decide) (fun w h => hts w (List.mem_cons_of_mem _ (List.mem_append_right _ h))) (by decide +kernel) (by decide +kernel) hXX hP hK hD hS (hl.1.trans hml.symm) dX2_setCold_31 dX2_setCold_34 dX2_setCold_35 dX2_setCold_37 dX2_setCold_40 hex (Nat.le_of_ble_eq_true rfl) (Nat.le_of_ble_eq_true rfl) (Nat.le_of_ble_eq_true rfl) (Nat.le_of_ble_eq_true rfl) hlocks (Nat.le_of_ble_eq_true rfl) (Nat.le_of_ble_eq_true rfl) ?_ ?_
          · unfold x_X2_setCold; rw [if_neg c_1, if_pos c_2, if_neg c_3, if_neg c_4]; decide
          · unfold s_X2_setCold; rw [if_neg c_1, if_pos c_2, if_neg c_3, if_neg c_4]
    · refine xk_throw (wf := fun (z : XBr) (v : XBr) => [cX h qb qt] ++ wB I qb z ++ wB I qt v) (u := b) (u1 := (s_X2_setCold b k cv)) z (cls := eIO) (text := "hour is not 0 to 7") (ik := 52) (is := 86) (ic := 56) hx hb hlt hown (by decide +kernel) w_1 w_2 (by decide) (fun w h => hts w (List.mem_cons_of_mem _ (List.mem_append_left _ (List.mem_append_right _ h)))) (by decide +kernel) (by decide +kernel) hXX hP hK hD hS (hl.1.trans hml.symm) dX2_setCold_10 dX2_setCold_13 dX2_setCold_14 dX2_setCold_16 dX2_setCold_19 hex (Nat.le_of_ble_eq_true rfl) (Nat.le_of_ble_eq_true rfl) (Nat.le_of_ble_eq_true rfl) (Nat.le_of_ble_eq_true rfl) hlocks (Nat.le_of_ble_eq_true rfl) (Nat.le_of_ble_eq_true rfl) ?_ ?_
      · unfold x_X2_setCold; rw [if_neg c_1, if_neg c_2]; decide
      · unfold s_X2_setCold; rw [if_neg c_1, if_neg c_2]

def r_X2_traveller (b : XBr) (k : Int32) (wh : Int32) : Int32 :=
  if (r_X1_has b.2.2 k) = 0 then
    (0 : Int32)
  else
    if wh < 0 then
      (0 : Int32)
    else
      if wh < (7 : Int32) then
        (r_X0_factOf b k wh)
      else
        (0 : Int32)
def x_X2_traveller (b : XBr) (k : Int32) (wh : Int32) : Int32 :=
  if (r_X1_has b.2.2 k) = 0 then
    (1 : Int32)
  else
    if wh < 0 then
      (1 : Int32)
    else
      if wh < (7 : Int32) then
        (0 : Int32)
      else
        (1 : Int32)
set_option maxHeartbeats 1600000 in
set_option maxRecDepth 100000 in
theorem c_X2_traveller (l : Launch) (hlt : l.stackTraces = false) (D : va_G) (I : ClassId) (h : Nat) (qb qt : Nat → Nat) (sz : Nat) (b z : XBr) (k : Int32) (wh : Int32) (hn : nOk (b.2.2.1 0)) : xMX l D [(I, .int)] yX2_traveller wsX2_traveller { frames := 6, cells := 1, slots := 6, locals := 82 } [.ref h, .int k, .int wh] sz ([cX h qb qt] ++ wB I qb b ++ wB I qt z) XBr [(eIO, 1)] (r_X2_traveller b k wh) (x_X2_traveller b k wh) (fun v : XBr => [cX h qb qt] ++ wB I qb b ++ wB I qt v) 1 6 := by
  refine xk_startX (cc := cX2_traveller) (maxL := 3) (ret := (some .int)) (Qf := fun A => xQiX D [(I, .int)] A XBr (r_X2_traveller b k wh) (x_X2_traveller b k wh) (fun v : XBr => [cX h qb qt] ++ wB I qb b ++ wB I qt v)) (XCf := fun A => xXC D [(I, .int)] A XBr [(eIO, 1)] (x_X2_traveller b k wh) (fun v : XBr => [cX h qb qt] ++ wB I qb b ++ wB I qt v)) (by decide) rfl (Nat.le_of_ble_eq_true rfl) ?_
  intro p e s m below meth c A H ls hst hAe hsz hl hex hXX
  obtain ⟨hx, hb, hr, hts, hown, hlocks, hml, hin, hN, hK, hP, hD, hA, hS⟩ := hst
  have hl : lv_has ls 3 [(0, .ref h), (1, .int k), (2, .int wh)] := hl
  have hP : va_P D vwCl ([cX h qb qt] ++ wB I qb b ++ wB I qt z) H := hP
  have hinX2 : ∀ w ∈ u_ws RX2 TX2 2, w ∈ wsX2_traveller := by decide +kernel
  have hinX0 : ∀ w ∈ u_ws RX0 TX0 11, w ∈ wsX2_traveller := by decide +kernel
  have w_1 := hts (.fieldLink RX2 10 "BridgeBells" "bridge" "LBridgeBells$Bridge;") (by decide +kernel)
  have w_2 := hts (.fieldLink RX2 26 "BridgeBells$Bridge" "travellers" "LBridgeBells$Travellers;") (by decide +kernel)
  have w_3 := hts (.classLink RX2 52 eIO) (by decide +kernel)
  have w_4 := hts (.initialized eIO) (by decide +kernel)
  refine lv_aload_n hx hb dX2_traveller_0 rfl (lv_at hl 0 rfl) ?_
  refine va_get (D := D) (ci := 2) (v := .ref (qb 0)) (C := RX2) (T := TX2) (N := 2) hx hb hts hinX2 hown hK hP 0 rfl rfl 0 (by decide) w_1 (fun _ h9 => h9) rfl dX2_traveller_1 ?_
  refine va_get (D := D) (ci := 0) (v := .ref (qb 2)) (C := RX0) (T := TX0) (N := 11) hx hb hts hinX0 hown hK hP 1 rfl rfl 7 (by decide) w_2 (fun _ h9 => h9) rfl dX2_traveller_4 ?_
  refine lv_iload_n hx hb dX2_traveller_7 rfl (lv_at hl 1 rfl) ?_
  refine xk_calli ([cX h qb qt, cXB qb b.1, cA I (qb 1) 8 b.2.1, cXB qt z.1, cA I (qt 1) 8 z.2.1, cXT qt z.2.2.1, cA I (qt 3) 40 (z.2.2.2 0), cA I (qt 4) 40 (z.2.2.2 1), cA I (qt 5) 40 (z.2.2.2 2), cA I (qt 6) 40 (z.2.2.2 3), cA I (qt 7) 40 (z.2.2.2 4), cA I (qt 8) 40 (z.2.2.2 5)]) ([cX h qb qt] ++ wB I qb b ++ wB I qt z) [3, 4, 5, 6, 7, 8, 9] [0, 1, 2, 10, 11, 12, 13, 14, 15, 16, 17, 18] [0, 1, 2, 12, 13, 14, 15, 16, 17, 18, 3, 4, 5, 6, 7, 8, 9, 10, 11] hP hD hS hA (va_runV (As := [.int k]) (rest := []) ⟨hx, hb, hml, hown, hts⟩ (c_X1_has l D I qb H.size b.2.2 k ) (cwV 1 hts gX2_traveller_X1_has rfl rfl rfl (by decide +kernel) ⟨Nat.le_of_ble_eq_true rfl, Nat.le_of_ble_eq_true rfl⟩) (xk_preV (wc := wT I qb b.2.2) (q0 := 3) (ci := 1) hN hP hK hD [3, 4, 5, 6, 7, 8, 9] rfl rfl rfl rfl) rfl rfl hl.1 rfl (lv_room (Nat.le_of_ble_eq_true rfl)) dX2_traveller_8 ⟨Nat.le_of_ble_eq_true rfl, Nat.le_of_ble_eq_true rfl⟩) rfl rfl rfl (by decide) rfl rfl (fun H locs hP hD hS => ?_)
  refine lv_if_ne (tgt := 24) hx hb dX2_traveller_11 (by decide) (fun c_1 => ?_) (fun c_1 => ?_)
  · refine lv_iload_n hx hb dX2_traveller_24 rfl (lv_at hl 2 rfl) ?_
    refine lv_if_lt (tgt := 34) hx hb dX2_traveller_25 (by decide) (fun c_2 => ?_) (fun c_2 => ?_)
    · refine xk_throw (wf := fun (z : XBr) (v : XBr) => [cX h qb qt] ++ wB I qb z ++ wB I qt v) (u := b) (u1 := b) z (cls := eIO) (text := "what is not 0 to 6") (ik := 52) (is := 101) (ic := 56) hx hb hlt hown (by decide +kernel) w_3 w_4 (by decide) (fun w h => hts w (List.mem_cons_of_mem _ (List.mem_append_right _ h))) (by decide +kernel) (by decide +kernel) hXX hP hK hD hS (hl.1.trans hml.symm) dX2_traveller_34 dX2_traveller_37 dX2_traveller_38 dX2_traveller_40 dX2_traveller_43 hex (Nat.le_of_ble_eq_true rfl) (Nat.le_of_ble_eq_true rfl) (Nat.le_of_ble_eq_true rfl) (Nat.le_of_ble_eq_true rfl) hlocks (Nat.le_of_ble_eq_true rfl) (Nat.le_of_ble_eq_true rfl) ?_ ?_
      · unfold x_X2_traveller; rw [if_neg c_1, if_pos c_2]; decide
      · rfl
    · refine lv_iload_n hx hb dX2_traveller_28 rfl (lv_at hl 2 rfl) ?_
      refine lv_bipush (v := (7 : Int32)) hx hb dX2_traveller_29 (by decide) ?_
      refine lv_icmp_lt (tgt := 44) hx hb dX2_traveller_31 (by decide) (fun c_3 => ?_) (fun c_3 => ?_)
      · refine lv_aload_n hx hb dX2_traveller_44 rfl (lv_at hl 0 rfl) ?_
        refine va_get (D := D) (ci := 2) (v := .ref (qb 0)) (C := RX2) (T := TX2) (N := 2) hx hb hts hinX2 hown hK hP 0 rfl rfl 0 (by decide) w_1 (fun _ h9 => h9) rfl dX2_traveller_45 ?_
        refine lv_iload_n hx hb dX2_traveller_48 rfl (lv_at hl 1 rfl) ?_
        refine lv_iload_n hx hb dX2_traveller_49 rfl (lv_at hl 2 rfl) ?_
        refine xk_calli ([cX h qb qt, cXB qt z.1, cA I (qt 1) 8 z.2.1, cXT qt z.2.2.1, cA I (qt 3) 40 (z.2.2.2 0), cA I (qt 4) 40 (z.2.2.2 1), cA I (qt 5) 40 (z.2.2.2 2), cA I (qt 6) 40 (z.2.2.2 3), cA I (qt 7) 40 (z.2.2.2 4), cA I (qt 8) 40 (z.2.2.2 5)]) ([cX h qb qt] ++ wB I qb b ++ wB I qt z) [1, 2, 3, 4, 5, 6, 7, 8, 9] [0, 10, 11, 12, 13, 14, 15, 16, 17, 18] [0, 10, 11, 12, 13, 14, 15, 16, 17, 18, 1, 2, 3, 4, 5, 6, 7, 8, 9] hP hD hS hA (va_runV (As := [.int k, .int wh]) (rest := []) ⟨hx, hb, hml, hown, hts⟩ (c_X0_factOf l D I qb H.size b k wh (has_v hn c_1)) (cwV 2 hts gX2_traveller_X0_factOf rfl rfl rfl (by decide +kernel) ⟨Nat.le_of_ble_eq_true rfl, Nat.le_of_ble_eq_true rfl⟩) (xk_preV (wc := wB I qb b) (q0 := 1) (ci := 0) hN hP hK hD [1, 2, 3, 4, 5, 6, 7, 8, 9] rfl rfl rfl rfl) rfl rfl hl.1 rfl (lv_room (Nat.le_of_ble_eq_true rfl)) dX2_traveller_50 ⟨Nat.le_of_ble_eq_true rfl, Nat.le_of_ble_eq_true rfl⟩) rfl rfl rfl (by decide) rfl rfl (fun H locs hP hD hS => ?_)
        refine W.widen (k := 1) (n := 6) (Nat.le_of_ble_eq_true rfl) (Nat.le_of_ble_eq_true rfl) ?_
        exact xk_iretX (wf := fun (z : XBr) (v : XBr) => [cX h qb qt] ++ wB I qb z ++ wB I qt v) (u := b) (u1 := b) z hx hb hr rfl hlocks hP hK hD hS (by unfold x_X2_traveller; rw [if_neg c_1, if_neg c_2, if_pos c_3]) (by unfold r_X2_traveller; rw [if_neg c_1, if_neg c_2, if_pos c_3]) rfl dX2_traveller_53
      · refine xk_throw (wf := fun (z : XBr) (v : XBr) => [cX h qb qt] ++ wB I qb z ++ wB I qt v) (u := b) (u1 := b) z (cls := eIO) (text := "what is not 0 to 6") (ik := 52) (is := 101) (ic := 56) hx hb hlt hown (by decide +kernel) w_3 w_4 (by decide) (fun w h => hts w (List.mem_cons_of_mem _ (List.mem_append_right _ h))) (by decide +kernel) (by decide +kernel) hXX hP hK hD hS (hl.1.trans hml.symm) dX2_traveller_34 dX2_traveller_37 dX2_traveller_38 dX2_traveller_40 dX2_traveller_43 hex (Nat.le_of_ble_eq_true rfl) (Nat.le_of_ble_eq_true rfl) (Nat.le_of_ble_eq_true rfl) (Nat.le_of_ble_eq_true rfl) hlocks (Nat.le_of_ble_eq_true rfl) (Nat.le_of_ble_eq_true rfl) ?_ ?_
        · unfold x_X2_traveller; rw [if_neg c_1, if_neg c_2, if_neg c_3]; decide
        · rfl
  · refine xk_throw (wf := fun (z : XBr) (v : XBr) => [cX h qb qt] ++ wB I qb z ++ wB I qt v) (u := b) (u1 := b) z (cls := eIO) (text := "there is no such traveller") (ik := 52) (is := 54) (ic := 56) hx hb hlt hown (by decide +kernel) w_3 w_4 (by decide) (fun w h => hts w (List.mem_cons_of_mem _ (List.mem_append_right _ h))) (by decide +kernel) (by decide +kernel) hXX hP hK hD hS (hl.1.trans hml.symm) dX2_traveller_14 dX2_traveller_17 dX2_traveller_18 dX2_traveller_20 dX2_traveller_23 hex (Nat.le_of_ble_eq_true rfl) (Nat.le_of_ble_eq_true rfl) (Nat.le_of_ble_eq_true rfl) (Nat.le_of_ble_eq_true rfl) hlocks (Nat.le_of_ble_eq_true rfl) (Nat.le_of_ble_eq_true rfl) ?_ ?_
    · unfold x_X2_traveller; rw [if_pos c_1]; decide
    · rfl

def r_X2_count (b : XBr) (wh : Int32) : Int32 :=
  if wh < 0 then
    (0 : Int32)
  else
    if wh < (12 : Int32) then
      (r_X0_total b wh)
    else
      (0 : Int32)
def x_X2_count (b : XBr) (wh : Int32) : Int32 :=
  if wh < 0 then
    (1 : Int32)
  else
    if wh < (12 : Int32) then
      (0 : Int32)
    else
      (1 : Int32)
set_option maxHeartbeats 1600000 in
set_option maxRecDepth 100000 in
theorem c_X2_count (l : Launch) (hlt : l.stackTraces = false) (D : va_G) (I : ClassId) (h : Nat) (qb qt : Nat → Nat) (sz : Nat) (b z : XBr) (wh : Int32)  : xMX l D [(I, .int)] yX2_count wsX2_count { frames := 6, cells := 1, slots := 6, locals := 82 } [.ref h, .int wh] sz ([cX h qb qt] ++ wB I qb b ++ wB I qt z) XBr [(eIO, 1)] (r_X2_count b wh) (x_X2_count b wh) (fun v : XBr => [cX h qb qt] ++ wB I qb b ++ wB I qt v) 1 6 := by
  refine xk_startX (cc := cX2_count) (maxL := 2) (ret := (some .int)) (Qf := fun A => xQiX D [(I, .int)] A XBr (r_X2_count b wh) (x_X2_count b wh) (fun v : XBr => [cX h qb qt] ++ wB I qb b ++ wB I qt v)) (XCf := fun A => xXC D [(I, .int)] A XBr [(eIO, 1)] (x_X2_count b wh) (fun v : XBr => [cX h qb qt] ++ wB I qb b ++ wB I qt v)) (by decide) rfl (Nat.le_of_ble_eq_true rfl) ?_
  intro p e s m below meth c A H ls hst hAe hsz hl hex hXX
  obtain ⟨hx, hb, hr, hts, hown, hlocks, hml, hin, hN, hK, hP, hD, hA, hS⟩ := hst
  have hl : lv_has ls 2 [(0, .ref h), (1, .int wh)] := hl
  have hP : va_P D vwCl ([cX h qb qt] ++ wB I qb b ++ wB I qt z) H := hP
  have hinX2 : ∀ w ∈ u_ws RX2 TX2 2, w ∈ wsX2_count := by decide +kernel
  have w_1 := hts (.classLink RX2 52 eIO) (by decide +kernel)
  have w_2 := hts (.initialized eIO) (by decide +kernel)
  have w_3 := hts (.fieldLink RX2 10 "BridgeBells" "bridge" "LBridgeBells$Bridge;") (by decide +kernel)
  refine lv_iload_n hx hb dX2_count_0 rfl (lv_at hl 1 rfl) ?_
  refine lv_if_lt (tgt := 10) hx hb dX2_count_1 (by decide) (fun c_1 => ?_) (fun c_1 => ?_)
  · refine xk_throw (wf := fun (z : XBr) (v : XBr) => [cX h qb qt] ++ wB I qb z ++ wB I qt v) (u := b) (u1 := b) z (cls := eIO) (text := "what is not 0 to 11") (ik := 52) (is := 106) (ic := 56) hx hb hlt hown (by decide +kernel) w_1 w_2 (by decide) (fun w h => hts w (List.mem_cons_of_mem _ (List.mem_append_right _ h))) (by decide +kernel) (by decide +kernel) hXX hP hK hD hS (hl.1.trans hml.symm) dX2_count_10 dX2_count_13 dX2_count_14 dX2_count_16 dX2_count_19 hex (Nat.le_of_ble_eq_true rfl) (Nat.le_of_ble_eq_true rfl) (Nat.le_of_ble_eq_true rfl) (Nat.le_of_ble_eq_true rfl) hlocks (Nat.le_of_ble_eq_true rfl) (Nat.le_of_ble_eq_true rfl) ?_ ?_
    · unfold x_X2_count; rw [if_pos c_1]; decide
    · rfl
  · refine lv_iload_n hx hb dX2_count_4 rfl (lv_at hl 1 rfl) ?_
    refine lv_bipush (v := (12 : Int32)) hx hb dX2_count_5 (by decide) ?_
    refine lv_icmp_lt (tgt := 20) hx hb dX2_count_7 (by decide) (fun c_2 => ?_) (fun c_2 => ?_)
    · refine lv_aload_n hx hb dX2_count_20 rfl (lv_at hl 0 rfl) ?_
      refine va_get (D := D) (ci := 2) (v := .ref (qb 0)) (C := RX2) (T := TX2) (N := 2) hx hb hts hinX2 hown hK hP 0 rfl rfl 0 (by decide) w_3 (fun _ h9 => h9) rfl dX2_count_21 ?_
      refine lv_iload_n hx hb dX2_count_24 rfl (lv_at hl 1 rfl) ?_
      refine xk_calli ([cX h qb qt, cXB qt z.1, cA I (qt 1) 8 z.2.1, cXT qt z.2.2.1, cA I (qt 3) 40 (z.2.2.2 0), cA I (qt 4) 40 (z.2.2.2 1), cA I (qt 5) 40 (z.2.2.2 2), cA I (qt 6) 40 (z.2.2.2 3), cA I (qt 7) 40 (z.2.2.2 4), cA I (qt 8) 40 (z.2.2.2 5)]) ([cX h qb qt] ++ wB I qb b ++ wB I qt z) [1, 2, 3, 4, 5, 6, 7, 8, 9] [0, 10, 11, 12, 13, 14, 15, 16, 17, 18] [0, 10, 11, 12, 13, 14, 15, 16, 17, 18, 1, 2, 3, 4, 5, 6, 7, 8, 9] hP hD hS hA (va_runV (As := [.int wh]) (rest := []) ⟨hx, hb, hml, hown, hts⟩ (c_X0_total l D I qb H.size b wh ) (cwV 1 hts gX2_count_X0_total rfl rfl rfl (by decide +kernel) ⟨Nat.le_of_ble_eq_true rfl, Nat.le_of_ble_eq_true rfl⟩) (xk_preV (wc := wB I qb b) (q0 := 1) (ci := 0) hN hP hK hD [1, 2, 3, 4, 5, 6, 7, 8, 9] rfl rfl rfl rfl) rfl rfl hl.1 rfl (lv_room (Nat.le_of_ble_eq_true rfl)) dX2_count_25 ⟨Nat.le_of_ble_eq_true rfl, Nat.le_of_ble_eq_true rfl⟩) rfl rfl rfl (by decide) rfl rfl (fun H locs hP hD hS => ?_)
      refine W.widen (k := 1) (n := 6) (Nat.le_of_ble_eq_true rfl) (Nat.le_of_ble_eq_true rfl) ?_
      exact xk_iretX (wf := fun (z : XBr) (v : XBr) => [cX h qb qt] ++ wB I qb z ++ wB I qt v) (u := b) (u1 := b) z hx hb hr rfl hlocks hP hK hD hS (by unfold x_X2_count; rw [if_neg c_1, if_pos c_2]) (by unfold r_X2_count; rw [if_neg c_1, if_pos c_2]) rfl dX2_count_28
    · refine xk_throw (wf := fun (z : XBr) (v : XBr) => [cX h qb qt] ++ wB I qb z ++ wB I qt v) (u := b) (u1 := b) z (cls := eIO) (text := "what is not 0 to 11") (ik := 52) (is := 106) (ic := 56) hx hb hlt hown (by decide +kernel) w_1 w_2 (by decide) (fun w h => hts w (List.mem_cons_of_mem _ (List.mem_append_right _ h))) (by decide +kernel) (by decide +kernel) hXX hP hK hD hS (hl.1.trans hml.symm) dX2_count_10 dX2_count_13 dX2_count_14 dX2_count_16 dX2_count_19 hex (Nat.le_of_ble_eq_true rfl) (Nat.le_of_ble_eq_true rfl) (Nat.le_of_ble_eq_true rfl) (Nat.le_of_ble_eq_true rfl) hlocks (Nat.le_of_ble_eq_true rfl) (Nat.le_of_ble_eq_true rfl) ?_ ?_
      · unfold x_X2_count; rw [if_neg c_1, if_neg c_2]; decide
      · rfl

def g1_X2_pass (b : XBr) (mi : Int32) : XBr := s_X0_goOn b mi
def r_X2_pass (b : XBr) (mi : Int32) : Int32 :=
  if (r_X2_isSpan mi) = 0 then
    (0 : Int32)
  else
    (((g1_X2_pass b mi).2.2.1 1) - (b.2.2.1 1))
def x_X2_pass (b : XBr) (mi : Int32) : Int32 :=
  if (r_X2_isSpan mi) = 0 then
    (1 : Int32)
  else
    (0 : Int32)
def s_X2_pass (b : XBr) (mi : Int32) : XBr :=
  if (r_X2_isSpan mi) = 0 then
    b
  else
    (g1_X2_pass b mi)
set_option maxHeartbeats 1600000 in
set_option maxRecDepth 100000 in
theorem c_X2_pass (l : Launch) (hlt : l.stackTraces = false) (D : va_G) (I : ClassId) (h : Nat) (qb qt : Nat → Nat) (sz : Nat) (b z : XBr) (mi : Int32) (hn : nOk (b.2.2.1 0)) (hm1 : 0 ≤ (b.1 0).toInt) (hm2 : (b.1 0).toInt < 1000000000) : xMX l D [(I, .int)] yX2_pass wsX2_pass { frames := 6, cells := 1, slots := 6, locals := 108 } [.ref h, .int mi] sz ([cX h qb qt] ++ wB I qb b ++ wB I qt z) XBr [(eIA, 1)] (r_X2_pass b mi) (x_X2_pass b mi) (fun v : XBr => [cX h qb qt] ++ wB I qb (s_X2_pass b mi) ++ wB I qt v) 1 6 := by
  refine xk_startX (cc := cX2_pass) (maxL := 3) (ret := (some .int)) (Qf := fun A => xQiX D [(I, .int)] A XBr (r_X2_pass b mi) (x_X2_pass b mi) (fun v : XBr => [cX h qb qt] ++ wB I qb (s_X2_pass b mi) ++ wB I qt v)) (XCf := fun A => xXC D [(I, .int)] A XBr [(eIA, 1)] (x_X2_pass b mi) (fun v : XBr => [cX h qb qt] ++ wB I qb (s_X2_pass b mi) ++ wB I qt v)) (by decide) rfl (Nat.le_of_ble_eq_true rfl) ?_
  intro p e s m below meth c A H ls hst hAe hsz hl hex hXX
  obtain ⟨hx, hb, hr, hts, hown, hlocks, hml, hin, hN, hK, hP, hD, hA, hS⟩ := hst
  have hl : lv_has ls 3 [(0, .ref h), (1, .int mi)] := hl
  have hP : va_P D vwCl ([cX h qb qt] ++ wB I qb b ++ wB I qt z) H := hP
  have hinX2 : ∀ w ∈ u_ws RX2 TX2 2, w ∈ wsX2_pass := by decide +kernel
  have hinX0 : ∀ w ∈ u_ws RX0 TX0 11, w ∈ wsX2_pass := by decide +kernel
  have hinX1 : ∀ w ∈ u_ws RX1 TX1 12, w ∈ wsX2_pass := by decide +kernel
  have w_1 := hts (.fieldLink RX2 10 "BridgeBells" "bridge" "LBridgeBells$Bridge;") (by decide +kernel)
  have w_2 := hts (.fieldLink RX2 26 "BridgeBells$Bridge" "travellers" "LBridgeBells$Travellers;") (by decide +kernel)
  have w_3 := hts (.fieldLink RX2 121 "BridgeBells$Travellers" "passed" "I") (by decide +kernel)
  have w_4 := hts (.classLink RX2 19 eIA) (by decide +kernel)
  have w_5 := hts (.initialized eIA) (by decide +kernel)
  refine lv_iload_n hx hb dX2_pass_0 rfl (lv_at hl 1 rfl) ?_
  refine xk_calli ([cX h qb qt, cXB qb b.1, cA I (qb 1) 8 b.2.1, cXT qb b.2.2.1, cA I (qb 3) 40 (b.2.2.2 0), cA I (qb 4) 40 (b.2.2.2 1), cA I (qb 5) 40 (b.2.2.2 2), cA I (qb 6) 40 (b.2.2.2 3), cA I (qb 7) 40 (b.2.2.2 4), cA I (qb 8) 40 (b.2.2.2 5), cXB qt z.1, cA I (qt 1) 8 z.2.1, cXT qt z.2.2.1, cA I (qt 3) 40 (z.2.2.2 0), cA I (qt 4) 40 (z.2.2.2 1), cA I (qt 5) 40 (z.2.2.2 2), cA I (qt 6) 40 (z.2.2.2 3), cA I (qt 7) 40 (z.2.2.2 4), cA I (qt 8) 40 (z.2.2.2 5)]) ([cX h qb qt] ++ wB I qb b ++ wB I qt z) [] [0, 1, 2, 3, 4, 5, 6, 7, 8, 9, 10, 11, 12, 13, 14, 15, 16, 17, 18] [0, 1, 2, 3, 4, 5, 6, 7, 8, 9, 10, 11, 12, 13, 14, 15, 16, 17, 18] hP hD hS hA (va_runS (As := [.int mi]) (rest := []) ⟨hx, hb, hml, hown, hts⟩ (c_X2_isSpan l D I  H.size mi ) (va_cwS 1 hts gX2_pass_X2_isSpan rfl rfl rfl (by decide +kernel) ⟨Nat.le_of_ble_eq_true rfl, Nat.le_of_ble_eq_true rfl⟩) (xk_pre (wc := ([] : va_W)) hN hP hK hD [] rfl rfl) rfl rfl hl.1 rfl (lv_room (Nat.le_of_ble_eq_true rfl)) dX2_pass_1 ⟨Nat.le_of_ble_eq_true rfl, Nat.le_of_ble_eq_true rfl⟩) rfl rfl rfl (by decide) rfl rfl (fun H locs hP hD hS => ?_)
  refine lv_if_ne (tgt := 17) hx hb dX2_pass_4 (by decide) (fun c_1 => ?_) (fun c_1 => ?_)
  · refine lv_aload_n hx hb dX2_pass_17 rfl (lv_at hl 0 rfl) ?_
    refine va_get (D := D) (ci := 2) (v := .ref (qb 0)) (C := RX2) (T := TX2) (N := 2) hx hb hts hinX2 hown hK hP 0 rfl rfl 0 (by decide) w_1 (fun _ h9 => h9) rfl dX2_pass_18 ?_
    refine va_get (D := D) (ci := 0) (v := .ref (qb 2)) (C := RX0) (T := TX0) (N := 11) hx hb hts hinX0 hown hK hP 1 rfl rfl 7 (by decide) w_2 (fun _ h9 => h9) rfl dX2_pass_21 ?_
    refine va_get (D := D) (ci := 1) (v := .int (b.2.2.1 1)) (C := RX1) (T := TX1) (N := 12) hx hb hts hinX1 hown hK hP 3 rfl rfl 1 (by decide) w_3 (fun _ h9 => h9) rfl dX2_pass_24 ?_
    refine lv_istore_n (lv' := [(2, .int (b.2.2.1 1)), (0, .ref h), (1, .int mi)]) hx hb dX2_pass_27 rfl hl (by decide) rfl (fun ls hl => ?_)
    refine lv_aload_n hx hb dX2_pass_28 rfl (lv_at hl 1 rfl) ?_
    refine va_get (D := D) (ci := 2) (v := .ref (qb 0)) (C := RX2) (T := TX2) (N := 2) hx hb hts hinX2 hown hK hP 0 rfl rfl 0 (by decide) w_1 (fun _ h9 => h9) rfl dX2_pass_29 ?_
    refine lv_iload_n hx hb dX2_pass_32 rfl (lv_at hl 2 rfl) ?_
    refine xk_callv ([cX h qb qt, cXB qt z.1, cA I (qt 1) 8 z.2.1, cXT qt z.2.2.1, cA I (qt 3) 40 (z.2.2.2 0), cA I (qt 4) 40 (z.2.2.2 1), cA I (qt 5) 40 (z.2.2.2 2), cA I (qt 6) 40 (z.2.2.2 3), cA I (qt 7) 40 (z.2.2.2 4), cA I (qt 8) 40 (z.2.2.2 5)]) ([cX h qb qt] ++ wB I qb (s_X0_goOn b mi) ++ wB I qt z) [1, 2, 3, 4, 5, 6, 7, 8, 9] [0, 10, 11, 12, 13, 14, 15, 16, 17, 18] [0, 10, 11, 12, 13, 14, 15, 16, 17, 18, 1, 2, 3, 4, 5, 6, 7, 8, 9] hP hD hS hA (va_runV (As := [.int mi]) (rest := []) ⟨hx, hb, hml, hown, hts⟩ (c_X0_goOn l D I qb H.size b mi hn hm1 hm2 (span_b c_1).1 (span_b c_1).2) (cwV 1 hts gX2_pass_X0_goOn rfl rfl rfl (by decide +kernel) ⟨Nat.le_of_ble_eq_true rfl, Nat.le_of_ble_eq_true rfl⟩) (xk_preV (wc := wB I qb b) (q0 := 1) (ci := 0) hN hP hK hD [1, 2, 3, 4, 5, 6, 7, 8, 9] rfl rfl rfl rfl) rfl rfl hl.1 rfl (lv_room (Nat.le_of_ble_eq_true rfl)) dX2_pass_33 ⟨Nat.le_of_ble_eq_true rfl, Nat.le_of_ble_eq_true rfl⟩) rfl rfl rfl (by decide) rfl rfl (fun H locs hP hD hS => ?_)
    generalize hz_1 : s_X0_goOn b mi = z_1 at hP hD
    have hg_1 : g1_X2_pass b mi = z_1 := by rw [← hz_1]; rfl
    refine lv_aload_n hx hb dX2_pass_36 rfl (lv_at hl 1 rfl) ?_
    refine va_get (D := D) (ci := 2) (v := .ref (qb 0)) (C := RX2) (T := TX2) (N := 2) hx hb hts hinX2 hown hK hP 0 rfl rfl 0 (by decide) w_1 (fun _ h9 => h9) rfl dX2_pass_37 ?_
    refine va_get (D := D) (ci := 0) (v := .ref (qb 2)) (C := RX0) (T := TX0) (N := 11) hx hb hts hinX0 hown hK hP 1 rfl rfl 7 (by decide) w_2 (fun _ h9 => h9) rfl dX2_pass_40 ?_
    refine va_get (D := D) (ci := 1) (v := .int (z_1.2.2.1 1)) (C := RX1) (T := TX1) (N := 12) hx hb hts hinX1 hown hK hP 3 rfl rfl 1 (by decide) w_3 (fun _ h9 => h9) rfl dX2_pass_43 ?_
    refine lv_iload_n hx hb dX2_pass_46 rfl (lv_at hl 0 rfl) ?_
    refine lv_isub hx hb dX2_pass_47 ?_
    refine W.widen (k := 1) (n := 6) (Nat.le_of_ble_eq_true rfl) (Nat.le_of_ble_eq_true rfl) ?_
    exact xk_iretX (wf := fun (z : XBr) (v : XBr) => [cX h qb qt] ++ wB I qb z ++ wB I qt v) (u := z_1) (u1 := (s_X2_pass b mi)) z hx hb hr rfl hlocks hP hK hD hS (by subst hg_1; unfold x_X2_pass; rw [if_neg c_1]) (by subst hg_1; unfold r_X2_pass; rw [if_neg c_1]) (by subst hg_1; unfold s_X2_pass; rw [if_neg c_1]) dX2_pass_48
  · refine xk_throw (wf := fun (z : XBr) (v : XBr) => [cX h qb qt] ++ wB I qb z ++ wB I qt v) (u := b) (u1 := (s_X2_pass b mi)) z (cls := eIA) (text := "minutes is not 1 to 240") (ik := 19) (is := 119) (ic := 23) hx hb hlt hown (by decide +kernel) w_4 w_5 (by decide) (fun w h => hts w (List.mem_cons_of_mem _ (List.mem_append_right _ h))) (by decide +kernel) (by decide +kernel) hXX hP hK hD hS (hl.1.trans hml.symm) dX2_pass_7 dX2_pass_10 dX2_pass_11 dX2_pass_13 dX2_pass_16 hex (Nat.le_of_ble_eq_true rfl) (Nat.le_of_ble_eq_true rfl) (Nat.le_of_ble_eq_true rfl) (Nat.le_of_ble_eq_true rfl) hlocks (Nat.le_of_ble_eq_true rfl) (Nat.le_of_ble_eq_true rfl) ?_ ?_
    · unfold x_X2_pass; rw [if_pos c_1]; decide
    · unfold s_X2_pass; rw [if_pos c_1]

def g1_X2_foresee (b : XBr) (mi : Int32) (wh : Int32) : XBr := s_X0_goOn b mi
def r_X2_foresee (b : XBr) (mi : Int32) (wh : Int32) : Int32 :=
  if (r_X2_isSpan mi) = 0 then
    (0 : Int32)
  else
    if wh < 0 then
      (0 : Int32)
    else
      if wh < (4 : Int32) then
        if wh = (0 : Int32) then
          (((g1_X2_foresee b mi wh).2.2.1 1) - (b.2.2.1 1))
        else
          if wh = (1 : Int32) then
            (((g1_X2_foresee b mi wh).1 5) - (b.1 5))
          else
            if wh = (2 : Int32) then
              ((g1_X2_foresee b mi wh).1 1)
            else
              ((g1_X2_foresee b mi wh).1 3)
      else
        (0 : Int32)
def x_X2_foresee (b : XBr) (mi : Int32) (wh : Int32) : Int32 :=
  if (r_X2_isSpan mi) = 0 then
    (1 : Int32)
  else
    if wh < 0 then
      (2 : Int32)
    else
      if wh < (4 : Int32) then
        if wh = (0 : Int32) then
          (0 : Int32)
        else
          if wh = (1 : Int32) then
            (0 : Int32)
          else
            if wh = (2 : Int32) then
              (0 : Int32)
            else
              (0 : Int32)
      else
        (2 : Int32)
set_option maxHeartbeats 1600000 in
set_option maxRecDepth 100000 in
theorem c_X2_foresee (l : Launch) (hlt : l.stackTraces = false) (D : va_G) (I : ClassId) (h : Nat) (qb qt : Nat → Nat) (sz : Nat) (b z : XBr) (mi : Int32) (wh : Int32) (hn : nOk (b.2.2.1 0)) (hm1 : 0 ≤ (b.1 0).toInt) (hm2 : (b.1 0).toInt < 1000000000) (hz : b.1 8 = 0 ∨ b.1 8 = 1) : xMX l D [(I, .int)] yX2_foresee wsX2_foresee { frames := 6, cells := 1, slots := 6, locals := 108 } [.ref h, .int mi, .int wh] sz ([cX h qb qt] ++ wB I qb b ++ wB I qt z) XBr [(eIA, 1), (eIO, 2)] (r_X2_foresee b mi wh) (x_X2_foresee b mi wh) (fun v : XBr => [cX h qb qt] ++ wB I qb b ++ wB I qt v) 1 6 := by
  refine xk_startX (cc := cX2_foresee) (maxL := 3) (ret := (some .int)) (Qf := fun A => xQiX D [(I, .int)] A XBr (r_X2_foresee b mi wh) (x_X2_foresee b mi wh) (fun v : XBr => [cX h qb qt] ++ wB I qb b ++ wB I qt v)) (XCf := fun A => xXC D [(I, .int)] A XBr [(eIA, 1), (eIO, 2)] (x_X2_foresee b mi wh) (fun v : XBr => [cX h qb qt] ++ wB I qb b ++ wB I qt v)) (by decide) rfl (Nat.le_of_ble_eq_true rfl) ?_
  intro p e s m below meth c A H ls hst hAe hsz hl hex hXX
  obtain ⟨hx, hb, hr, hts, hown, hlocks, hml, hin, hN, hK, hP, hD, hA, hS⟩ := hst
  have hl : lv_has ls 3 [(0, .ref h), (1, .int mi), (2, .int wh)] := hl
  have hP : va_P D vwCl ([cX h qb qt] ++ wB I qb b ++ wB I qt z) H := hP
  have hinX2 : ∀ w ∈ u_ws RX2 TX2 2, w ∈ wsX2_foresee := by decide +kernel
  have hinX0 : ∀ w ∈ u_ws RX0 TX0 11, w ∈ wsX2_foresee := by decide +kernel
  have hinX1 : ∀ w ∈ u_ws RX1 TX1 12, w ∈ wsX2_foresee := by decide +kernel
  have w_1 := hts (.classLink RX2 52 eIO) (by decide +kernel)
  have w_2 := hts (.initialized eIO) (by decide +kernel)
  have w_3 := hts (.fieldLink RX2 16 "BridgeBells" "trial" "LBridgeBells$Bridge;") (by decide +kernel)
  have w_4 := hts (.fieldLink RX2 10 "BridgeBells" "bridge" "LBridgeBells$Bridge;") (by decide +kernel)
  have w_5 := hts (.fieldLink RX2 26 "BridgeBells$Bridge" "travellers" "LBridgeBells$Travellers;") (by decide +kernel)
  have w_6 := hts (.fieldLink RX2 121 "BridgeBells$Travellers" "passed" "I") (by decide +kernel)
  have w_7 := hts (.fieldLink RX2 137 "BridgeBells$Bridge" "waitedInAll" "I") (by decide +kernel)
  have w_8 := hts (.fieldLink RX2 78 "BridgeBells$Bridge" "angle" "I") (by decide +kernel)
  have w_9 := hts (.fieldLink RX2 93 "BridgeBells$Bridge" "ice" "I") (by decide +kernel)
  have w_10 := hts (.classLink RX2 19 eIA) (by decide +kernel)
  have w_11 := hts (.initialized eIA) (by decide +kernel)
  refine lv_iload_n hx hb dX2_foresee_0 rfl (lv_at hl 1 rfl) ?_
  refine xk_calli ([cX h qb qt, cXB qb b.1, cA I (qb 1) 8 b.2.1, cXT qb b.2.2.1, cA I (qb 3) 40 (b.2.2.2 0), cA I (qb 4) 40 (b.2.2.2 1), cA I (qb 5) 40 (b.2.2.2 2), cA I (qb 6) 40 (b.2.2.2 3), cA I (qb 7) 40 (b.2.2.2 4), cA I (qb 8) 40 (b.2.2.2 5), cXB qt z.1, cA I (qt 1) 8 z.2.1, cXT qt z.2.2.1, cA I (qt 3) 40 (z.2.2.2 0), cA I (qt 4) 40 (z.2.2.2 1), cA I (qt 5) 40 (z.2.2.2 2), cA I (qt 6) 40 (z.2.2.2 3), cA I (qt 7) 40 (z.2.2.2 4), cA I (qt 8) 40 (z.2.2.2 5)]) ([cX h qb qt] ++ wB I qb b ++ wB I qt z) [] [0, 1, 2, 3, 4, 5, 6, 7, 8, 9, 10, 11, 12, 13, 14, 15, 16, 17, 18] [0, 1, 2, 3, 4, 5, 6, 7, 8, 9, 10, 11, 12, 13, 14, 15, 16, 17, 18] hP hD hS hA (va_runS (As := [.int mi]) (rest := []) ⟨hx, hb, hml, hown, hts⟩ (c_X2_isSpan l D I  H.size mi ) (va_cwS 1 hts gX2_foresee_X2_isSpan rfl rfl rfl (by decide +kernel) ⟨Nat.le_of_ble_eq_true rfl, Nat.le_of_ble_eq_true rfl⟩) (xk_pre (wc := ([] : va_W)) hN hP hK hD [] rfl rfl) rfl rfl hl.1 rfl (lv_room (Nat.le_of_ble_eq_true rfl)) dX2_foresee_1 ⟨Nat.le_of_ble_eq_true rfl, Nat.le_of_ble_eq_true rfl⟩) rfl rfl rfl (by decide) rfl rfl (fun H locs hP hD hS => ?_)
  refine lv_if_ne (tgt := 17) hx hb dX2_foresee_4 (by decide) (fun c_1 => ?_) (fun c_1 => ?_)
  · refine lv_iload_n hx hb dX2_foresee_17 rfl (lv_at hl 2 rfl) ?_
    refine lv_if_lt (tgt := 26) hx hb dX2_foresee_18 (by decide) (fun c_2 => ?_) (fun c_2 => ?_)
    · refine xk_throw (wf := fun (z : XBr) (v : XBr) => [cX h qb qt] ++ wB I qb z ++ wB I qt v) (u := b) (u1 := b) z (cls := eIO) (text := "what is not 0 to 3") (ik := 52) (is := 135) (ic := 56) hx hb hlt hown (by decide +kernel) w_1 w_2 (by decide) (fun w h => hts w (List.mem_cons_of_mem _ (List.mem_append_right _ h))) (by decide +kernel) (by decide +kernel) hXX hP hK hD hS (hl.1.trans hml.symm) dX2_foresee_26 dX2_foresee_29 dX2_foresee_30 dX2_foresee_32 dX2_foresee_35 hex (Nat.le_of_ble_eq_true rfl) (Nat.le_of_ble_eq_true rfl) (Nat.le_of_ble_eq_true rfl) (Nat.le_of_ble_eq_true rfl) hlocks (Nat.le_of_ble_eq_true rfl) (Nat.le_of_ble_eq_true rfl) ?_ ?_
      · unfold x_X2_foresee; rw [if_neg c_1, if_pos c_2]; decide
      · rfl
    · refine lv_iload_n hx hb dX2_foresee_21 rfl (lv_at hl 2 rfl) ?_
      refine lv_iconst (v := (4 : Int32)) hx hb dX2_foresee_22 (by decide) ?_
      refine lv_icmp_lt (tgt := 36) hx hb dX2_foresee_23 (by decide) (fun c_3 => ?_) (fun c_3 => ?_)
      · refine lv_aload_n hx hb dX2_foresee_36 rfl (lv_at hl 0 rfl) ?_
        refine va_get (D := D) (ci := 2) (v := .ref (qt 0)) (C := RX2) (T := TX2) (N := 2) hx hb hts hinX2 hown hK hP 0 rfl rfl 1 (by decide) w_3 (fun _ h9 => h9) rfl dX2_foresee_37 ?_
        refine lv_aload_n hx hb dX2_foresee_40 rfl (lv_at hl 0 rfl) ?_
        refine va_get (D := D) (ci := 2) (v := .ref (qb 0)) (C := RX2) (T := TX2) (N := 2) hx hb hts hinX2 hown hK hP 0 rfl rfl 0 (by decide) w_4 (fun _ h9 => h9) rfl dX2_foresee_41 ?_
        refine xk_callv ([cX h qb qt]) ([cX h qb qt] ++ wB I qb b ++ wB I qt b) [10, 11, 12, 13, 14, 15, 16, 17, 18, 1, 2, 3, 4, 5, 6, 7, 8, 9] [0] [0, 10, 11, 12, 13, 14, 15, 16, 17, 18, 1, 2, 3, 4, 5, 6, 7, 8, 9] hP hD hS hA (va_runV (As := [.ref (qb 0)]) (rest := []) ⟨hx, hb, hml, hown, hts⟩ (c_X0_copyFrom l D I qt qb H.size z b hz) (cwV 1 hts gX2_foresee_X0_copyFrom rfl rfl rfl (by decide +kernel) ⟨Nat.le_of_ble_eq_true rfl, Nat.le_of_ble_eq_true rfl⟩) (xk_preV (wc := wB I qt z ++ wB I qb b) (q0 := 10) (ci := 0) hN hP hK hD [10, 11, 12, 13, 14, 15, 16, 17, 18, 1, 2, 3, 4, 5, 6, 7, 8, 9] rfl rfl rfl rfl) rfl rfl hl.1 rfl (lv_room (Nat.le_of_ble_eq_true rfl)) dX2_foresee_44 ⟨Nat.le_of_ble_eq_true rfl, Nat.le_of_ble_eq_true rfl⟩) rfl rfl rfl (by decide) rfl rfl (fun H locs hP hD hS => ?_)
        refine lv_aload_n hx hb dX2_foresee_47 rfl (lv_at hl 0 rfl) ?_
        refine va_get (D := D) (ci := 2) (v := .ref (qt 0)) (C := RX2) (T := TX2) (N := 2) hx hb hts hinX2 hown hK hP 0 rfl rfl 1 (by decide) w_3 (fun _ h9 => h9) rfl dX2_foresee_48 ?_
        refine lv_iload_n hx hb dX2_foresee_51 rfl (lv_at hl 1 rfl) ?_
        refine xk_callv ([cX h qb qt, cXB qb b.1, cA I (qb 1) 8 b.2.1, cXT qb b.2.2.1, cA I (qb 3) 40 (b.2.2.2 0), cA I (qb 4) 40 (b.2.2.2 1), cA I (qb 5) 40 (b.2.2.2 2), cA I (qb 6) 40 (b.2.2.2 3), cA I (qb 7) 40 (b.2.2.2 4), cA I (qb 8) 40 (b.2.2.2 5)]) ([cX h qb qt] ++ wB I qb b ++ wB I qt (s_X0_goOn b mi)) [10, 11, 12, 13, 14, 15, 16, 17, 18] [0, 1, 2, 3, 4, 5, 6, 7, 8, 9] [0, 1, 2, 3, 4, 5, 6, 7, 8, 9, 10, 11, 12, 13, 14, 15, 16, 17, 18] hP hD hS hA (va_runV (As := [.int mi]) (rest := []) ⟨hx, hb, hml, hown, hts⟩ (c_X0_goOn l D I qt H.size b mi hn hm1 hm2 (span_b c_1).1 (span_b c_1).2) (cwV 1 hts gX2_foresee_X0_goOn rfl rfl rfl (by decide +kernel) ⟨Nat.le_of_ble_eq_true rfl, Nat.le_of_ble_eq_true rfl⟩) (xk_preV (wc := wB I qt b) (q0 := 10) (ci := 0) hN hP hK hD [10, 11, 12, 13, 14, 15, 16, 17, 18] rfl rfl rfl rfl) rfl rfl hl.1 rfl (lv_room (Nat.le_of_ble_eq_true rfl)) dX2_foresee_52 ⟨Nat.le_of_ble_eq_true rfl, Nat.le_of_ble_eq_true rfl⟩) rfl rfl rfl (by decide) rfl rfl (fun H locs hP hD hS => ?_)
        generalize hz_1 : s_X0_goOn b mi = z_1 at hP hD
        have hg_1 : g1_X2_foresee b mi wh = z_1 := by rw [← hz_1]; rfl
        refine lv_iload_n hx hb dX2_foresee_55 rfl (lv_at hl 2 rfl) ?_
        by_cases c_4 : wh = (0 : Int32)
        · refine lv_tableIn (off := 28) (tgt := 84) hx hb dX2_foresee_56 (by rw [c_4]; decide) (by rw [c_4]; decide) (by rw [c_4]; rfl) (by decide) ?_
          refine lv_aload_n hx hb dX2_foresee_84 rfl (lv_at hl 0 rfl) ?_
          refine va_get (D := D) (ci := 2) (v := .ref (qt 0)) (C := RX2) (T := TX2) (N := 2) hx hb hts hinX2 hown hK hP 0 rfl rfl 1 (by decide) w_3 (fun _ h9 => h9) rfl dX2_foresee_85 ?_
          refine va_get (D := D) (ci := 0) (v := .ref (qt 2)) (C := RX0) (T := TX0) (N := 11) hx hb hts hinX0 hown hK hP 10 rfl rfl 7 (by decide) w_5 (fun _ h9 => h9) rfl dX2_foresee_88 ?_
          refine va_get (D := D) (ci := 1) (v := .int (z_1.2.2.1 1)) (C := RX1) (T := TX1) (N := 12) hx hb hts hinX1 hown hK hP 12 rfl rfl 1 (by decide) w_6 (fun _ h9 => h9) rfl dX2_foresee_91 ?_
          refine lv_aload_n hx hb dX2_foresee_94 rfl (lv_at hl 0 rfl) ?_
          refine va_get (D := D) (ci := 2) (v := .ref (qb 0)) (C := RX2) (T := TX2) (N := 2) hx hb hts hinX2 hown hK hP 0 rfl rfl 0 (by decide) w_4 (fun _ h9 => h9) rfl dX2_foresee_95 ?_
          refine va_get (D := D) (ci := 0) (v := .ref (qb 2)) (C := RX0) (T := TX0) (N := 11) hx hb hts hinX0 hown hK hP 1 rfl rfl 7 (by decide) w_5 (fun _ h9 => h9) rfl dX2_foresee_98 ?_
          refine va_get (D := D) (ci := 1) (v := .int (b.2.2.1 1)) (C := RX1) (T := TX1) (N := 12) hx hb hts hinX1 hown hK hP 3 rfl rfl 1 (by decide) w_6 (fun _ h9 => h9) rfl dX2_foresee_101 ?_
          refine lv_isub hx hb dX2_foresee_104 ?_
          refine W.widen (k := 1) (n := 6) (Nat.le_of_ble_eq_true rfl) (Nat.le_of_ble_eq_true rfl) ?_
          exact xk_iretX (wf := fun (z : XBr) (v : XBr) => [cX h qb qt] ++ wB I qb z ++ wB I qt v) (u := b) (u1 := b) z_1 hx hb hr rfl hlocks hP hK hD hS (by subst hg_1; unfold x_X2_foresee; rw [if_neg c_1, if_neg c_2, if_pos c_3, if_pos c_4]) (by subst hg_1; unfold r_X2_foresee; rw [if_neg c_1, if_neg c_2, if_pos c_3, if_pos c_4]) rfl dX2_foresee_105
        by_cases c_5 : wh = (1 : Int32)
        · refine lv_tableIn (off := 50) (tgt := 106) hx hb dX2_foresee_56 (by rw [c_5]; decide) (by rw [c_5]; decide) (by rw [c_5]; rfl) (by decide) ?_
          refine lv_aload_n hx hb dX2_foresee_106 rfl (lv_at hl 0 rfl) ?_
          refine va_get (D := D) (ci := 2) (v := .ref (qt 0)) (C := RX2) (T := TX2) (N := 2) hx hb hts hinX2 hown hK hP 0 rfl rfl 1 (by decide) w_3 (fun _ h9 => h9) rfl dX2_foresee_107 ?_
          refine va_get (D := D) (ci := 0) (v := .int (z_1.1 5)) (C := RX0) (T := TX0) (N := 11) hx hb hts hinX0 hown hK hP 10 rfl rfl 5 (by decide) w_7 (fun _ h9 => h9) rfl dX2_foresee_110 ?_
          refine lv_aload_n hx hb dX2_foresee_113 rfl (lv_at hl 0 rfl) ?_
          refine va_get (D := D) (ci := 2) (v := .ref (qb 0)) (C := RX2) (T := TX2) (N := 2) hx hb hts hinX2 hown hK hP 0 rfl rfl 0 (by decide) w_4 (fun _ h9 => h9) rfl dX2_foresee_114 ?_
          refine va_get (D := D) (ci := 0) (v := .int (b.1 5)) (C := RX0) (T := TX0) (N := 11) hx hb hts hinX0 hown hK hP 1 rfl rfl 5 (by decide) w_7 (fun _ h9 => h9) rfl dX2_foresee_117 ?_
          refine lv_isub hx hb dX2_foresee_120 ?_
          refine W.widen (k := 1) (n := 6) (Nat.le_of_ble_eq_true rfl) (Nat.le_of_ble_eq_true rfl) ?_
          exact xk_iretX (wf := fun (z : XBr) (v : XBr) => [cX h qb qt] ++ wB I qb z ++ wB I qt v) (u := b) (u1 := b) z_1 hx hb hr rfl hlocks hP hK hD hS (by subst hg_1; unfold x_X2_foresee; rw [if_neg c_1, if_neg c_2, if_pos c_3, if_neg c_4, if_pos c_5]) (by subst hg_1; unfold r_X2_foresee; rw [if_neg c_1, if_neg c_2, if_pos c_3, if_neg c_4, if_pos c_5]) rfl dX2_foresee_121
        by_cases c_6 : wh = (2 : Int32)
        · refine lv_tableIn (off := 66) (tgt := 122) hx hb dX2_foresee_56 (by rw [c_6]; decide) (by rw [c_6]; decide) (by rw [c_6]; rfl) (by decide) ?_
          refine lv_aload_n hx hb dX2_foresee_122 rfl (lv_at hl 0 rfl) ?_
          refine va_get (D := D) (ci := 2) (v := .ref (qt 0)) (C := RX2) (T := TX2) (N := 2) hx hb hts hinX2 hown hK hP 0 rfl rfl 1 (by decide) w_3 (fun _ h9 => h9) rfl dX2_foresee_123 ?_
          refine va_get (D := D) (ci := 0) (v := .int (z_1.1 1)) (C := RX0) (T := TX0) (N := 11) hx hb hts hinX0 hown hK hP 10 rfl rfl 1 (by decide) w_8 (fun _ h9 => h9) rfl dX2_foresee_126 ?_
          refine W.widen (k := 1) (n := 6) (Nat.le_of_ble_eq_true rfl) (Nat.le_of_ble_eq_true rfl) ?_
          exact xk_iretX (wf := fun (z : XBr) (v : XBr) => [cX h qb qt] ++ wB I qb z ++ wB I qt v) (u := b) (u1 := b) z_1 hx hb hr rfl hlocks hP hK hD hS (by subst hg_1; unfold x_X2_foresee; rw [if_neg c_1, if_neg c_2, if_pos c_3, if_neg c_4, if_neg c_5, if_pos c_6]) (by subst hg_1; unfold r_X2_foresee; rw [if_neg c_1, if_neg c_2, if_pos c_3, if_neg c_4, if_neg c_5, if_pos c_6]) rfl dX2_foresee_129
        have t_c_4 : wh.toInt < 0 ∨ 2 < wh.toInt := by
          have g_c_4 := lv_neT c_4 (a := 0) (by decide)
          have g_c_5 := lv_neT c_5 (a := 1) (by decide)
          have g_c_6 := lv_neT c_6 (a := 2) (by decide)
          omega
        refine lv_tableOut (tgt := 130) hx hb dX2_foresee_56 t_c_4 (by decide) ?_
        refine lv_aload_n hx hb dX2_foresee_130 rfl (lv_at hl 0 rfl) ?_
        refine va_get (D := D) (ci := 2) (v := .ref (qt 0)) (C := RX2) (T := TX2) (N := 2) hx hb hts hinX2 hown hK hP 0 rfl rfl 1 (by decide) w_3 (fun _ h9 => h9) rfl dX2_foresee_131 ?_
        refine va_get (D := D) (ci := 0) (v := .int (z_1.1 3)) (C := RX0) (T := TX0) (N := 11) hx hb hts hinX0 hown hK hP 10 rfl rfl 3 (by decide) w_9 (fun _ h9 => h9) rfl dX2_foresee_134 ?_
        refine W.widen (k := 1) (n := 6) (Nat.le_of_ble_eq_true rfl) (Nat.le_of_ble_eq_true rfl) ?_
        exact xk_iretX (wf := fun (z : XBr) (v : XBr) => [cX h qb qt] ++ wB I qb z ++ wB I qt v) (u := b) (u1 := b) z_1 hx hb hr rfl hlocks hP hK hD hS (by subst hg_1; unfold x_X2_foresee; rw [if_neg c_1, if_neg c_2, if_pos c_3, if_neg c_4, if_neg c_5, if_neg c_6]) (by subst hg_1; unfold r_X2_foresee; rw [if_neg c_1, if_neg c_2, if_pos c_3, if_neg c_4, if_neg c_5, if_neg c_6]) rfl dX2_foresee_137
      · refine xk_throw (wf := fun (z : XBr) (v : XBr) => [cX h qb qt] ++ wB I qb z ++ wB I qt v) (u := b) (u1 := b) z (cls := eIO) (text := "what is not 0 to 3") (ik := 52) (is := 135) (ic := 56) hx hb hlt hown (by decide +kernel) w_1 w_2 (by decide) (fun w h => hts w (List.mem_cons_of_mem _ (List.mem_append_right _ h))) (by decide +kernel) (by decide +kernel) hXX hP hK hD hS (hl.1.trans hml.symm) dX2_foresee_26 dX2_foresee_29 dX2_foresee_30 dX2_foresee_32 dX2_foresee_35 hex (Nat.le_of_ble_eq_true rfl) (Nat.le_of_ble_eq_true rfl) (Nat.le_of_ble_eq_true rfl) (Nat.le_of_ble_eq_true rfl) hlocks (Nat.le_of_ble_eq_true rfl) (Nat.le_of_ble_eq_true rfl) ?_ ?_
        · unfold x_X2_foresee; rw [if_neg c_1, if_neg c_2, if_neg c_3]; decide
        · rfl
  · refine xk_throw (wf := fun (z : XBr) (v : XBr) => [cX h qb qt] ++ wB I qb z ++ wB I qt v) (u := b) (u1 := b) z (cls := eIA) (text := "minutes is not 1 to 240") (ik := 19) (is := 119) (ic := 23) hx hb hlt hown (by decide +kernel) w_10 w_11 (by decide) (fun w h => hts w (List.mem_cons_of_mem _ (List.mem_append_left _ (List.mem_append_right _ h)))) (by decide +kernel) (by decide +kernel) hXX hP hK hD hS (hl.1.trans hml.symm) dX2_foresee_7 dX2_foresee_10 dX2_foresee_11 dX2_foresee_13 dX2_foresee_16 hex (Nat.le_of_ble_eq_true rfl) (Nat.le_of_ble_eq_true rfl) (Nat.le_of_ble_eq_true rfl) (Nat.le_of_ble_eq_true rfl) hlocks (Nat.le_of_ble_eq_true rfl) (Nat.le_of_ble_eq_true rfl) ?_ ?_
    · unfold x_X2_foresee; rw [if_pos c_1]; decide
    · rfl

def r_X2_crack (b : XBr) : Int32 :=
  (imx (0 : Int32) ((b.1 3) - (3 : Int32)))
def s_X2_crack (b : XBr) : XBr :=
  (xs b.1 3 (imx (0 : Int32) ((b.1 3) - (3 : Int32))), b.2)
set_option maxHeartbeats 800000 in
set_option maxRecDepth 100000 in
theorem c_X2_crack (l : Launch) (D : va_G) (I : ClassId) (h : Nat) (qb qt : Nat → Nat) (sz : Nat) (b : XBr) (z : XBr)  : xMi l D [(I, .int)] yX2_crack wsX2_crack { frames := 1, cells := 0, slots := 0, locals := 14 } [.ref h] sz ([cX h qb qt] ++ wB I qb b ++ wB I qt z) (r_X2_crack b) ([cX h qb qt] ++ wB I qb (s_X2_crack b) ++ wB I qt z) 0 0 := by
  refine xk_start (cc := cX2_crack) (maxL := 1) (ret := (some .int)) (Qf := fun A => xQi D [(I, .int)] A (r_X2_crack b) ([cX h qb qt] ++ wB I qb (s_X2_crack b) ++ wB I qt z)) (by decide) rfl (Nat.le_of_ble_eq_true rfl) ?_
  intro p e s m below meth c A H ls hst hAe hsz hl
  obtain ⟨hx, hb, hr, hts, hown, hlocks, hml, hin, hN, hK, hP, hD, hA, hS⟩ := hst
  have hl : lv_has ls 1 [(0, .ref h)] := hl
  have hP : va_P D vwCl ([cX h qb qt] ++ wB I qb b ++ wB I qt z) H := hP
  have hinX2 : ∀ w ∈ u_ws RX2 TX2 2, w ∈ wsX2_crack := by decide +kernel
  have hinX0 : ∀ w ∈ u_ws RX0 TX0 11, w ∈ wsX2_crack := by decide +kernel
  have w_1 := hts (.fieldLink RX2 10 "BridgeBells" "bridge" "LBridgeBells$Bridge;") (by decide +kernel)
  have w_2 := hts (.fieldLink RX2 93 "BridgeBells$Bridge" "ice" "I") (by decide +kernel)
  have w_3 := hts (.methodLink RX2 96 Lib.Math.max.name) (by decide +kernel)
  have w_4 := hts (.static Lib.Math.max.name) (by decide +kernel)
  have w_5 := hts (.initialized "java/lang/Math") (by decide +kernel)
  have w_6 := hts (.code Lib.Math.max.name Lib.Math.max.code 2 (some .int)) (by decide +kernel)
  refine lv_aload_n hx hb dX2_crack_0 rfl (lv_at hl 0 rfl) ?_
  refine va_get (D := D) (ci := 2) (v := .ref (qb 0)) (C := RX2) (T := TX2) (N := 2) hx hb hts hinX2 hown hK hP 0 rfl rfl 0 (by decide) w_1 (fun _ h9 => h9) rfl dX2_crack_1 ?_
  refine lv_iconst (v := (0 : Int32)) hx hb dX2_crack_4 (by decide) ?_
  refine lv_aload_n hx hb dX2_crack_5 rfl (lv_at hl 0 rfl) ?_
  refine va_get (D := D) (ci := 2) (v := .ref (qb 0)) (C := RX2) (T := TX2) (N := 2) hx hb hts hinX2 hown hK hP 0 rfl rfl 0 (by decide) w_1 (fun _ h9 => h9) rfl dX2_crack_6 ?_
  refine va_get (D := D) (ci := 0) (v := .int (b.1 3)) (C := RX0) (T := TX0) (N := 11) hx hb hts hinX0 hown hK hP 1 rfl rfl 3 (by decide) w_2 (fun _ h9 => h9) rfl dX2_crack_9 ?_
  refine lv_iconst (v := (3 : Int32)) hx hb dX2_crack_12 (by decide) ?_
  refine lv_isub hx hb dX2_crack_13 ?_
  refine va_mmax hx hb (hml.trans hl.1.symm) hown w_3 w_4 w_5 w_6 (Nat.le_of_ble_eq_true rfl) (Nat.le_of_ble_eq_true rfl) (Nat.le_of_ble_eq_true rfl) (Nat.le_of_ble_eq_true rfl) dX2_crack_14 ?_
  refine W.eq (g2 := F0 m 17 ls [.int (imx (0 : Int32) ((b.1 3) - (3 : Int32))), .ref (qb 0)]) rfl ?_
  refine va_put (D := D) (ci := 0) (v := .int (imx (0 : Int32) ((b.1 3) - (3 : Int32)))) (ty := tyX0 3) (C := RX0) (T := TX0) (N := 11) hx hb hts hinX0 tyX0 tyX0_ok nmX0 hown hK hP hD hS 1 rfl rfl 3 (by decide) w_2 (fun _ h9 => h9) rfl (tyX0_ok 3 (by decide)) rfl rfl (Nat.le_of_ble_eq_true rfl) dX2_crack_17 (fun H locs hP hD hS => ?_)
  have hP : va_P D vwCl ([cX h qb qt] ++ wB I qb (xs b.1 3 (imx (0 : Int32) ((b.1 3) - (3 : Int32))), b.2) ++ wB I qt z) H := hP
  have hD : va_D A ([cX h qb qt] ++ wB I qb (xs b.1 3 (imx (0 : Int32) ((b.1 3) - (3 : Int32))), b.2) ++ wB I qt z) := hD
  refine lv_aload_n hx hb dX2_crack_20 rfl (lv_at hl 0 rfl) ?_
  refine va_get (D := D) (ci := 2) (v := .ref (qb 0)) (C := RX2) (T := TX2) (N := 2) hx hb hts hinX2 hown hK hP 0 rfl rfl 0 (by decide) w_1 (fun _ h9 => h9) rfl dX2_crack_21 ?_
  refine va_get (D := D) (ci := 0) (v := .int (imx (0 : Int32) ((b.1 3) - (3 : Int32)))) (C := RX0) (T := TX0) (N := 11) hx hb hts hinX0 hown hK hP 1 rfl rfl 3 (by decide) w_2 (fun _ h9 => h9) rfl dX2_crack_24 ?_
  exact xk_iret (wf := fun z : XBr × XBr => [cX h qb qt] ++ wB I qb z.1 ++ wB I qt z.2) (u := ((xs b.1 3 (imx (0 : Int32) ((b.1 3) - (3 : Int32))), b.2), z)) (u1 := ((s_X2_crack b), z)) hx hb hr rfl hlocks hP hK hD hS (by unfold r_X2_crack; rfl) (by unfold s_X2_crack; rfl) dX2_crack_27

def r_X2_speed (b : XBr) (up : Int32) : Int32 :=
  (r_X0_speedTowards b up)
set_option maxHeartbeats 800000 in
set_option maxRecDepth 100000 in
theorem c_X2_speed (l : Launch) (D : va_G) (I : ClassId) (h : Nat) (qb qt : Nat → Nat) (sz : Nat) (b : XBr) (z : XBr) (up : Int32)  : xMi l D [(I, .int)] yX2_speed wsX2_speed { frames := 2, cells := 0, slots := 0, locals := 36 } [.ref h, .int up] sz ([cX h qb qt] ++ wB I qb b ++ wB I qt z) (r_X2_speed b up) ([cX h qb qt] ++ wB I qb b ++ wB I qt z) 0 0 := by
  refine xk_start (cc := cX2_speed) (maxL := 2) (ret := (some .int)) (Qf := fun A => xQi D [(I, .int)] A (r_X2_speed b up) ([cX h qb qt] ++ wB I qb b ++ wB I qt z)) (by decide) rfl (Nat.le_of_ble_eq_true rfl) ?_
  intro p e s m below meth c A H ls hst hAe hsz hl
  obtain ⟨hx, hb, hr, hts, hown, hlocks, hml, hin, hN, hK, hP, hD, hA, hS⟩ := hst
  have hl : lv_has ls 2 [(0, .ref h), (1, .int up)] := hl
  have hP : va_P D vwCl ([cX h qb qt] ++ wB I qb b ++ wB I qt z) H := hP
  have hinX2 : ∀ w ∈ u_ws RX2 TX2 2, w ∈ wsX2_speed := by decide +kernel
  have w_1 := hts (.fieldLink RX2 10 "BridgeBells" "bridge" "LBridgeBells$Bridge;") (by decide +kernel)
  refine lv_aload_n hx hb dX2_speed_0 rfl (lv_at hl 0 rfl) ?_
  refine va_get (D := D) (ci := 2) (v := .ref (qb 0)) (C := RX2) (T := TX2) (N := 2) hx hb hts hinX2 hown hK hP 0 rfl rfl 0 (by decide) w_1 (fun _ h9 => h9) rfl dX2_speed_1 ?_
  refine lv_iload_n hx hb dX2_speed_4 rfl (lv_at hl 1 rfl) ?_
  refine xk_calli ([cX h qb qt, cXB qt z.1, cA I (qt 1) 8 z.2.1, cXT qt z.2.2.1, cA I (qt 3) 40 (z.2.2.2 0), cA I (qt 4) 40 (z.2.2.2 1), cA I (qt 5) 40 (z.2.2.2 2), cA I (qt 6) 40 (z.2.2.2 3), cA I (qt 7) 40 (z.2.2.2 4), cA I (qt 8) 40 (z.2.2.2 5)]) ([cX h qb qt] ++ wB I qb b ++ wB I qt z) [1, 2, 3, 4, 5, 6, 7, 8, 9] [0, 10, 11, 12, 13, 14, 15, 16, 17, 18] [0, 10, 11, 12, 13, 14, 15, 16, 17, 18, 1, 2, 3, 4, 5, 6, 7, 8, 9] hP hD hS hA (va_runV (As := [.int up]) (rest := []) ⟨hx, hb, hml, hown, hts⟩ (c_X0_speedTowards l D I qb H.size b up ) (cwV 1 hts gX2_speed_X0_speedTowards rfl rfl rfl (by decide +kernel) ⟨Nat.le_of_ble_eq_true rfl, Nat.le_of_ble_eq_true rfl⟩) (xk_preV (wc := wB I qb b) (q0 := 1) (ci := 0) hN hP hK hD [1, 2, 3, 4, 5, 6, 7, 8, 9] rfl rfl rfl rfl) rfl rfl hl.1 rfl (lv_room (Nat.le_of_ble_eq_true rfl)) dX2_speed_5 ⟨Nat.le_of_ble_eq_true rfl, Nat.le_of_ble_eq_true rfl⟩) rfl rfl rfl (by decide) rfl rfl (fun H locs hP hD hS => ?_)
  exact xk_iret (wf := fun z : XBr × XBr => [cX h qb qt] ++ wB I qb z.1 ++ wB I qt z.2) (u := (b, z)) (u1 := (b, z)) hx hb hr rfl hlocks hP hK hD hS (by unfold r_X2_speed; rfl) rfl dX2_speed_8

def r_X2_mean (b : XBr) : UInt64 :=
  if (b.2.2.1 0) = 0 then
    FP.dconst0
  else
    (FP.ddiv (FP.i2d (b.1 5)) (FP.i2d (b.2.2.1 0)))
set_option maxHeartbeats 800000 in
set_option maxRecDepth 100000 in
theorem c_X2_mean (l : Launch) (D : va_G) (I : ClassId) (h : Nat) (qb qt : Nat → Nat) (sz : Nat) (b : XBr) (z : XBr)  : xMd l D [(I, .int)] yX2_mean wsX2_mean { frames := 0, cells := 0, slots := 0, locals := 0 } [.ref h] sz ([cX h qb qt] ++ wB I qb b ++ wB I qt z) (r_X2_mean b) ([cX h qb qt] ++ wB I qb b ++ wB I qt z) 0 0 := by
  refine xk_start (cc := cX2_mean) (maxL := 2) (ret := (some .double)) (Qf := fun A => xQd D [(I, .int)] A (r_X2_mean b) ([cX h qb qt] ++ wB I qb b ++ wB I qt z)) (by decide) rfl (Nat.le_of_ble_eq_true rfl) ?_
  intro p e s m below meth c A H ls hst hAe hsz hl
  obtain ⟨hx, hb, hr, hts, hown, hlocks, hml, hin, hN, hK, hP, hD, hA, hS⟩ := hst
  have hl : lv_has ls 2 [(0, .ref h)] := hl
  have hP : va_P D vwCl ([cX h qb qt] ++ wB I qb b ++ wB I qt z) H := hP
  have hinX2 : ∀ w ∈ u_ws RX2 TX2 2, w ∈ wsX2_mean := by decide +kernel
  have hinX0 : ∀ w ∈ u_ws RX0 TX0 11, w ∈ wsX2_mean := by decide +kernel
  have hinX1 : ∀ w ∈ u_ws RX1 TX1 12, w ∈ wsX2_mean := by decide +kernel
  have w_1 := hts (.fieldLink RX2 10 "BridgeBells" "bridge" "LBridgeBells$Bridge;") (by decide +kernel)
  have w_2 := hts (.fieldLink RX2 26 "BridgeBells$Bridge" "travellers" "LBridgeBells$Travellers;") (by decide +kernel)
  have w_3 := hts (.fieldLink RX2 30 "BridgeBells$Travellers" "number" "I") (by decide +kernel)
  have w_4 := hts (.fieldLink RX2 137 "BridgeBells$Bridge" "waitedInAll" "I") (by decide +kernel)
  refine lv_aload_n hx hb dX2_mean_0 rfl (lv_at hl 0 rfl) ?_
  refine va_get (D := D) (ci := 2) (v := .ref (qb 0)) (C := RX2) (T := TX2) (N := 2) hx hb hts hinX2 hown hK hP 0 rfl rfl 0 (by decide) w_1 (fun _ h9 => h9) rfl dX2_mean_1 ?_
  refine va_get (D := D) (ci := 0) (v := .ref (qb 2)) (C := RX0) (T := TX0) (N := 11) hx hb hts hinX0 hown hK hP 1 rfl rfl 7 (by decide) w_2 (fun _ h9 => h9) rfl dX2_mean_4 ?_
  refine va_get (D := D) (ci := 1) (v := .int (b.2.2.1 0)) (C := RX1) (T := TX1) (N := 12) hx hb hts hinX1 hown hK hP 3 rfl rfl 0 (by decide) w_3 (fun _ h9 => h9) rfl dX2_mean_7 ?_
  refine lv_istore_n (lv' := [(1, .int (b.2.2.1 0)), (0, .ref h)]) hx hb dX2_mean_10 rfl hl (by decide) rfl (fun ls hl => ?_)
  refine lv_iload_n hx hb dX2_mean_11 rfl (lv_at hl 0 rfl) ?_
  refine lv_if_ne (tgt := 17) hx hb dX2_mean_12 (by decide) (fun c_1 => ?_) (fun c_1 => ?_)
  · refine lv_aload_n hx hb dX2_mean_17 rfl (lv_at hl 1 rfl) ?_
    refine va_get (D := D) (ci := 2) (v := .ref (qb 0)) (C := RX2) (T := TX2) (N := 2) hx hb hts hinX2 hown hK hP 0 rfl rfl 0 (by decide) w_1 (fun _ h9 => h9) rfl dX2_mean_18 ?_
    refine va_get (D := D) (ci := 0) (v := .int (b.1 5)) (C := RX0) (T := TX0) (N := 11) hx hb hts hinX0 hown hK hP 1 rfl rfl 5 (by decide) w_4 (fun _ h9 => h9) rfl dX2_mean_21 ?_
    refine lv_i2d hx hb dX2_mean_24 ?_
    refine lv_iload_n hx hb dX2_mean_25 rfl (lv_at hl 0 rfl) ?_
    refine lv_i2d hx hb dX2_mean_26 ?_
    refine lv_ddiv hx hb dX2_mean_27 (mean_nn _ _ c_1) ?_
    exact xk_dret (wf := fun z : XBr × XBr => [cX h qb qt] ++ wB I qb z.1 ++ wB I qt z.2) (u := (b, z)) (u1 := (b, z)) hx hb hr hlocks hP hK hD hS (by unfold r_X2_mean; rw [if_neg c_1]) rfl dX2_mean_28
  · refine lv_dconst0 hx hb dX2_mean_15 ?_
    exact xk_dret (wf := fun z : XBr × XBr => [cX h qb qt] ++ wB I qb z.1 ++ wB I qt z.2) (u := (b, z)) (u1 := (b, z)) hx hb hr hlocks hP hK hD hS (by unfold r_X2_mean; rw [if_pos c_1]) rfl dX2_mean_16

def g1_X2_waitWith (b : XBr) (cd : Int32) (cp : Int32) (mi : Int32) : XBr := s_X0_goOn (xs (xs b.1 4 cd) 2 cp, b.2) mi
def r_X2_waitWith (b : XBr) (cd : Int32) (cp : Int32) (mi : Int32) : Int32 :=
  (((g1_X2_waitWith b cd cp mi).1 5) - (b.1 5))
set_option maxHeartbeats 800000 in
set_option maxRecDepth 100000 in
theorem c_X2_waitWith (l : Launch) (D : va_G) (I : ClassId) (h : Nat) (qb qt : Nat → Nat) (sz : Nat) (b : XBr) (z : XBr) (cd : Int32) (cp : Int32) (mi : Int32) (hn : nOk (b.2.2.1 0)) (hm1 : 0 ≤ (b.1 0).toInt) (hm2 : (b.1 0).toInt < 1000000000) (hz : b.1 8 = 0 ∨ b.1 8 = 1) (h1 : 0 ≤ mi.toInt) (h2 : mi.toInt ≤ 240) : xMiE l D [(I, .int)] yX2_waitWith wsX2_waitWith { frames := 5, cells := 0, slots := 0, locals := 108 } [.ref h, .int cd, .int cp, .int mi] sz ([cX h qb qt] ++ wB I qb b ++ wB I qt z) XBr (r_X2_waitWith b cd cp mi) (fun v : XBr => [cX h qb qt] ++ wB I qb b ++ wB I qt v) 0 0 := by
  refine xk_start (cc := cX2_waitWith) (maxL := 4) (ret := (some .int)) (Qf := fun A => xQiE D [(I, .int)] A XBr (r_X2_waitWith b cd cp mi) (fun v : XBr => [cX h qb qt] ++ wB I qb b ++ wB I qt v)) (by decide) rfl (Nat.le_of_ble_eq_true rfl) ?_
  intro p e s m below meth c A H ls hst hAe hsz hl
  obtain ⟨hx, hb, hr, hts, hown, hlocks, hml, hin, hN, hK, hP, hD, hA, hS⟩ := hst
  have hl : lv_has ls 4 [(0, .ref h), (1, .int cd), (2, .int cp), (3, .int mi)] := hl
  have hP : va_P D vwCl ([cX h qb qt] ++ wB I qb b ++ wB I qt z) H := hP
  have hinX2 : ∀ w ∈ u_ws RX2 TX2 2, w ∈ wsX2_waitWith := by decide +kernel
  have hinX0 : ∀ w ∈ u_ws RX0 TX0 11, w ∈ wsX2_waitWith := by decide +kernel
  have w_1 := hts (.fieldLink RX2 16 "BridgeBells" "trial" "LBridgeBells$Bridge;") (by decide +kernel)
  have w_2 := hts (.fieldLink RX2 10 "BridgeBells" "bridge" "LBridgeBells$Bridge;") (by decide +kernel)
  have w_3 := hts (.fieldLink RX2 73 "BridgeBells$Bridge" "code" "I") (by decide +kernel)
  have w_4 := hts (.fieldLink RX2 83 "BridgeBells$Bridge" "counterpoise" "I") (by decide +kernel)
  have w_5 := hts (.fieldLink RX2 137 "BridgeBells$Bridge" "waitedInAll" "I") (by decide +kernel)
  refine lv_aload_n hx hb dX2_waitWith_0 rfl (lv_at hl 0 rfl) ?_
  refine va_get (D := D) (ci := 2) (v := .ref (qt 0)) (C := RX2) (T := TX2) (N := 2) hx hb hts hinX2 hown hK hP 0 rfl rfl 1 (by decide) w_1 (fun _ h9 => h9) rfl dX2_waitWith_1 ?_
  refine lv_aload_n hx hb dX2_waitWith_4 rfl (lv_at hl 0 rfl) ?_
  refine va_get (D := D) (ci := 2) (v := .ref (qb 0)) (C := RX2) (T := TX2) (N := 2) hx hb hts hinX2 hown hK hP 0 rfl rfl 0 (by decide) w_2 (fun _ h9 => h9) rfl dX2_waitWith_5 ?_
  refine xk_callv ([cX h qb qt]) ([cX h qb qt] ++ wB I qb b ++ wB I qt b) [10, 11, 12, 13, 14, 15, 16, 17, 18, 1, 2, 3, 4, 5, 6, 7, 8, 9] [0] [0, 10, 11, 12, 13, 14, 15, 16, 17, 18, 1, 2, 3, 4, 5, 6, 7, 8, 9] hP hD hS hA (va_runV (As := [.ref (qb 0)]) (rest := []) ⟨hx, hb, hml, hown, hts⟩ (c_X0_copyFrom l D I qt qb H.size z b hz) (cwV 1 hts gX2_waitWith_X0_copyFrom rfl rfl rfl (by decide +kernel) ⟨Nat.le_of_ble_eq_true rfl, Nat.le_of_ble_eq_true rfl⟩) (xk_preV (wc := wB I qt z ++ wB I qb b) (q0 := 10) (ci := 0) hN hP hK hD [10, 11, 12, 13, 14, 15, 16, 17, 18, 1, 2, 3, 4, 5, 6, 7, 8, 9] rfl rfl rfl rfl) rfl rfl hl.1 rfl (lv_room (Nat.le_of_ble_eq_true rfl)) dX2_waitWith_8 ⟨Nat.le_of_ble_eq_true rfl, Nat.le_of_ble_eq_true rfl⟩) rfl rfl rfl (by decide) rfl rfl (fun H locs hP hD hS => ?_)
  refine lv_aload_n hx hb dX2_waitWith_11 rfl (lv_at hl 0 rfl) ?_
  refine va_get (D := D) (ci := 2) (v := .ref (qt 0)) (C := RX2) (T := TX2) (N := 2) hx hb hts hinX2 hown hK hP 0 rfl rfl 1 (by decide) w_1 (fun _ h9 => h9) rfl dX2_waitWith_12 ?_
  refine lv_iload_n hx hb dX2_waitWith_15 rfl (lv_at hl 1 rfl) ?_
  refine va_put (D := D) (ci := 0) (v := .int cd) (ty := tyX0 4) (C := RX0) (T := TX0) (N := 11) hx hb hts hinX0 tyX0 tyX0_ok nmX0 hown hK hP hD hS 10 rfl rfl 4 (by decide) w_3 (fun _ h9 => h9) rfl (tyX0_ok 4 (by decide)) rfl rfl (Nat.le_of_ble_eq_true rfl) dX2_waitWith_16 (fun H locs hP hD hS => ?_)
  have hP : va_P D vwCl ([cX h qb qt] ++ wB I qb b ++ wB I qt (xs b.1 4 cd, b.2)) H := hP
  have hD : va_D A ([cX h qb qt] ++ wB I qb b ++ wB I qt (xs b.1 4 cd, b.2)) := hD
  refine lv_aload_n hx hb dX2_waitWith_19 rfl (lv_at hl 0 rfl) ?_
  refine va_get (D := D) (ci := 2) (v := .ref (qt 0)) (C := RX2) (T := TX2) (N := 2) hx hb hts hinX2 hown hK hP 0 rfl rfl 1 (by decide) w_1 (fun _ h9 => h9) rfl dX2_waitWith_20 ?_
  refine lv_iload_n hx hb dX2_waitWith_23 rfl (lv_at hl 2 rfl) ?_
  refine va_put (D := D) (ci := 0) (v := .int cp) (ty := tyX0 2) (C := RX0) (T := TX0) (N := 11) hx hb hts hinX0 tyX0 tyX0_ok nmX0 hown hK hP hD hS 10 rfl rfl 2 (by decide) w_4 (fun _ h9 => h9) rfl (tyX0_ok 2 (by decide)) rfl rfl (Nat.le_of_ble_eq_true rfl) dX2_waitWith_24 (fun H locs hP hD hS => ?_)
  have hP : va_P D vwCl ([cX h qb qt] ++ wB I qb b ++ wB I qt (xs (xs b.1 4 cd) 2 cp, b.2)) H := hP
  have hD : va_D A ([cX h qb qt] ++ wB I qb b ++ wB I qt (xs (xs b.1 4 cd) 2 cp, b.2)) := hD
  refine lv_aload_n hx hb dX2_waitWith_27 rfl (lv_at hl 0 rfl) ?_
  refine va_get (D := D) (ci := 2) (v := .ref (qt 0)) (C := RX2) (T := TX2) (N := 2) hx hb hts hinX2 hown hK hP 0 rfl rfl 1 (by decide) w_1 (fun _ h9 => h9) rfl dX2_waitWith_28 ?_
  refine lv_iload_n hx hb dX2_waitWith_31 rfl (lv_at hl 3 rfl) ?_
  refine xk_callv ([cX h qb qt, cXB qb b.1, cA I (qb 1) 8 b.2.1, cXT qb b.2.2.1, cA I (qb 3) 40 (b.2.2.2 0), cA I (qb 4) 40 (b.2.2.2 1), cA I (qb 5) 40 (b.2.2.2 2), cA I (qb 6) 40 (b.2.2.2 3), cA I (qb 7) 40 (b.2.2.2 4), cA I (qb 8) 40 (b.2.2.2 5)]) ([cX h qb qt] ++ wB I qb b ++ wB I qt (s_X0_goOn (xs (xs b.1 4 cd) 2 cp, b.2) mi)) [10, 11, 12, 13, 14, 15, 16, 17, 18] [0, 1, 2, 3, 4, 5, 6, 7, 8, 9] [0, 1, 2, 3, 4, 5, 6, 7, 8, 9, 10, 11, 12, 13, 14, 15, 16, 17, 18] hP hD hS hA (va_runV (As := [.int mi]) (rest := []) ⟨hx, hb, hml, hown, hts⟩ (c_X0_goOn l D I qt H.size (xs (xs b.1 4 cd) 2 cp, b.2) mi hn hm1 hm2 h1 h2) (cwV 1 hts gX2_waitWith_X0_goOn rfl rfl rfl (by decide +kernel) ⟨Nat.le_of_ble_eq_true rfl, Nat.le_of_ble_eq_true rfl⟩) (xk_preV (wc := wB I qt (xs (xs b.1 4 cd) 2 cp, b.2)) (q0 := 10) (ci := 0) hN hP hK hD [10, 11, 12, 13, 14, 15, 16, 17, 18] rfl rfl rfl rfl) rfl rfl hl.1 rfl (lv_room (Nat.le_of_ble_eq_true rfl)) dX2_waitWith_32 ⟨Nat.le_of_ble_eq_true rfl, Nat.le_of_ble_eq_true rfl⟩) rfl rfl rfl (by decide) rfl rfl (fun H locs hP hD hS => ?_)
  generalize hz_1 : s_X0_goOn (xs (xs b.1 4 cd) 2 cp, b.2) mi = z_1 at hP hD
  have hg_1 : g1_X2_waitWith b cd cp mi = z_1 := by rw [← hz_1]; rfl
  refine lv_aload_n hx hb dX2_waitWith_35 rfl (lv_at hl 0 rfl) ?_
  refine va_get (D := D) (ci := 2) (v := .ref (qt 0)) (C := RX2) (T := TX2) (N := 2) hx hb hts hinX2 hown hK hP 0 rfl rfl 1 (by decide) w_1 (fun _ h9 => h9) rfl dX2_waitWith_36 ?_
  refine va_get (D := D) (ci := 0) (v := .int (z_1.1 5)) (C := RX0) (T := TX0) (N := 11) hx hb hts hinX0 hown hK hP 10 rfl rfl 5 (by decide) w_5 (fun _ h9 => h9) rfl dX2_waitWith_39 ?_
  refine lv_aload_n hx hb dX2_waitWith_42 rfl (lv_at hl 0 rfl) ?_
  refine va_get (D := D) (ci := 2) (v := .ref (qb 0)) (C := RX2) (T := TX2) (N := 2) hx hb hts hinX2 hown hK hP 0 rfl rfl 0 (by decide) w_2 (fun _ h9 => h9) rfl dX2_waitWith_43 ?_
  refine va_get (D := D) (ci := 0) (v := .int (b.1 5)) (C := RX0) (T := TX0) (N := 11) hx hb hts hinX0 hown hK hP 1 rfl rfl 5 (by decide) w_5 (fun _ h9 => h9) rfl dX2_waitWith_46 ?_
  refine lv_isub hx hb dX2_waitWith_49 ?_
  exact xk_iretE (wf := fun (z : XBr) (v : XBr) => [cX h qb qt] ++ wB I qb z ++ wB I qt v) (u := b) (u1 := b) z_1 hx hb hr rfl hlocks hP hK hD hS (by subst hg_1; unfold r_X2_waitWith; rfl) rfl dX2_waitWith_50
