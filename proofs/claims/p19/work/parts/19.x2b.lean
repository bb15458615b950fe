theorem le_nI {n : Int32} {k j : Nat} (hn : n.toInt = (k : Int)) (h : k ≤ j) (h2 : j < 2 ^ 31) : n ≤ nI j := by
  rw [Int32.le_iff_toInt_le, nI_toInt h2, hn]; omega
theorem nle_nI {n : Int32} {k j : Nat} (hn : n.toInt = (k : Int)) (h : j < k) (h2 : j < 2 ^ 31) : ¬ n ≤ nI j := by
  rw [Int32.le_iff_toInt_le, nI_toInt h2, hn]; omega
/-- behind how many minutes it has passed -/
def x_whl (k : Int32) : Nat → Nat → XBr → Int32
  | 0, _, _ => -1
  | r + 1, j, z => if z.2.2.2 2 k.toNatClampNeg = 2 then nI j else x_whl k r (j + 1) (s_X0_goOneMinute z)
/-- the best code, from the k-th on -/
def x_bc (b : XBr) (mi : Int32) : Nat → Nat → Int32 → Int32 → Int32
  | 0, _, bs, _ => bs
  | r + 1, k, bs, f => if f ≤ r_X2_waitWith b (nI k) (b.1 2) mi then x_bc b mi r (k + 1) bs f else x_bc b mi r (k + 1) (nI k) (r_X2_waitWith b (nI k) (b.1 2) mi)
def x_bp (b : XBr) (mi : Int32) : Nat → Nat → Int32 → Int32 → Int32
  | 0, _, bs, _ => bs
  | r + 1, k, bs, f => if f ≤ r_X2_waitWith b (b.1 4) (nI k) mi then x_bp b mi r (k + 1) bs f else x_bp b mi r (k + 1) (nI k) (r_X2_waitWith b (b.1 4) (nI k) mi)

def r_X2_when (b : XBr) (k : Int32) : Int32 :=
  if (r_X1_has b.2.2 k) = 0 then
    (0 : Int32)
  else
    x_whl k 401 0 b
def x_X2_when (b : XBr) (k : Int32) : Int32 :=
  if (r_X1_has b.2.2 k) = 0 then
    (1 : Int32)
  else
    (0 : Int32)
set_option maxHeartbeats 1600000 in
set_option maxRecDepth 100000 in
theorem c_X2_when (l : Launch) (hlt : l.stackTraces = false) (D : va_G) (I : ClassId) (h : Nat) (qb qt : Nat → Nat) (sz : Nat) (b z : XBr) (k : Int32) (hn : nOk (b.2.2.1 0)) (hm1 : 0 ≤ (b.1 0).toInt) (hm2 : (b.1 0).toInt < 1000000000) (hz : b.1 8 = 0 ∨ b.1 8 = 1) : xMX l D [(I, .int)] yX2_when wsX2_when { frames := 6, cells := 1, slots := 6, locals := 86 } [.ref h, .int k] sz ([cX h qb qt] ++ wB I qb b ++ wB I qt z) XBr [(eIO, 1)] (r_X2_when b k) (x_X2_when b k) (fun v : XBr => [cX h qb qt] ++ wB I qb b ++ wB I qt v) 1 6 := by
  refine xk_startX (cc := cX2_when) (maxL := 3) (ret := (some .int)) (Qf := fun A => xQiX D [(I, .int)] A XBr (r_X2_when b k) (x_X2_when b k) (fun v : XBr => [cX h qb qt] ++ wB I qb b ++ wB I qt v)) (XCf := fun A => xXC D [(I, .int)] A XBr [(eIO, 1)] (x_X2_when b k) (fun v : XBr => [cX h qb qt] ++ wB I qb b ++ wB I qt v)) (by decide) rfl (Nat.le_of_ble_eq_true rfl) ?_
  intro p e s m below meth c A H ls hst hAe hsz hl hex hXX
  obtain ⟨hx, hb, hr, hts, hown, hlocks, hml, hin, hN, hK, hP, hD, hA, hS⟩ := hst
  have hl : lv_has ls 3 [(0, .ref h), (1, .int k)] := hl
  have hP : va_P D vwCl ([cX h qb qt] ++ wB I qb b ++ wB I qt z) H := hP
  have hinX2 : ∀ w ∈ u_ws RX2 TX2 2, w ∈ wsX2_when := by decide +kernel
  have hinX0 : ∀ w ∈ u_ws RX0 TX0 11, w ∈ wsX2_when := by decide +kernel
  have hinX1 : ∀ w ∈ u_ws RX1 TX1 12, w ∈ wsX2_when := by decide +kernel
  have w_1 := hts (.fieldLink RX2 10 "BridgeBells" "bridge" "LBridgeBells$Bridge;") (by decide +kernel)
  have w_2 := hts (.fieldLink RX2 26 "BridgeBells$Bridge" "travellers" "LBridgeBells$Travellers;") (by decide +kernel)
  have w_3 := hts (.fieldLink RX2 16 "BridgeBells" "trial" "LBridgeBells$Bridge;") (by decide +kernel)
  have w_4 := hts (.fieldLink RX2 57 "BridgeBells$Travellers" "state" "[I") (by decide +kernel)
  have w_5 := hts (.classLink RX2 52 eIO) (by decide +kernel)
  have w_6 := hts (.initialized eIO) (by decide +kernel)
  refine lv_aload_n hx hb dX2_when_0 rfl (lv_at hl 0 rfl) ?_
  refine va_get (D := D) (ci := 2) (v := .ref (qb 0)) (C := RX2) (T := TX2) (N := 2) hx hb hts hinX2 hown hK hP 0 rfl rfl 0 (by decide) w_1 (fun _ h9 => h9) rfl dX2_when_1 ?_
  refine va_get (D := D) (ci := 0) (v := .ref (qb 2)) (C := RX0) (T := TX0) (N := 11) hx hb hts hinX0 hown hK hP 1 rfl rfl 7 (by decide) w_2 (fun _ h9 => h9) rfl dX2_when_4 ?_
  refine lv_iload_n hx hb dX2_when_7 rfl (lv_at hl 1 rfl) ?_
  refine xk_calli ([cX h qb qt, cXB qb b.1, cA I (qb 1) 8 b.2.1, cXB qt z.1, cA I (qt 1) 8 z.2.1, cXT qt z.2.2.1, cA I (qt 3) 40 (z.2.2.2 0), cA I (qt 4) 40 (z.2.2.2 1), cA I (qt 5) 40 (z.2.2.2 2), cA I (qt 6) 40 (z.2.2.2 3), cA I (qt 7) 40 (z.2.2.2 4), cA I (qt 8) 40 (z.2.2.2 5)]) ([cX h qb qt] ++ wB I qb b ++ wB I qt z) [3, 4, 5, 6, 7, 8, 9] [0, 1, 2, 10, 11, 12, 13, 14, 15, 16, 17, 18] [0, 1, 2, 12, 13, 14, 15, 16, 17, 18, 3, 4, 5, 6, 7, 8, 9, 10, 11] hP hD hS hA (va_runV (As := [.int k]) (rest := []) ⟨hx, hb, hml, hown, hts⟩ (c_X1_has l D I qb H.size b.2.2 k ) (cwV 1 hts gX2_when_X1_has rfl rfl rfl (by decide +kernel) ⟨Nat.le_of_ble_eq_true rfl, Nat.le_of_ble_eq_true rfl⟩) (xk_preV (wc := wT I qb b.2.2) (q0 := 3) (ci := 1) hN hP hK hD [3, 4, 5, 6, 7, 8, 9] rfl rfl rfl rfl) rfl rfl hl.1 rfl (lv_room (Nat.le_of_ble_eq_true rfl)) dX2_when_8 ⟨Nat.le_of_ble_eq_true rfl, Nat.le_of_ble_eq_true rfl⟩) rfl rfl rfl (by decide) rfl rfl (fun H locs hP hD hS => ?_)
  refine lv_if_ne (tgt := 24) hx hb dX2_when_11 (by decide) (fun c_1 => ?_) (fun c_1 => ?_)
  · refine lv_aload_n hx hb dX2_when_24 rfl (lv_at hl 0 rfl) ?_
    refine va_get (D := D) (ci := 2) (v := .ref (qt 0)) (C := RX2) (T := TX2) (N := 2) hx hb hts hinX2 hown hK hP 0 rfl rfl 1 (by decide) w_3 (fun _ h9 => h9) rfl dX2_when_25 ?_
    refine lv_aload_n hx hb dX2_when_28 rfl (lv_at hl 0 rfl) ?_
    refine va_get (D := D) (ci := 2) (v := .ref (qb 0)) (C := RX2) (T := TX2) (N := 2) hx hb hts hinX2 hown hK hP 0 rfl rfl 0 (by decide) w_1 (fun _ h9 => h9) rfl dX2_when_29 ?_
    refine xk_callv ([cX h qb qt]) ([cX h qb qt] ++ wB I qb b ++ wB I qt b) [10, 11, 12, 13, 14, 15, 16, 17, 18, 1, 2, 3, 4, 5, 6, 7, 8, 9] [0] [0, 10, 11, 12, 13, 14, 15, 16, 17, 18, 1, 2, 3, 4, 5, 6, 7, 8, 9] hP hD hS hA (va_runV (As := [.ref (qb 0)]) (rest := []) ⟨hx, hb, hml, hown, hts⟩ (c_X0_copyFrom l D I qt qb H.size z b hz) (cwV 1 hts gX2_when_X0_copyFrom rfl rfl rfl (by decide +kernel) ⟨Nat.le_of_ble_eq_true rfl, Nat.le_of_ble_eq_true rfl⟩) (xk_preV (wc := wB I qt z ++ wB I qb b) (q0 := 10) (ci := 0) hN hP hK hD [10, 11, 12, 13, 14, 15, 16, 17, 18, 1, 2, 3, 4, 5, 6, 7, 8, 9] rfl rfl rfl rfl) rfl rfl hl.1 rfl (lv_room (Nat.le_of_ble_eq_true rfl)) dX2_when_32 ⟨Nat.le_of_ble_eq_true rfl, Nat.le_of_ble_eq_true rfl⟩) rfl rfl rfl (by decide) rfl rfl (fun H locs hP hD hS => ?_)
    refine lv_iconst (v := (0 : Int32)) hx hb dX2_when_35 (by decide) ?_
    refine lv_istore_n (lv' := [(2, .int (0 : Int32)), (0, .ref h), (1, .int k)]) hx hb dX2_when_36 rfl hl (by decide) rfl (fun ls hl => ?_)
    have e9 : r_X2_when b k = x_whl k 401 0 b := by unfold r_X2_when; rw [if_neg c_1]
    have ex9 : x_X2_when b k = 0 := by unfold x_X2_when; rw [if_neg c_1]
    rw [e9]
    have hk : vp_in k 40 := (has_v hn c_1)
    have loop : ∀ (r j : Nat) (z : XBr), r + j = 401 → nOk (z.2.2.1 0) → 0 ≤ (z.1 0).toInt → (z.1 0).toInt + r < 2000000000 → ∀ (H : Heap) (locs : List Loc), va_P D vwCl ([cX h qb qt] ++ wB I qb b ++ wB I qt z) H → va_D A ([cX h qb qt] ++ wB I qb b ++ wB I qt z) → va_S A s.heap H locs → ∀ ls, lv_has ls 3 [(2, .int (nI j)), (0, .ref h), (1, .int k)] → W p l e { frames := 6, cells := 1, slots := 6, locals := 86 } s m #[.ref h, .int k] below meth c H locs 0 0 (vx_MQ below (xQiX D [(I, .int)] A XBr (x_whl k r j z) (x_X2_when b k) (fun v : XBr => [cX h qb qt] ++ wB I qb b ++ wB I qt v)) (xXC D [(I, .int)] A XBr [(eIO, 1)] (x_X2_when b k) (fun v : XBr => [cX h qb qt] ++ wB I qb b ++ wB I qt v)) #[.ref h, .int k] s 1 6 A) (F0 m 37 ls []) := by
      intro r
      induction r with
      | zero =>
        intro j z hj hz1 hm3 hm4 H locs hP hD hS ls hl
        refine lv_iload_n hx hb dX2_when_37 rfl (lv_at hl 0 rfl) ?_
        refine lv_sipush (v := (400 : Int32)) hx hb dX2_when_38 (by decide) ?_
        refine lv_icmp_gt (tgt := 75) hx hb dX2_when_41 (by decide) (fun c_2 => ?_) (fun c_2 => ?_)
        · refine lv_iconst (v := (-1 : Int32)) hx hb dX2_when_75 (by decide) ?_
          refine W.widen (k := 1) (n := 6) (Nat.le_of_ble_eq_true rfl) (Nat.le_of_ble_eq_true rfl) ?_
          exact xk_iretX (wf := fun (z : XBr) (v : XBr) => [cX h qb qt] ++ wB I qb z ++ wB I qt v) (u := b) (u1 := b) z hx hb hr rfl hlocks hP hK hD hS ex9 rfl rfl dX2_when_76
        · exact absurd (lt_nI (k := 400) (by decide) (by omega) (by omega)) c_2
      | succ r ih =>
        intro j z hj hz1 hm3 hm4 H locs hP hD hS ls hl
        refine lv_iload_n hx hb dX2_when_37 rfl (lv_at hl 0 rfl) ?_
        refine lv_sipush (v := (400 : Int32)) hx hb dX2_when_38 (by decide) ?_
        refine lv_icmp_gt (tgt := 75) hx hb dX2_when_41 (by decide) (fun c_3 => ?_) (fun c_3 => ?_)
        · exact absurd c_3 (nlt_nI (k := 400) (by decide) (by omega) (by omega))
        · refine lv_aload_n hx hb dX2_when_44 rfl (lv_at hl 1 rfl) ?_
          refine va_get (D := D) (ci := 2) (v := .ref (qt 0)) (C := RX2) (T := TX2) (N := 2) hx hb hts hinX2 hown hK hP 0 rfl rfl 1 (by decide) w_3 (fun _ h9 => h9) rfl dX2_when_45 ?_
          refine va_get (D := D) (ci := 0) (v := .ref (qt 2)) (C := RX0) (T := TX0) (N := 11) hx hb hts hinX0 hown hK hP 10 rfl rfl 7 (by decide) w_2 (fun _ h9 => h9) rfl dX2_when_48 ?_
          refine va_get (D := D) (ci := 1) (v := .ref (qt 5)) (C := RX1) (T := TX1) (N := 12) hx hb hts hinX1 hown hK hP 12 rfl rfl 6 (by decide) w_4 (fun _ h9 => h9) rfl dX2_when_51 ?_
          refine lv_iload_n hx hb dX2_when_54 rfl (lv_at hl 2 rfl) ?_
          refine va_iald (f := (z.2.2.2 2)) hx hb hK hP 15 0 rfl rfl (show vp_in k 40 from hk) dX2_when_55 ?_
          refine lv_iconst (v := (2 : Int32)) hx hb dX2_when_56 (by decide) ?_
          refine lv_icmp_ne (tgt := 62) hx hb dX2_when_57 (by decide) (fun c_4 => ?_) (fun c_4 => ?_)
          · refine lv_aload_n hx hb dX2_when_62 rfl (lv_at hl 1 rfl) ?_
            refine va_get (D := D) (ci := 2) (v := .ref (qt 0)) (C := RX2) (T := TX2) (N := 2) hx hb hts hinX2 hown hK hP 0 rfl rfl 1 (by decide) w_3 (fun _ h9 => h9) rfl dX2_when_63 ?_
            refine xk_callv ([cX h qb qt, cXB qb b.1, cA I (qb 1) 8 b.2.1, cXT qb b.2.2.1, cA I (qb 3) 40 (b.2.2.2 0), cA I (qb 4) 40 (b.2.2.2 1), cA I (qb 5) 40 (b.2.2.2 2), cA I (qb 6) 40 (b.2.2.2 3), cA I (qb 7) 40 (b.2.2.2 4), cA I (qb 8) 40 (b.2.2.2 5)]) ([cX h qb qt] ++ wB I qb b ++ wB I qt (s_X0_goOneMinute z)) [10, 11, 12, 13, 14, 15, 16, 17, 18] [0, 1, 2, 3, 4, 5, 6, 7, 8, 9] [0, 1, 2, 3, 4, 5, 6, 7, 8, 9, 10, 11, 12, 13, 14, 15, 16, 17, 18] hP hD hS hA (va_runV (As := []) (rest := []) ⟨hx, hb, hml, hown, hts⟩ (c_X0_goOneMinute l D I qt H.size z hz1 ⟨hm3, by omega⟩) (cwV 0 hts gX2_when_X0_goOneMinute rfl rfl rfl (by decide +kernel) ⟨Nat.le_of_ble_eq_true rfl, Nat.le_of_ble_eq_true rfl⟩) (xk_preV (wc := wB I qt z) (q0 := 10) (ci := 0) hN hP hK hD [10, 11, 12, 13, 14, 15, 16, 17, 18] rfl rfl rfl rfl) rfl rfl hl.1 rfl (lv_room (Nat.le_of_ble_eq_true rfl)) dX2_when_66 ⟨Nat.le_of_ble_eq_true rfl, Nat.le_of_ble_eq_true rfl⟩) rfl rfl rfl (by decide) rfl rfl (fun H locs hP hD hS => ?_)
            generalize hz_1 : s_X0_goOneMinute z = z_1 at hP hD
            refine lv_iinc (v := (nI (j + 1))) (lv' := [(2, .int (nI (j + 1))), (0, .ref h), (1, .int k)]) hx hb dX2_when_69 hl (k := 0) rfl (nI_succ j).symm (by decide) rfl (fun ls hl => ?_)
            refine lv_goto (tgt := 37) hx hb dX2_when_72 (by decide) ?_
            have e7 : x_whl k (r + 1) j z = x_whl k r (j + 1) (s_X0_goOneMinute z) := by rw [x_whl, if_neg c_4]
            rw [e7]
            subst hz_1
            exact ih (j + 1) (s_X0_goOneMinute z) (by omega) (by rw [gom_n]; exact hz1) (by rw [gom_m]; exact (p1_m hm3 (by omega)).1) (by rw [gom_m, (p1_m hm3 (by omega)).2]; omega) _ _ hP hD hS ls hl
          · refine lv_iload_n hx hb dX2_when_60 rfl (lv_at hl 0 rfl) ?_
            refine W.widen (k := 1) (n := 6) (Nat.le_of_ble_eq_true rfl) (Nat.le_of_ble_eq_true rfl) ?_
            exact xk_iretX (wf := fun (z : XBr) (v : XBr) => [cX h qb qt] ++ wB I qb z ++ wB I qt v) (u := b) (u1 := b) z hx hb hr rfl hlocks hP hK hD hS ex9 (by rw [x_whl, if_pos c_4]) rfl dX2_when_61
    exact loop 401 0 b (by omega) hn hm1 (by omega) _ _ hP hD hS ls (lv_sub hl [0, 1, 2] rfl)
  · refine xk_throw (wf := fun (z : XBr) (v : XBr) => [cX h qb qt] ++ wB I qb z ++ wB I qt v) (u := b) (u1 := b) z (cls := eIO) (text := "there is no such traveller") (ik := 52) (is := 54) (ic := 56) hx hb hlt hown (by decide +kernel) w_5 w_6 (by decide) (fun w h => hts w (List.mem_cons_of_mem _ (List.mem_append_right _ h))) (by decide +kernel) (by decide +kernel) hXX hP hK hD hS (hl.1.trans hml.symm) dX2_when_14 dX2_when_17 dX2_when_18 dX2_when_20 dX2_when_23 hex (Nat.le_of_ble_eq_true rfl) (Nat.le_of_ble_eq_true rfl) (Nat.le_of_ble_eq_true rfl) (Nat.le_of_ble_eq_true rfl) hlocks (Nat.le_of_ble_eq_true rfl) (Nat.le_of_ble_eq_true rfl) ?_ ?_
    · unfold x_X2_when; rw [if_pos c_1]; decide
    · rfl

def r_X2_bestCode (b : XBr) (mi : Int32) : Int32 :=
  if (r_X2_isSpan mi) = 0 then
    (0 : Int32)
  else
    x_bc b mi 3 1 (0 : Int32) (r_X2_waitWith b (0 : Int32) (b.1 2) mi)
def x_X2_bestCode (b : XBr) (mi : Int32) : Int32 :=
  if (r_X2_isSpan mi) = 0 then
    (1 : Int32)
  else
    (0 : Int32)
set_option maxHeartbeats 1600000 in
set_option maxRecDepth 100000 in
theorem c_X2_bestCode (l : Launch) (hlt : l.stackTraces = false) (D : va_G) (I : ClassId) (h : Nat) (qb qt : Nat → Nat) (sz : Nat) (b z : XBr) (mi : Int32) (hn : nOk (b.2.2.1 0)) (hm1 : 0 ≤ (b.1 0).toInt) (hm2 : (b.1 0).toInt < 1000000000) (hz : b.1 8 = 0 ∨ b.1 8 = 1) : xMX l D [(I, .int)] yX2_bestCode wsX2_bestCode { frames := 6, cells := 1, slots := 6, locals := 131 } [.ref h, .int mi] sz ([cX h qb qt] ++ wB I qb b ++ wB I qt z) XBr [(eIA, 1)] (r_X2_bestCode b mi) (x_X2_bestCode b mi) (fun v : XBr => [cX h qb qt] ++ wB I qb b ++ wB I qt v) 1 6 := by
  refine xk_startX (cc := cX2_bestCode) (maxL := 6) (ret := (some .int)) (Qf := fun A => xQiX D [(I, .int)] A XBr (r_X2_bestCode b mi) (x_X2_bestCode b mi) (fun v : XBr => [cX h qb qt] ++ wB I qb b ++ wB I qt v)) (XCf := fun A => xXC D [(I, .int)] A XBr [(eIA, 1)] (x_X2_bestCode b mi) (fun v : XBr => [cX h qb qt] ++ wB I qb b ++ wB I qt v)) (by decide) rfl (Nat.le_of_ble_eq_true rfl) ?_
  intro p e s m below meth c A H ls hst hAe hsz hl hex hXX
  obtain ⟨hx, hb, hr, hts, hown, hlocks, hml, hin, hN, hK, hP, hD, hA, hS⟩ := hst
  have hl : lv_has ls 6 [(0, .ref h), (1, .int mi)] := hl
  have hP : va_P D vwCl ([cX h qb qt] ++ wB I qb b ++ wB I qt z) H := hP
  have hinX2 : ∀ w ∈ u_ws RX2 TX2 2, w ∈ wsX2_bestCode := by decide +kernel
  have hinX0 : ∀ w ∈ u_ws RX0 TX0 11, w ∈ wsX2_bestCode := by decide +kernel
  have w_1 := hts (.fieldLink RX2 10 "BridgeBells" "bridge" "LBridgeBells$Bridge;") (by decide +kernel)
  have w_2 := hts (.fieldLink RX2 83 "BridgeBells$Bridge" "counterpoise" "I") (by decide +kernel)
  have w_3 := hts (.classLink RX2 19 eIA) (by decide +kernel)
  have w_4 := hts (.initialized eIA) (by decide +kernel)
  refine lv_iload_n hx hb dX2_bestCode_0 rfl (lv_at hl 1 rfl) ?_
  refine xk_calli ([cX h qb qt, cXB qb b.1, cA I (qb 1) 8 b.2.1, cXT qb b.2.2.1, cA I (qb 3) 40 (b.2.2.2 0), cA I (qb 4) 40 (b.2.2.2 1), cA I (qb 5) 40 (b.2.2.2 2), cA I (qb 6) 40 (b.2.2.2 3), cA I (qb 7) 40 (b.2.2.2 4), cA I (qb 8) 40 (b.2.2.2 5), cXB qt z.1, cA I (qt 1) 8 z.2.1, cXT qt z.2.2.1, cA I (qt 3) 40 (z.2.2.2 0), cA I (qt 4) 40 (z.2.2.2 1), cA I (qt 5) 40 (z.2.2.2 2), cA I (qt 6) 40 (z.2.2.2 3), cA I (qt 7) 40 (z.2.2.2 4), cA I (qt 8) 40 (z.2.2.2 5)]) ([cX h qb qt] ++ wB I qb b ++ wB I qt z) [] [0, 1, 2, 3, 4, 5, 6, 7, 8, 9, 10, 11, 12, 13, 14, 15, 16, 17, 18] [0, 1, 2, 3, 4, 5, 6, 7, 8, 9, 10, 11, 12, 13, 14, 15, 16, 17, 18] hP hD hS hA (va_runS (As := [.int mi]) (rest := []) ⟨hx, hb, hml, hown, hts⟩ (c_X2_isSpan l D I  H.size mi ) (va_cwS 1 hts gX2_bestCode_X2_isSpan rfl rfl rfl (by decide +kernel) ⟨Nat.le_of_ble_eq_true rfl, Nat.le_of_ble_eq_true rfl⟩) (xk_pre (wc := ([] : va_W)) hN hP hK hD [] rfl rfl) rfl rfl hl.1 rfl (lv_room (Nat.le_of_ble_eq_true rfl)) dX2_bestCode_1 ⟨Nat.le_of_ble_eq_true rfl, Nat.le_of_ble_eq_true rfl⟩) rfl rfl rfl (by decide) rfl rfl (fun H locs hP hD hS => ?_)
  refine lv_if_ne (tgt := 17) hx hb dX2_bestCode_4 (by decide) (fun c_1 => ?_) (fun c_1 => ?_)
  · refine lv_iconst (v := (0 : Int32)) hx hb dX2_bestCode_17 (by decide) ?_
    refine lv_istore_n (lv' := [(2, .int (0 : Int32)), (0, .ref h), (1, .int mi)]) hx hb dX2_bestCode_18 rfl hl (by decide) rfl (fun ls hl => ?_)
    refine lv_aload_n hx hb dX2_bestCode_19 rfl (lv_at hl 1 rfl) ?_
    refine lv_iload_n hx hb dX2_bestCode_20 rfl (lv_at hl 0 rfl) ?_
    refine lv_aload_n hx hb dX2_bestCode_21 rfl (lv_at hl 1 rfl) ?_
    refine va_get (D := D) (ci := 2) (v := .ref (qb 0)) (C := RX2) (T := TX2) (N := 2) hx hb hts hinX2 hown hK hP 0 rfl rfl 0 (by decide) w_1 (fun _ h9 => h9) rfl dX2_bestCode_22 ?_
    refine va_get (D := D) (ci := 0) (v := .int (b.1 2)) (C := RX0) (T := TX0) (N := 11) hx hb hts hinX0 hown hK hP 1 rfl rfl 2 (by decide) w_2 (fun _ h9 => h9) rfl dX2_bestCode_25 ?_
    refine lv_iload_n hx hb dX2_bestCode_28 rfl (lv_at hl 2 rfl) ?_
    refine xk_calliE ([]) (fun v : XBr => [cX h qb qt] ++ wB I qb b ++ wB I qt v) [0, 1, 2, 3, 4, 5, 6, 7, 8, 9, 10, 11, 12, 13, 14, 15, 16, 17, 18] [] [0, 1, 2, 3, 4, 5, 6, 7, 8, 9, 10, 11, 12, 13, 14, 15, 16, 17, 18] hP hD hS hA (va_runV (As := [.int (0 : Int32), .int (b.1 2), .int mi]) (rest := []) ⟨hx, hb, hml, hown, hts⟩ (c_X2_waitWith l D I h qb qt H.size b z (0 : Int32) (b.1 2) mi hn hm1 hm2 hz (span_b c_1).1 (span_b c_1).2) (cwV 3 hts gX2_bestCode_X2_waitWith rfl rfl rfl (by decide +kernel) ⟨Nat.le_of_ble_eq_true rfl, Nat.le_of_ble_eq_true rfl⟩) (xk_preV (wc := [cX h qb qt] ++ wB I qb b ++ wB I qt z) (q0 := 0) (ci := 2) hN hP hK hD [0, 1, 2, 3, 4, 5, 6, 7, 8, 9, 10, 11, 12, 13, 14, 15, 16, 17, 18] rfl rfl rfl rfl) rfl rfl hl.1 rfl (lv_room (Nat.le_of_ble_eq_true rfl)) dX2_bestCode_29 ⟨Nat.le_of_ble_eq_true rfl, Nat.le_of_ble_eq_true rfl⟩) rfl rfl rfl (by decide) rfl (fun _ => rfl) (fun z_1 H locs hP hD hS => ?_)
    have hP : va_P D vwCl ([cX h qb qt] ++ wB I qb b ++ wB I qt z_1) H := hP
    have hD : va_D A ([cX h qb qt] ++ wB I qb b ++ wB I qt z_1) := hD
    refine lv_istore_n (lv' := [(3, .int (r_X2_waitWith b (0 : Int32) (b.1 2) mi)), (2, .int (0 : Int32)), (0, .ref h), (1, .int mi)]) hx hb dX2_bestCode_32 rfl hl (by decide) rfl (fun ls hl => ?_)
    refine lv_iload_n hx hb dX2_bestCode_33 rfl (lv_at hl 1 rfl) ?_
    refine lv_iconst (v := (1 : Int32)) hx hb dX2_bestCode_34 (by decide) ?_
    refine lv_iadd hx hb dX2_bestCode_35 ?_
    refine W.eq (g2 := F0 m 36 ls [.int (1 : Int32)]) (by rfl) ?_
    refine lv_istore (lv' := [(4, .int (1 : Int32)), (3, .int (r_X2_waitWith b (0 : Int32) (b.1 2) mi)), (2, .int (0 : Int32)), (0, .ref h), (1, .int mi)]) hx hb dX2_bestCode_36 hl (by decide) rfl (fun ls hl => ?_)
    have e9 : r_X2_bestCode b mi = x_bc b mi 3 1 (0 : Int32) (r_X2_waitWith b (0 : Int32) (b.1 2) mi) := by unfold r_X2_bestCode; rw [if_neg c_1]
    have ex9 : x_X2_bestCode b mi = 0 := by unfold x_X2_bestCode; rw [if_neg c_1]
    rw [e9]
    have hs1 := (span_b c_1).1
    have hs2 := (span_b c_1).2
    have loop : ∀ (r k : Nat) (bs f : Int32) (z : XBr), r + k = 4 → ∀ (H : Heap) (locs : List Loc), va_P D vwCl ([cX h qb qt] ++ wB I qb b ++ wB I qt z) H → va_D A ([cX h qb qt] ++ wB I qb b ++ wB I qt z) → va_S A s.heap H locs → ∀ ls, lv_has ls 6 [(4, .int (nI k)), (3, .int f), (2, .int bs), (0, .ref h), (1, .int mi)] → W p l e { frames := 6, cells := 1, slots := 6, locals := 131 } s m #[.ref h, .int mi] below meth c H locs 0 0 (vx_MQ below (xQiX D [(I, .int)] A XBr (x_bc b mi r k bs f) (x_X2_bestCode b mi) (fun v : XBr => [cX h qb qt] ++ wB I qb b ++ wB I qt v)) (xXC D [(I, .int)] A XBr [(eIA, 1)] (x_X2_bestCode b mi) (fun v : XBr => [cX h qb qt] ++ wB I qb b ++ wB I qt v)) #[.ref h, .int mi] s 1 6 A) (F0 m 38 ls []) := by
      intro r
      induction r with
      | zero =>
        intro k bs f z hk H locs hP hD hS ls hl
        refine lv_iload hx hb dX2_bestCode_38 (lv_at hl 0 rfl) ?_
        refine lv_iconst (v := (3 : Int32)) hx hb dX2_bestCode_40 (by decide) ?_
        refine lv_icmp_gt (tgt := 78) hx hb dX2_bestCode_41 (by decide) (fun c_2 => ?_) (fun c_2 => ?_)
        · refine lv_iload_n hx hb dX2_bestCode_78 rfl (lv_at hl 2 rfl) ?_
          refine W.widen (k := 1) (n := 6) (Nat.le_of_ble_eq_true rfl) (Nat.le_of_ble_eq_true rfl) ?_
          exact xk_iretX (wf := fun (z : XBr) (v : XBr) => [cX h qb qt] ++ wB I qb z ++ wB I qt v) (u := b) (u1 := b) z hx hb hr rfl hlocks hP hK hD hS ex9 rfl rfl dX2_bestCode_79
        · exact absurd (lt_nI (k := 3) (by decide) (by omega) (by omega)) c_2
      | succ r ih =>
        intro k bs f z hk H locs hP hD hS ls hl
        refine lv_iload hx hb dX2_bestCode_38 (lv_at hl 0 rfl) ?_
        refine lv_iconst (v := (3 : Int32)) hx hb dX2_bestCode_40 (by decide) ?_
        refine lv_icmp_gt (tgt := 78) hx hb dX2_bestCode_41 (by decide) (fun c_3 => ?_) (fun c_3 => ?_)
        · exact absurd c_3 (nlt_nI (k := 3) (by decide) (by omega) (by omega))
        · refine lv_aload_n hx hb dX2_bestCode_44 rfl (lv_at hl 3 rfl) ?_
          refine lv_iload hx hb dX2_bestCode_45 (lv_at hl 0 rfl) ?_
          refine lv_aload_n hx hb dX2_bestCode_47 rfl (lv_at hl 3 rfl) ?_
          refine va_get (D := D) (ci := 2) (v := .ref (qb 0)) (C := RX2) (T := TX2) (N := 2) hx hb hts hinX2 hown hK hP 0 rfl rfl 0 (by decide) w_1 (fun _ h9 => h9) rfl dX2_bestCode_48 ?_
          refine va_get (D := D) (ci := 0) (v := .int (b.1 2)) (C := RX0) (T := TX0) (N := 11) hx hb hts hinX0 hown hK hP 1 rfl rfl 2 (by decide) w_2 (fun _ h9 => h9) rfl dX2_bestCode_51 ?_
          refine lv_iload_n hx hb dX2_bestCode_54 rfl (lv_at hl 4 rfl) ?_
          refine xk_calliE ([]) (fun v : XBr => [cX h qb qt] ++ wB I qb b ++ wB I qt v) [0, 1, 2, 3, 4, 5, 6, 7, 8, 9, 10, 11, 12, 13, 14, 15, 16, 17, 18] [] [0, 1, 2, 3, 4, 5, 6, 7, 8, 9, 10, 11, 12, 13, 14, 15, 16, 17, 18] hP hD hS hA (va_runV (As := [.int (nI k), .int (b.1 2), .int mi]) (rest := []) ⟨hx, hb, hml, hown, hts⟩ (c_X2_waitWith l D I h qb qt H.size b z (nI k) (b.1 2) mi hn hm1 hm2 hz hs1 hs2) (cwV 3 hts gX2_bestCode_X2_waitWith rfl rfl rfl (by decide +kernel) ⟨Nat.le_of_ble_eq_true rfl, Nat.le_of_ble_eq_true rfl⟩) (xk_preV (wc := [cX h qb qt] ++ wB I qb b ++ wB I qt z) (q0 := 0) (ci := 2) hN hP hK hD [0, 1, 2, 3, 4, 5, 6, 7, 8, 9, 10, 11, 12, 13, 14, 15, 16, 17, 18] rfl rfl rfl rfl) rfl rfl hl.1 rfl (lv_room (Nat.le_of_ble_eq_true rfl)) dX2_bestCode_55 ⟨Nat.le_of_ble_eq_true rfl, Nat.le_of_ble_eq_true rfl⟩) rfl rfl rfl (by decide) rfl (fun _ => rfl) (fun z_2 H locs hP hD hS => ?_)
          have hP : va_P D vwCl ([cX h qb qt] ++ wB I qb b ++ wB I qt z_2) H := hP
          have hD : va_D A ([cX h qb qt] ++ wB I qb b ++ wB I qt z_2) := hD
          refine lv_istore (lv' := [(5, .int (r_X2_waitWith b (nI k) (b.1 2) mi)), (4, .int (nI k)), (3, .int f), (2, .int bs), (0, .ref h), (1, .int mi)]) hx hb dX2_bestCode_58 hl (by decide) rfl (fun ls hl => ?_)
          refine lv_iload hx hb dX2_bestCode_60 (lv_at hl 0 rfl) ?_
          refine lv_iload_n hx hb dX2_bestCode_62 rfl (lv_at hl 2 rfl) ?_
          refine lv_icmp_ge (tgt := 72) hx hb dX2_bestCode_63 (by decide) (fun c_4 => ?_) (fun c_4 => ?_)
          · refine lv_iinc (v := (nI (k + 1))) (lv' := [(4, .int (nI (k + 1))), (5, .int (r_X2_waitWith b (nI k) (b.1 2) mi)), (3, .int f), (2, .int bs), (0, .ref h), (1, .int mi)]) hx hb dX2_bestCode_72 hl (k := 1) rfl (nI_succ k).symm (by decide) rfl (fun ls hl => ?_)
            refine lv_goto (tgt := 38) hx hb dX2_bestCode_75 (by decide) ?_
            have e7 : x_bc b mi (r + 1) k bs f = x_bc b mi r (k + 1) bs f := by rw [x_bc, if_pos c_4]
            rw [e7]
            exact ih (k + 1) _ _ _ (by omega) _ _ hP hD hS ls (lv_sub hl [0, 2, 3, 4, 5] rfl)
          · refine lv_iload hx hb dX2_bestCode_66 (lv_at hl 0 rfl) ?_
            refine lv_istore_n (lv' := [(3, .int (r_X2_waitWith b (nI k) (b.1 2) mi)), (5, .int (r_X2_waitWith b (nI k) (b.1 2) mi)), (4, .int (nI k)), (2, .int bs), (0, .ref h), (1, .int mi)]) hx hb dX2_bestCode_68 rfl hl (by decide) rfl (fun ls hl => ?_)
            refine lv_iload hx hb dX2_bestCode_69 (lv_at hl 2 rfl) ?_
            refine lv_istore_n (lv' := [(2, .int (nI k)), (3, .int (r_X2_waitWith b (nI k) (b.1 2) mi)), (5, .int (r_X2_waitWith b (nI k) (b.1 2) mi)), (4, .int (nI k)), (0, .ref h), (1, .int mi)]) hx hb dX2_bestCode_71 rfl hl (by decide) rfl (fun ls hl => ?_)
            refine lv_iinc (v := (nI (k + 1))) (lv' := [(4, .int (nI (k + 1))), (2, .int (nI k)), (3, .int (r_X2_waitWith b (nI k) (b.1 2) mi)), (5, .int (r_X2_waitWith b (nI k) (b.1 2) mi)), (0, .ref h), (1, .int mi)]) hx hb dX2_bestCode_72 hl (k := 3) rfl (nI_succ k).symm (by decide) rfl (fun ls hl => ?_)
            refine lv_goto (tgt := 38) hx hb dX2_bestCode_75 (by decide) ?_
            have e7 : x_bc b mi (r + 1) k bs f = x_bc b mi r (k + 1) (nI k) (r_X2_waitWith b (nI k) (b.1 2) mi) := by rw [x_bc, if_neg c_4]
            rw [e7]
            exact ih (k + 1) _ _ _ (by omega) _ _ hP hD hS ls (lv_sub hl [0, 2, 1, 4, 5] rfl)
    exact loop 3 1 _ _ z_1 (by omega) _ _ hP hD hS ls (lv_sub hl [0, 1, 2, 3, 4] rfl)
  · refine xk_throw (wf := fun (z : XBr) (v : XBr) => [cX h qb qt] ++ wB I qb z ++ wB I qt v) (u := b) (u1 := b) z (cls := eIA) (text := "minutes is not 1 to 240") (ik := 19) (is := 119) (ic := 23) hx hb hlt hown (by decide +kernel) w_3 w_4 (by decide) (fun w h => hts w (List.mem_cons_of_mem _ (List.mem_append_right _ h))) (by decide +kernel) (by decide +kernel) hXX hP hK hD hS (hl.1.trans hml.symm) dX2_bestCode_7 dX2_bestCode_10 dX2_bestCode_11 dX2_bestCode_13 dX2_bestCode_16 hex (Nat.le_of_ble_eq_true rfl) (Nat.le_of_ble_eq_true rfl) (Nat.le_of_ble_eq_true rfl) (Nat.le_of_ble_eq_true rfl) hlocks (Nat.le_of_ble_eq_true rfl) (Nat.le_of_ble_eq_true rfl) ?_ ?_
    · unfold x_X2_bestCode; rw [if_pos c_1]; decide
    · rfl

def r_X2_bestPoise (b : XBr) (mi : Int32) : Int32 :=
  if (r_X2_isSpan mi) = 0 then
    (0 : Int32)
  else
    x_bp b mi 30 1 (0 : Int32) (r_X2_waitWith b (b.1 4) (0 : Int32) mi)
def x_X2_bestPoise (b : XBr) (mi : Int32) : Int32 :=
  if (r_X2_isSpan mi) = 0 then
    (1 : Int32)
  else
    (0 : Int32)
set_option maxHeartbeats 1600000 in
set_option maxRecDepth 100000 in
theorem c_X2_bestPoise (l : Launch) (hlt : l.stackTraces = false) (D : va_G) (I : ClassId) (h : Nat) (qb qt : Nat → Nat) (sz : Nat) (b z : XBr) (mi : Int32) (hn : nOk (b.2.2.1 0)) (hm1 : 0 ≤ (b.1 0).toInt) (hm2 : (b.1 0).toInt < 1000000000) (hz : b.1 8 = 0 ∨ b.1 8 = 1) : xMX l D [(I, .int)] yX2_bestPoise wsX2_bestPoise { frames := 6, cells := 1, slots := 6, locals := 131 } [.ref h, .int mi] sz ([cX h qb qt] ++ wB I qb b ++ wB I qt z) XBr [(eIA, 1)] (r_X2_bestPoise b mi) (x_X2_bestPoise b mi) (fun v : XBr => [cX h qb qt] ++ wB I qb b ++ wB I qt v) 1 6 := by
  refine xk_startX (cc := cX2_bestPoise) (maxL := 6) (ret := (some .int)) (Qf := fun A => xQiX D [(I, .int)] A XBr (r_X2_bestPoise b mi) (x_X2_bestPoise b mi) (fun v : XBr => [cX h qb qt] ++ wB I qb b ++ wB I qt v)) (XCf := fun A => xXC D [(I, .int)] A XBr [(eIA, 1)] (x_X2_bestPoise b mi) (fun v : XBr => [cX h qb qt] ++ wB I qb b ++ wB I qt v)) (by decide) rfl (Nat.le_of_ble_eq_true rfl) ?_
  intro p e s m below meth c A H ls hst hAe hsz hl hex hXX
  obtain ⟨hx, hb, hr, hts, hown, hlocks, hml, hin, hN, hK, hP, hD, hA, hS⟩ := hst
  have hl : lv_has ls 6 [(0, .ref h), (1, .int mi)] := hl
  have hP : va_P D vwCl ([cX h qb qt] ++ wB I qb b ++ wB I qt z) H := hP
  have hinX2 : ∀ w ∈ u_ws RX2 TX2 2, w ∈ wsX2_bestPoise := by decide +kernel
  have hinX0 : ∀ w ∈ u_ws RX0 TX0 11, w ∈ wsX2_bestPoise := by decide +kernel
  have w_1 := hts (.fieldLink RX2 10 "BridgeBells" "bridge" "LBridgeBells$Bridge;") (by decide +kernel)
  have w_2 := hts (.fieldLink RX2 73 "BridgeBells$Bridge" "code" "I") (by decide +kernel)
  have w_3 := hts (.classLink RX2 19 eIA) (by decide +kernel)
  have w_4 := hts (.initialized eIA) (by decide +kernel)
  refine lv_iload_n hx hb dX2_bestPoise_0 rfl (lv_at hl 1 rfl) ?_
  refine xk_calli ([cX h qb qt, cXB qb b.1, cA I (qb 1) 8 b.2.1, cXT qb b.2.2.1, cA I (qb 3) 40 (b.2.2.2 0), cA I (qb 4) 40 (b.2.2.2 1), cA I (qb 5) 40 (b.2.2.2 2), cA I (qb 6) 40 (b.2.2.2 3), cA I (qb 7) 40 (b.2.2.2 4), cA I (qb 8) 40 (b.2.2.2 5), cXB qt z.1, cA I (qt 1) 8 z.2.1, cXT qt z.2.2.1, cA I (qt 3) 40 (z.2.2.2 0), cA I (qt 4) 40 (z.2.2.2 1), cA I (qt 5) 40 (z.2.2.2 2), cA I (qt 6) 40 (z.2.2.2 3), cA I (qt 7) 40 (z.2.2.2 4), cA I (qt 8) 40 (z.2.2.2 5)]) ([cX h qb qt] ++ wB I qb b ++ wB I qt z) [] [0, 1, 2, 3, 4, 5, 6, 7, 8, 9, 10, 11, 12, 13, 14, 15, 16, 17, 18] [0, 1, 2, 3, 4, 5, 6, 7, 8, 9, 10, 11, 12, 13, 14, 15, 16, 17, 18] hP hD hS hA (va_runS (As := [.int mi]) (rest := []) ⟨hx, hb, hml, hown, hts⟩ (c_X2_isSpan l D I  H.size mi ) (va_cwS 1 hts gX2_bestPoise_X2_isSpan rfl rfl rfl (by decide +kernel) ⟨Nat.le_of_ble_eq_true rfl, Nat.le_of_ble_eq_true rfl⟩) (xk_pre (wc := ([] : va_W)) hN hP hK hD [] rfl rfl) rfl rfl hl.1 rfl (lv_room (Nat.le_of_ble_eq_true rfl)) dX2_bestPoise_1 ⟨Nat.le_of_ble_eq_true rfl, Nat.le_of_ble_eq_true rfl⟩) rfl rfl rfl (by decide) rfl rfl (fun H locs hP hD hS => ?_)
  refine lv_if_ne (tgt := 17) hx hb dX2_bestPoise_4 (by decide) (fun c_1 => ?_) (fun c_1 => ?_)
  · refine lv_iconst (v := (0 : Int32)) hx hb dX2_bestPoise_17 (by decide) ?_
    refine lv_istore_n (lv' := [(2, .int (0 : Int32)), (0, .ref h), (1, .int mi)]) hx hb dX2_bestPoise_18 rfl hl (by decide) rfl (fun ls hl => ?_)
    refine lv_aload_n hx hb dX2_bestPoise_19 rfl (lv_at hl 1 rfl) ?_
    refine lv_aload_n hx hb dX2_bestPoise_20 rfl (lv_at hl 1 rfl) ?_
    refine va_get (D := D) (ci := 2) (v := .ref (qb 0)) (C := RX2) (T := TX2) (N := 2) hx hb hts hinX2 hown hK hP 0 rfl rfl 0 (by decide) w_1 (fun _ h9 => h9) rfl dX2_bestPoise_21 ?_
    refine va_get (D := D) (ci := 0) (v := .int (b.1 4)) (C := RX0) (T := TX0) (N := 11) hx hb hts hinX0 hown hK hP 1 rfl rfl 4 (by decide) w_2 (fun _ h9 => h9) rfl dX2_bestPoise_24 ?_
    refine lv_iload_n hx hb dX2_bestPoise_27 rfl (lv_at hl 0 rfl) ?_
    refine lv_iload_n hx hb dX2_bestPoise_28 rfl (lv_at hl 2 rfl) ?_
    refine xk_calliE ([]) (fun v : XBr => [cX h qb qt] ++ wB I qb b ++ wB I qt v) [0, 1, 2, 3, 4, 5, 6, 7, 8, 9, 10, 11, 12, 13, 14, 15, 16, 17, 18] [] [0, 1, 2, 3, 4, 5, 6, 7, 8, 9, 10, 11, 12, 13, 14, 15, 16, 17, 18] hP hD hS hA (va_runV (As := [.int (b.1 4), .int (0 : Int32), .int mi]) (rest := []) ⟨hx, hb, hml, hown, hts⟩ (c_X2_waitWith l D I h qb qt H.size b z (b.1 4) (0 : Int32) mi hn hm1 hm2 hz (span_b c_1).1 (span_b c_1).2) (cwV 3 hts gX2_bestPoise_X2_waitWith rfl rfl rfl (by decide +kernel) ⟨Nat.le_of_ble_eq_true rfl, Nat.le_of_ble_eq_true rfl⟩) (xk_preV (wc := [cX h qb qt] ++ wB I qb b ++ wB I qt z) (q0 := 0) (ci := 2) hN hP hK hD [0, 1, 2, 3, 4, 5, 6, 7, 8, 9, 10, 11, 12, 13, 14, 15, 16, 17, 18] rfl rfl rfl rfl) rfl rfl hl.1 rfl (lv_room (Nat.le_of_ble_eq_true rfl)) dX2_bestPoise_29 ⟨Nat.le_of_ble_eq_true rfl, Nat.le_of_ble_eq_true rfl⟩) rfl rfl rfl (by decide) rfl (fun _ => rfl) (fun z_1 H locs hP hD hS => ?_)
    have hP : va_P D vwCl ([cX h qb qt] ++ wB I qb b ++ wB I qt z_1) H := hP
    have hD : va_D A ([cX h qb qt] ++ wB I qb b ++ wB I qt z_1) := hD
    refine lv_istore_n (lv' := [(3, .int (r_X2_waitWith b (b.1 4) (0 : Int32) mi)), (2, .int (0 : Int32)), (0, .ref h), (1, .int mi)]) hx hb dX2_bestPoise_32 rfl hl (by decide) rfl (fun ls hl => ?_)
    refine lv_iload_n hx hb dX2_bestPoise_33 rfl (lv_at hl 1 rfl) ?_
    refine lv_iconst (v := (1 : Int32)) hx hb dX2_bestPoise_34 (by decide) ?_
    refine lv_iadd hx hb dX2_bestPoise_35 ?_
    refine W.eq (g2 := F0 m 36 ls [.int (1 : Int32)]) (by rfl) ?_
    refine lv_istore (lv' := [(4, .int (1 : Int32)), (3, .int (r_X2_waitWith b (b.1 4) (0 : Int32) mi)), (2, .int (0 : Int32)), (0, .ref h), (1, .int mi)]) hx hb dX2_bestPoise_36 hl (by decide) rfl (fun ls hl => ?_)
    have e9 : r_X2_bestPoise b mi = x_bp b mi 30 1 (0 : Int32) (r_X2_waitWith b (b.1 4) (0 : Int32) mi) := by unfold r_X2_bestPoise; rw [if_neg c_1]
    have ex9 : x_X2_bestPoise b mi = 0 := by unfold x_X2_bestPoise; rw [if_neg c_1]
    rw [e9]
    have hs1 := (span_b c_1).1
    have hs2 := (span_b c_1).2
    have loop : ∀ (r k : Nat) (bs f : Int32) (z : XBr), r + k = 31 → ∀ (H : Heap) (locs : List Loc), va_P D vwCl ([cX h qb qt] ++ wB I qb b ++ wB I qt z) H → va_D A ([cX h qb qt] ++ wB I qb b ++ wB I qt z) → va_S A s.heap H locs → ∀ ls, lv_has ls 6 [(4, .int (nI k)), (3, .int f), (2, .int bs), (0, .ref h), (1, .int mi)] → W p l e { frames := 6, cells := 1, slots := 6, locals := 131 } s m #[.ref h, .int mi] below meth c H locs 0 0 (vx_MQ below (xQiX D [(I, .int)] A XBr (x_bp b mi r k bs f) (x_X2_bestPoise b mi) (fun v : XBr => [cX h qb qt] ++ wB I qb b ++ wB I qt v)) (xXC D [(I, .int)] A XBr [(eIA, 1)] (x_X2_bestPoise b mi) (fun v : XBr => [cX h qb qt] ++ wB I qb b ++ wB I qt v)) #[.ref h, .int mi] s 1 6 A) (F0 m 38 ls []) := by
      intro r
      induction r with
      | zero =>
        intro k bs f z hk H locs hP hD hS ls hl
        refine lv_iload hx hb dX2_bestPoise_38 (lv_at hl 0 rfl) ?_
        refine lv_bipush (v := (30 : Int32)) hx hb dX2_bestPoise_40 (by decide) ?_
        refine lv_icmp_gt (tgt := 79) hx hb dX2_bestPoise_42 (by decide) (fun c_2 => ?_) (fun c_2 => ?_)
        · refine lv_iload_n hx hb dX2_bestPoise_79 rfl (lv_at hl 2 rfl) ?_
          refine W.widen (k := 1) (n := 6) (Nat.le_of_ble_eq_true rfl) (Nat.le_of_ble_eq_true rfl) ?_
          exact xk_iretX (wf := fun (z : XBr) (v : XBr) => [cX h qb qt] ++ wB I qb z ++ wB I qt v) (u := b) (u1 := b) z hx hb hr rfl hlocks hP hK hD hS ex9 rfl rfl dX2_bestPoise_80
        · exact absurd (lt_nI (k := 30) (by decide) (by omega) (by omega)) c_2
      | succ r ih =>
        intro k bs f z hk H locs hP hD hS ls hl
        refine lv_iload hx hb dX2_bestPoise_38 (lv_at hl 0 rfl) ?_
        refine lv_bipush (v := (30 : Int32)) hx hb dX2_bestPoise_40 (by decide) ?_
        refine lv_icmp_gt (tgt := 79) hx hb dX2_bestPoise_42 (by decide) (fun c_3 => ?_) (fun c_3 => ?_)
        · exact absurd c_3 (nlt_nI (k := 30) (by decide) (by omega) (by omega))
        · refine lv_aload_n hx hb dX2_bestPoise_45 rfl (lv_at hl 3 rfl) ?_
          refine lv_aload_n hx hb dX2_bestPoise_46 rfl (lv_at hl 3 rfl) ?_
          refine va_get (D := D) (ci := 2) (v := .ref (qb 0)) (C := RX2) (T := TX2) (N := 2) hx hb hts hinX2 hown hK hP 0 rfl rfl 0 (by decide) w_1 (fun _ h9 => h9) rfl dX2_bestPoise_47 ?_
          refine va_get (D := D) (ci := 0) (v := .int (b.1 4)) (C := RX0) (T := TX0) (N := 11) hx hb hts hinX0 hown hK hP 1 rfl rfl 4 (by decide) w_2 (fun _ h9 => h9) rfl dX2_bestPoise_50 ?_
          refine lv_iload hx hb dX2_bestPoise_53 (lv_at hl 0 rfl) ?_
          refine lv_iload_n hx hb dX2_bestPoise_55 rfl (lv_at hl 4 rfl) ?_
          refine xk_calliE ([]) (fun v : XBr => [cX h qb qt] ++ wB I qb b ++ wB I qt v) [0, 1, 2, 3, 4, 5, 6, 7, 8, 9, 10, 11, 12, 13, 14, 15, 16, 17, 18] [] [0, 1, 2, 3, 4, 5, 6, 7, 8, 9, 10, 11, 12, 13, 14, 15, 16, 17, 18] hP hD hS hA (va_runV (As := [.int (b.1 4), .int (nI k), .int mi]) (rest := []) ⟨hx, hb, hml, hown, hts⟩ (c_X2_waitWith l D I h qb qt H.size b z (b.1 4) (nI k) mi hn hm1 hm2 hz hs1 hs2) (cwV 3 hts gX2_bestPoise_X2_waitWith rfl rfl rfl (by decide +kernel) ⟨Nat.le_of_ble_eq_true rfl, Nat.le_of_ble_eq_true rfl⟩) (xk_preV (wc := [cX h qb qt] ++ wB I qb b ++ wB I qt z) (q0 := 0) (ci := 2) hN hP hK hD [0, 1, 2, 3, 4, 5, 6, 7, 8, 9, 10, 11, 12, 13, 14, 15, 16, 17, 18] rfl rfl rfl rfl) rfl rfl hl.1 rfl (lv_room (Nat.le_of_ble_eq_true rfl)) dX2_bestPoise_56 ⟨Nat.le_of_ble_eq_true rfl, Nat.le_of_ble_eq_true rfl⟩) rfl rfl rfl (by decide) rfl (fun _ => rfl) (fun z_2 H locs hP hD hS => ?_)
          have hP : va_P D vwCl ([cX h qb qt] ++ wB I qb b ++ wB I qt z_2) H := hP
          have hD : va_D A ([cX h qb qt] ++ wB I qb b ++ wB I qt z_2) := hD
          refine lv_istore (lv' := [(5, .int (r_X2_waitWith b (b.1 4) (nI k) mi)), (4, .int (nI k)), (3, .int f), (2, .int bs), (0, .ref h), (1, .int mi)]) hx hb dX2_bestPoise_59 hl (by decide) rfl (fun ls hl => ?_)
          refine lv_iload hx hb dX2_bestPoise_61 (lv_at hl 0 rfl) ?_
          refine lv_iload_n hx hb dX2_bestPoise_63 rfl (lv_at hl 2 rfl) ?_
          refine lv_icmp_ge (tgt := 73) hx hb dX2_bestPoise_64 (by decide) (fun c_4 => ?_) (fun c_4 => ?_)
          · refine lv_iinc (v := (nI (k + 1))) (lv' := [(4, .int (nI (k + 1))), (5, .int (r_X2_waitWith b (b.1 4) (nI k) mi)), (3, .int f), (2, .int bs), (0, .ref h), (1, .int mi)]) hx hb dX2_bestPoise_73 hl (k := 1) rfl (nI_succ k).symm (by decide) rfl (fun ls hl => ?_)
            refine lv_goto (tgt := 38) hx hb dX2_bestPoise_76 (by decide) ?_
            have e7 : x_bp b mi (r + 1) k bs f = x_bp b mi r (k + 1) bs f := by rw [x_bp, if_pos c_4]
            rw [e7]
            exact ih (k + 1) _ _ _ (by omega) _ _ hP hD hS ls (lv_sub hl [0, 2, 3, 4, 5] rfl)
          · refine lv_iload hx hb dX2_bestPoise_67 (lv_at hl 0 rfl) ?_
            refine lv_istore_n (lv' := [(3, .int (r_X2_waitWith b (b.1 4) (nI k) mi)), (5, .int (r_X2_waitWith b (b.1 4) (nI k) mi)), (4, .int (nI k)), (2, .int bs), (0, .ref h), (1, .int mi)]) hx hb dX2_bestPoise_69 rfl hl (by decide) rfl (fun ls hl => ?_)
            refine lv_iload hx hb dX2_bestPoise_70 (lv_at hl 2 rfl) ?_
            refine lv_istore_n (lv' := [(2, .int (nI k)), (3, .int (r_X2_waitWith b (b.1 4) (nI k) mi)), (5, .int (r_X2_waitWith b (b.1 4) (nI k) mi)), (4, .int (nI k)), (0, .ref h), (1, .int mi)]) hx hb dX2_bestPoise_72 rfl hl (by decide) rfl (fun ls hl => ?_)
            refine lv_iinc (v := (nI (k + 1))) (lv' := [(4, .int (nI (k + 1))), (2, .int (nI k)), (3, .int (r_X2_waitWith b (b.1 4) (nI k) mi)), (5, .int (r_X2_waitWith b (b.1 4) (nI k) mi)), (0, .ref h), (1, .int mi)]) hx hb dX2_bestPoise_73 hl (k := 3) rfl (nI_succ k).symm (by decide) rfl (fun ls hl => ?_)
            refine lv_goto (tgt := 38) hx hb dX2_bestPoise_76 (by decide) ?_
            have e7 : x_bp b mi (r + 1) k bs f = x_bp b mi r (k + 1) (nI k) (r_X2_waitWith b (b.1 4) (nI k) mi) := by rw [x_bp, if_neg c_4]
            rw [e7]
            exact ih (k + 1) _ _ _ (by omega) _ _ hP hD hS ls (lv_sub hl [0, 2, 1, 4, 5] rfl)
    exact loop 30 1 _ _ z_1 (by omega) _ _ hP hD hS ls (lv_sub hl [0, 1, 2, 3, 4] rfl)
  · refine xk_throw (wf := fun (z : XBr) (v : XBr) => [cX h qb qt] ++ wB I qb z ++ wB I qt v) (u := b) (u1 := b) z (cls := eIA) (text := "minutes is not 1 to 240") (ik := 19) (is := 119) (ic := 23) hx hb hlt hown (by decide +kernel) w_3 w_4 (by decide) (fun w h => hts w (List.mem_cons_of_mem _ (List.mem_append_right _ h))) (by decide +kernel) (by decide +kernel) hXX hP hK hD hS (hl.1.trans hml.symm) dX2_bestPoise_7 dX2_bestPoise_10 dX2_bestPoise_11 dX2_bestPoise_13 dX2_bestPoise_16 hex (Nat.le_of_ble_eq_true rfl) (Nat.le_of_ble_eq_true rfl) (Nat.le_of_ble_eq_true rfl) (Nat.le_of_ble_eq_true rfl) hlocks (Nat.le_of_ble_eq_true rfl) (Nat.le_of_ble_eq_true rfl) ?_ ?_
    · unfold x_X2_bestPoise; rw [if_pos c_1]; decide
    · rfl

def x_d1 (b : XBr) : Nat → Int64
  | 0 => 1021
  | k + 1 => x_d1 b k * 31 + (r_X0_total b (nI k)).toInt64
def x_d3i (b : XBr) (k : Nat) (d : Int64) : Nat → Int64
  | 0 => d
  | j + 1 => x_d3i b k d j * 31 + (r_X0_factOf b (nI k) (nI j)).toInt64
def x_d3 (b : XBr) (d : Int64) : Nat → Int64
  | 0 => d
  | k + 1 => x_d3i b k (x_d3 b d k) 7
def r_X2_digest (b : XBr) : Int64 := x_d3 b (m_d2 b.2.1 (x_d1 b 12) 8) (b.2.2.1 0).toNatClampNeg

set_option maxHeartbeats 800000 in
set_option maxRecDepth 100000 in
theorem c_X2_digest (l : Launch) (D : va_G) (I : ClassId) (h : Nat) (qb qt : Nat → Nat) (sz : Nat) (b : XBr) (z : XBr) (hn : nOk (b.2.2.1 0)) : xMl l D [(I, .int)] yX2_digest wsX2_digest { frames := 4, cells := 0, slots := 0, locals := 74 } [.ref h] sz ([cX h qb qt] ++ wB I qb b ++ wB I qt z) (r_X2_digest b) ([cX h qb qt] ++ wB I qb b ++ wB I qt z) 0 0 := by
  refine xk_start (cc := cX2_digest) (maxL := 5) (ret := (some .long)) (Qf := fun A => xQl D [(I, .int)] A (r_X2_digest b) ([cX h qb qt] ++ wB I qb b ++ wB I qt z)) (by decide) rfl (Nat.le_of_ble_eq_true rfl) ?_
  intro p e s m below meth c A H ls hst hAe hsz hl
  obtain ⟨hx, hb, hr, hts, hown, hlocks, hml, hin, hN, hK, hP, hD, hA, hS⟩ := hst
  have hl : lv_has ls 5 [(0, .ref h)] := hl
  have hP : va_P D vwCl ([cX h qb qt] ++ wB I qb b ++ wB I qt z) H := hP
  have hinX2 : ∀ w ∈ u_ws RX2 TX2 2, w ∈ wsX2_digest := by decide +kernel
  have hinX0 : ∀ w ∈ u_ws RX0 TX0 11, w ∈ wsX2_digest := by decide +kernel
  have hinX1 : ∀ w ∈ u_ws RX1 TX1 12, w ∈ wsX2_digest := by decide +kernel
  have w_1 := hts (.constantLong RX2 144 (1021)) (by decide +kernel)
  have w_2 := hts (.fieldLink RX2 10 "BridgeBells" "bridge" "LBridgeBells$Bridge;") (by decide +kernel)
  have w_3 := hts (.fieldLink RX2 26 "BridgeBells$Bridge" "travellers" "LBridgeBells$Travellers;") (by decide +kernel)
  have w_4 := hts (.fieldLink RX2 30 "BridgeBells$Travellers" "number" "I") (by decide +kernel)
  have w_5 := hts (.constantLong RX2 146 (31)) (by decide +kernel)
  have w_6 := hts (.fieldLink RX2 90 "BridgeBells$Bridge" "cold" "[I") (by decide +kernel)
  have hN1 : b.2.2.1 0 = nI (b.2.2.1 0).toNatClampNeg := nOk_nI hn
  have hN40 : (b.2.2.1 0).toNatClampNeg ≤ 40 := nOk_le hn
  refine lv_ldc2 (v := (1021 : Int64)) hx hb hown w_1 dX2_digest_0 ?_
  refine lv_lstore_n (lv' := [(1, .long (1021 : Int64)), (0, .ref h)]) hx hb dX2_digest_3 rfl hl (by decide) rfl (fun ls hl => ?_)
  refine lv_iconst (v := (0 : Int32)) hx hb dX2_digest_4 (by decide) ?_
  refine lv_istore_n (lv' := [(3, .int (0 : Int32)), (1, .long (1021 : Int64)), (0, .ref h)]) hx hb dX2_digest_5 rfl hl (by decide) rfl (fun ls hl => ?_)
  have loop3 : ∀ (r k : Nat), r + k = (b.2.2.1 0).toNatClampNeg → ∀ (H : Heap) (locs : List Loc), va_P D vwCl ([cX h qb qt] ++ wB I qb b ++ wB I qt z) H → va_D A ([cX h qb qt] ++ wB I qb b ++ wB I qt z) → va_S A s.heap H locs → ∀ ls, lv_has ls 5 [(3, .int (nI k)), (1, .long (x_d3 b (m_d2 b.2.1 (x_d1 b 12) 8) k)), (0, .ref h)] → W p l e { frames := 4, cells := 0, slots := 0, locals := 74 } s m #[.ref h] below meth c H locs 0 0 (MQ below (xQl D [(I, .int)] A (r_X2_digest b) ([cX h qb qt] ++ wB I qb b ++ wB I qt z)) #[.ref h] s 0 0 A) (F0 m 67 ls []) := by
    intro r
    induction r with
    | zero =>
      intro k hk H locs hP hD hS ls hl
      refine lv_iload_n hx hb dX2_digest_67 rfl (lv_at hl 0 rfl) ?_
      refine lv_aload_n hx hb dX2_digest_68 rfl (lv_at hl 2 rfl) ?_
      refine va_get (D := D) (ci := 2) (v := .ref (qb 0)) (C := RX2) (T := TX2) (N := 2) hx hb hts hinX2 hown hK hP 0 rfl rfl 0 (by decide) w_2 (fun _ h9 => h9) rfl dX2_digest_69 ?_
      refine va_get (D := D) (ci := 0) (v := .ref (qb 2)) (C := RX0) (T := TX0) (N := 11) hx hb hts hinX0 hown hK hP 1 rfl rfl 7 (by decide) w_3 (fun _ h9 => h9) rfl dX2_digest_72 ?_
      refine va_get (D := D) (ci := 1) (v := .int (b.2.2.1 0)) (C := RX1) (T := TX1) (N := 12) hx hb hts hinX1 hown hK hP 3 rfl rfl 0 (by decide) w_4 (fun _ h9 => h9) rfl dX2_digest_75 ?_
      refine lv_icmp_ge (tgt := 121) hx hb dX2_digest_78 (by decide) (fun c_1 => ?_) (fun c_1 => ?_)
      · refine lv_lload_n hx hb dX2_digest_121 rfl (lv_at hl 1 rfl) ?_
        exact xk_lret (wf := fun z : XBr × XBr => [cX h qb qt] ++ wB I qb z.1 ++ wB I qt z.2) (u := (b, z)) (u1 := (b, z)) hx hb hr hlocks hP hK hD hS (by show _ = x_d3 b (m_d2 b.2.1 (x_d1 b 12) 8) (b.2.2.1 0).toNatClampNeg; rw [show k = (b.2.2.1 0).toNatClampNeg by omega]) rfl dX2_digest_122
      · exact absurd (by rw [hN1]; exact nI_le (by omega) (by omega)) c_1
    | succ r ih =>
      intro k hk H locs hP hD hS ls hl
      refine lv_iload_n hx hb dX2_digest_67 rfl (lv_at hl 0 rfl) ?_
      refine lv_aload_n hx hb dX2_digest_68 rfl (lv_at hl 2 rfl) ?_
      refine va_get (D := D) (ci := 2) (v := .ref (qb 0)) (C := RX2) (T := TX2) (N := 2) hx hb hts hinX2 hown hK hP 0 rfl rfl 0 (by decide) w_2 (fun _ h9 => h9) rfl dX2_digest_69 ?_
      refine va_get (D := D) (ci := 0) (v := .ref (qb 2)) (C := RX0) (T := TX0) (N := 11) hx hb hts hinX0 hown hK hP 1 rfl rfl 7 (by decide) w_3 (fun _ h9 => h9) rfl dX2_digest_72 ?_
      refine va_get (D := D) (ci := 1) (v := .int (b.2.2.1 0)) (C := RX1) (T := TX1) (N := 12) hx hb hts hinX1 hown hK hP 3 rfl rfl 0 (by decide) w_4 (fun _ h9 => h9) rfl dX2_digest_75 ?_
      refine lv_icmp_ge (tgt := 121) hx hb dX2_digest_78 (by decide) (fun c_2 => ?_) (fun c_2 => ?_)
      · exact absurd c_2 (by rw [hN1]; exact nI_ge (by omega) (by omega))
      · refine lv_iconst (v := (0 : Int32)) hx hb dX2_digest_81 (by decide) ?_
        refine lv_istore (lv' := [(4, .int (0 : Int32)), (3, .int (nI k)), (1, .long (x_d3 b (m_d2 b.2.1 (x_d1 b 12) 8) k)), (0, .ref h)]) hx hb dX2_digest_82 hl (by decide) rfl (fun ls hl => ?_)
        have inner : ∀ (r2 j : Nat), r2 + j = 7 → ∀ (H : Heap) (locs : List Loc), va_P D vwCl ([cX h qb qt] ++ wB I qb b ++ wB I qt z) H → va_D A ([cX h qb qt] ++ wB I qb b ++ wB I qt z) → va_S A s.heap H locs → ∀ ls, lv_has ls 5 [(4, .int (nI j)), (1, .long (x_d3i b k (x_d3 b (m_d2 b.2.1 (x_d1 b 12) 8) k) j)), (3, .int (nI k)), (0, .ref h)] → W p l e { frames := 4, cells := 0, slots := 0, locals := 74 } s m #[.ref h] below meth c H locs 0 0 (MQ below (xQl D [(I, .int)] A (r_X2_digest b) ([cX h qb qt] ++ wB I qb b ++ wB I qt z)) #[.ref h] s 0 0 A) (F0 m 84 ls []) := by
          intro r2
          induction r2 with
          | zero =>
            intro j hj H locs hP hD hS ls hl
            have hj7 : j = 7 := by omega
            subst hj7
            refine lv_iload hx hb dX2_digest_84 (lv_at hl 0 rfl) ?_
            refine lv_bipush (v := (7 : Int32)) hx hb dX2_digest_86 (by decide) ?_
            refine lv_icmp_ge (tgt := 115) hx hb dX2_digest_88 (by decide) (fun c_3 => ?_) (fun c_3 => ?_)
            · refine lv_iinc (v := (nI (k + 1))) (lv' := [(3, .int (nI (k + 1))), (4, .int (nI 7)), (1, .long (x_d3i b k (x_d3 b (m_d2 b.2.1 (x_d1 b 12) 8) k) 7)), (0, .ref h)]) hx hb dX2_digest_115 hl (k := 2) rfl (nI_succ k).symm (by decide) rfl (fun ls hl => ?_)
              refine lv_goto (tgt := 67) hx hb dX2_digest_118 (by decide) ?_
              exact ih (k + 1) (by omega) _ _ hP hD hS ls (lv_sub hl [0, 2, 3] rfl)
            · exact absurd (le_nI (n := 7) (k := 7) (j := 7) (by decide) (by omega) (by omega)) c_3
          | succ r2 ih2 =>
            intro j hj H locs hP hD hS ls hl
            refine lv_iload hx hb dX2_digest_84 (lv_at hl 0 rfl) ?_
            refine lv_bipush (v := (7 : Int32)) hx hb dX2_digest_86 (by decide) ?_
            refine lv_icmp_ge (tgt := 115) hx hb dX2_digest_88 (by decide) (fun c_4 => ?_) (fun c_4 => ?_)
            · exact absurd c_4 (nle_nI (n := 7) (k := 7) (j := j) (by decide) (by omega) (by omega))
            · refine lv_lload_n hx hb dX2_digest_91 rfl (lv_at hl 1 rfl) ?_
              refine lv_ldc2 (v := (31 : Int64)) hx hb hown w_5 dX2_digest_92 ?_
              refine lv_lmul hx hb dX2_digest_95 ?_
              refine lv_aload_n hx hb dX2_digest_96 rfl (lv_at hl 3 rfl) ?_
              refine va_get (D := D) (ci := 2) (v := .ref (qb 0)) (C := RX2) (T := TX2) (N := 2) hx hb hts hinX2 hown hK hP 0 rfl rfl 0 (by decide) w_2 (fun _ h9 => h9) rfl dX2_digest_97 ?_
              refine lv_iload_n hx hb dX2_digest_100 rfl (lv_at hl 2 rfl) ?_
              refine lv_iload hx hb dX2_digest_101 (lv_at hl 0 rfl) ?_
              refine xk_calli ([cX h qb qt, cXB qt z.1, cA I (qt 1) 8 z.2.1, cXT qt z.2.2.1, cA I (qt 3) 40 (z.2.2.2 0), cA I (qt 4) 40 (z.2.2.2 1), cA I (qt 5) 40 (z.2.2.2 2), cA I (qt 6) 40 (z.2.2.2 3), cA I (qt 7) 40 (z.2.2.2 4), cA I (qt 8) 40 (z.2.2.2 5)]) ([cX h qb qt] ++ wB I qb b ++ wB I qt z) [1, 2, 3, 4, 5, 6, 7, 8, 9] [0, 10, 11, 12, 13, 14, 15, 16, 17, 18] [0, 10, 11, 12, 13, 14, 15, 16, 17, 18, 1, 2, 3, 4, 5, 6, 7, 8, 9] hP hD hS hA (va_runV (As := [.int (nI k), .int (nI j)]) (rest := [.long ((x_d3i b k (x_d3 b (m_d2 b.2.1 (x_d1 b 12) 8) k) j) * (31 : Int64))]) ⟨hx, hb, hml, hown, hts⟩ (c_X0_factOf l D I qb H.size b (nI k) (nI j) (in_nI (k := k) (by omega) hN40)) (cwV 2 hts gX2_digest_X0_factOf rfl rfl rfl (by decide +kernel) ⟨Nat.le_of_ble_eq_true rfl, Nat.le_of_ble_eq_true rfl⟩) (xk_preV (wc := wB I qb b) (q0 := 1) (ci := 0) hN hP hK hD [1, 2, 3, 4, 5, 6, 7, 8, 9] rfl rfl rfl rfl) rfl rfl hl.1 rfl (lv_room (Nat.le_of_ble_eq_true rfl)) dX2_digest_103 ⟨Nat.le_of_ble_eq_true rfl, Nat.le_of_ble_eq_true rfl⟩) rfl rfl rfl (by decide) rfl rfl (fun H locs hP hD hS => ?_)
              refine lv_i2l (v := (r_X0_factOf b (nI k) (nI j)).toInt64) hx hb dX2_digest_106 rfl ?_
              refine lv_ladd hx hb dX2_digest_107 ?_
              refine lv_lstore_n (lv' := [(1, .long (((x_d3i b k (x_d3 b (m_d2 b.2.1 (x_d1 b 12) 8) k) j) * (31 : Int64)) + (r_X0_factOf b (nI k) (nI j)).toInt64)), (4, .int (nI j)), (3, .int (nI k)), (0, .ref h)]) hx hb dX2_digest_108 rfl hl (by decide) rfl (fun ls hl => ?_)
              refine lv_iinc (v := (nI (j + 1))) (lv' := [(4, .int (nI (j + 1))), (1, .long (((x_d3i b k (x_d3 b (m_d2 b.2.1 (x_d1 b 12) 8) k) j) * (31 : Int64)) + (r_X0_factOf b (nI k) (nI j)).toInt64)), (3, .int (nI k)), (0, .ref h)]) hx hb dX2_digest_109 hl (k := 1) rfl (nI_succ j).symm (by decide) rfl (fun ls hl => ?_)
              refine lv_goto (tgt := 84) hx hb dX2_digest_112 (by decide) ?_
              exact ih2 (j + 1) (by omega) _ _ hP hD hS ls (lv_sub hl [0, 1, 2, 3] rfl)
        exact inner 7 0 (by omega) _ _ hP hD hS ls (lv_sub hl [0, 2, 1, 3] rfl)
  have loop2 : ∀ (r k : Nat), r + k = 8 → ∀ (H : Heap) (locs : List Loc), va_P D vwCl ([cX h qb qt] ++ wB I qb b ++ wB I qt z) H → va_D A ([cX h qb qt] ++ wB I qb b ++ wB I qt z) → va_S A s.heap H locs → ∀ ls, lv_has ls 5 [(3, .int (nI k)), (1, .long (m_d2 b.2.1 (x_d1 b 12) k)), (0, .ref h)] → W p l e { frames := 4, cells := 0, slots := 0, locals := 74 } s m #[.ref h] below meth c H locs 0 0 (MQ below (xQl D [(I, .int)] A (r_X2_digest b) ([cX h qb qt] ++ wB I qb b ++ wB I qt z)) #[.ref h] s 0 0 A) (F0 m 36 ls []) := by
    intro r
    induction r with
    | zero =>
      intro k hk H locs hP hD hS ls hl
      have hk8 : k = 8 := by omega
      subst hk8
      refine lv_iload_n hx hb dX2_digest_36 rfl (lv_at hl 0 rfl) ?_
      refine lv_bipush (v := (8 : Int32)) hx hb dX2_digest_37 (by decide) ?_
      refine lv_icmp_ge (tgt := 65) hx hb dX2_digest_39 (by decide) (fun c_5 => ?_) (fun c_5 => ?_)
      · refine lv_iconst (v := (0 : Int32)) hx hb dX2_digest_65 (by decide) ?_
        refine lv_istore_n (lv' := [(3, .int (0 : Int32)), (1, .long (m_d2 b.2.1 (x_d1 b 12) 8)), (0, .ref h)]) hx hb dX2_digest_66 rfl hl (by decide) rfl (fun ls hl => ?_)
        exact loop3 (b.2.2.1 0).toNatClampNeg 0 (by omega) _ _ hP hD hS ls (lv_sub hl [0, 1, 2] rfl)
      · exact absurd (le_nI (n := 8) (k := 8) (j := 8) (by decide) (by omega) (by omega)) c_5
    | succ r ih =>
      intro k hk H locs hP hD hS ls hl
      refine lv_iload_n hx hb dX2_digest_36 rfl (lv_at hl 0 rfl) ?_
      refine lv_bipush (v := (8 : Int32)) hx hb dX2_digest_37 (by decide) ?_
      refine lv_icmp_ge (tgt := 65) hx hb dX2_digest_39 (by decide) (fun c_6 => ?_) (fun c_6 => ?_)
      · exact absurd c_6 (nle_nI (n := 8) (k := 8) (j := k) (by decide) (by omega) (by omega))
      · refine lv_lload_n hx hb dX2_digest_42 rfl (lv_at hl 1 rfl) ?_
        refine lv_ldc2 (v := (31 : Int64)) hx hb hown w_5 dX2_digest_43 ?_
        refine lv_lmul hx hb dX2_digest_46 ?_
        refine lv_aload_n hx hb dX2_digest_47 rfl (lv_at hl 2 rfl) ?_
        refine va_get (D := D) (ci := 2) (v := .ref (qb 0)) (C := RX2) (T := TX2) (N := 2) hx hb hts hinX2 hown hK hP 0 rfl rfl 0 (by decide) w_2 (fun _ h9 => h9) rfl dX2_digest_48 ?_
        refine va_get (D := D) (ci := 0) (v := .ref (qb 1)) (C := RX0) (T := TX0) (N := 11) hx hb hts hinX0 hown hK hP 1 rfl rfl 6 (by decide) w_6 (fun _ h9 => h9) rfl dX2_digest_51 ?_
        refine lv_iload_n hx hb dX2_digest_54 rfl (lv_at hl 0 rfl) ?_
        refine va_iald (f := b.2.1) hx hb hK hP 2 0 rfl rfl (show vp_in (nI k) 8 from (vp_in_nI (n := k) (by omega) (by omega))) dX2_digest_55 ?_
        refine W.eq (congrArg (fun z => F0 m 56 ls (.int (b.2.1 z) :: [.long ((m_d2 b.2.1 (x_d1 b 12) k) * (31 : Int64))])) (nI_clamp (n := k) (by omega))) ?_
        refine lv_i2l (v := (b.2.1 k).toInt64) hx hb dX2_digest_56 rfl ?_
        refine lv_ladd hx hb dX2_digest_57 ?_
        refine lv_lstore_n (lv' := [(1, .long (((m_d2 b.2.1 (x_d1 b 12) k) * (31 : Int64)) + (b.2.1 k).toInt64)), (3, .int (nI k)), (0, .ref h)]) hx hb dX2_digest_58 rfl hl (by decide) rfl (fun ls hl => ?_)
        refine lv_iinc (v := (nI (k + 1))) (lv' := [(3, .int (nI (k + 1))), (1, .long (((m_d2 b.2.1 (x_d1 b 12) k) * (31 : Int64)) + (b.2.1 k).toInt64)), (0, .ref h)]) hx hb dX2_digest_59 hl (k := 1) rfl (nI_succ k).symm (by decide) rfl (fun ls hl => ?_)
        refine lv_goto (tgt := 36) hx hb dX2_digest_62 (by decide) ?_
        exact ih (k + 1) (by omega) _ _ hP hD hS ls (lv_sub hl [0, 1, 2] rfl)
  have loop1 : ∀ (r k : Nat), r + k = 12 → ∀ (H : Heap) (locs : List Loc), va_P D vwCl ([cX h qb qt] ++ wB I qb b ++ wB I qt z) H → va_D A ([cX h qb qt] ++ wB I qb b ++ wB I qt z) → va_S A s.heap H locs → ∀ ls, lv_has ls 5 [(3, .int (nI k)), (1, .long (x_d1 b k)), (0, .ref h)] → W p l e { frames := 4, cells := 0, slots := 0, locals := 74 } s m #[.ref h] below meth c H locs 0 0 (MQ below (xQl D [(I, .int)] A (r_X2_digest b) ([cX h qb qt] ++ wB I qb b ++ wB I qt z)) #[.ref h] s 0 0 A) (F0 m 6 ls []) := by
    intro r
    induction r with
    | zero =>
      intro k hk H locs hP hD hS ls hl
      have hk8 : k = 12 := by omega
      subst hk8
      refine lv_iload_n hx hb dX2_digest_6 rfl (lv_at hl 0 rfl) ?_
      refine lv_bipush (v := (12 : Int32)) hx hb dX2_digest_7 (by decide) ?_
      refine lv_icmp_ge (tgt := 34) hx hb dX2_digest_9 (by decide) (fun c_7 => ?_) (fun c_7 => ?_)
      · refine lv_iconst (v := (0 : Int32)) hx hb dX2_digest_34 (by decide) ?_
        refine lv_istore_n (lv' := [(3, .int (0 : Int32)), (1, .long (x_d1 b 12)), (0, .ref h)]) hx hb dX2_digest_35 rfl hl (by decide) rfl (fun ls hl => ?_)
        exact loop2 8 0 (by omega) _ _ hP hD hS ls (lv_sub hl [0, 1, 2] rfl)
      · exact absurd (le_nI (n := 12) (k := 12) (j := 12) (by decide) (by omega) (by omega)) c_7
    | succ r ih =>
      intro k hk H locs hP hD hS ls hl
      refine lv_iload_n hx hb dX2_digest_6 rfl (lv_at hl 0 rfl) ?_
      refine lv_bipush (v := (12 : Int32)) hx hb dX2_digest_7 (by decide) ?_
      refine lv_icmp_ge (tgt := 34) hx hb dX2_digest_9 (by decide) (fun c_8 => ?_) (fun c_8 => ?_)
      · exact absurd c_8 (nle_nI (n := 12) (k := 12) (j := k) (by decide) (by omega) (by omega))
      · refine lv_lload_n hx hb dX2_digest_12 rfl (lv_at hl 1 rfl) ?_
        refine lv_ldc2 (v := (31 : Int64)) hx hb hown w_5 dX2_digest_13 ?_
        refine lv_lmul hx hb dX2_digest_16 ?_
        refine lv_aload_n hx hb dX2_digest_17 rfl (lv_at hl 2 rfl) ?_
        refine va_get (D := D) (ci := 2) (v := .ref (qb 0)) (C := RX2) (T := TX2) (N := 2) hx hb hts hinX2 hown hK hP 0 rfl rfl 0 (by decide) w_2 (fun _ h9 => h9) rfl dX2_digest_18 ?_
        refine lv_iload_n hx hb dX2_digest_21 rfl (lv_at hl 0 rfl) ?_
        refine xk_calli ([cX h qb qt, cXB qt z.1, cA I (qt 1) 8 z.2.1, cXT qt z.2.2.1, cA I (qt 3) 40 (z.2.2.2 0), cA I (qt 4) 40 (z.2.2.2 1), cA I (qt 5) 40 (z.2.2.2 2), cA I (qt 6) 40 (z.2.2.2 3), cA I (qt 7) 40 (z.2.2.2 4), cA I (qt 8) 40 (z.2.2.2 5)]) ([cX h qb qt] ++ wB I qb b ++ wB I qt z) [1, 2, 3, 4, 5, 6, 7, 8, 9] [0, 10, 11, 12, 13, 14, 15, 16, 17, 18] [0, 10, 11, 12, 13, 14, 15, 16, 17, 18, 1, 2, 3, 4, 5, 6, 7, 8, 9] hP hD hS hA (va_runV (As := [.int (nI k)]) (rest := [.long ((x_d1 b k) * (31 : Int64))]) ⟨hx, hb, hml, hown, hts⟩ (c_X0_total l D I qb H.size b (nI k) ) (cwV 1 hts gX2_digest_X0_total rfl rfl rfl (by decide +kernel) ⟨Nat.le_of_ble_eq_true rfl, Nat.le_of_ble_eq_true rfl⟩) (xk_preV (wc := wB I qb b) (q0 := 1) (ci := 0) hN hP hK hD [1, 2, 3, 4, 5, 6, 7, 8, 9] rfl rfl rfl rfl) rfl rfl hl.1 rfl (lv_room (Nat.le_of_ble_eq_true rfl)) dX2_digest_22 ⟨Nat.le_of_ble_eq_true rfl, Nat.le_of_ble_eq_true rfl⟩) rfl rfl rfl (by decide) rfl rfl (fun H locs hP hD hS => ?_)
        refine lv_i2l (v := (r_X0_total b (nI k)).toInt64) hx hb dX2_digest_25 rfl ?_
        refine lv_ladd hx hb dX2_digest_26 ?_
        refine lv_lstore_n (lv' := [(1, .long (((x_d1 b k) * (31 : Int64)) + (r_X0_total b (nI k)).toInt64)), (3, .int (nI k)), (0, .ref h)]) hx hb dX2_digest_27 rfl hl (by decide) rfl (fun ls hl => ?_)
        refine lv_iinc (v := (nI (k + 1))) (lv' := [(3, .int (nI (k + 1))), (1, .long (((x_d1 b k) * (31 : Int64)) + (r_X0_total b (nI k)).toInt64)), (0, .ref h)]) hx hb dX2_digest_28 hl (k := 1) rfl (nI_succ k).symm (by decide) rfl (fun ls hl => ?_)
        refine lv_goto (tgt := 6) hx hb dX2_digest_31 (by decide) ?_
        exact ih (k + 1) (by omega) _ _ hP hD hS ls (lv_sub hl [0, 1, 2] rfl)
  exact loop1 12 0 (by omega) _ _ hP hD hS ls (lv_sub hl [0, 1, 2] rfl)
