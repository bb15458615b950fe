def g1_X0_goOneMinute (b : XBr) : XBr := s_X0_serve b (r_X0_servedNext b)
def g2_X0_goOneMinute (b : XBr) : XBr := s_X0_goOnPassing (g1_X0_goOneMinute b)
def g3_X0_goOneMinute (b : XBr) : XBr := s_X0_freeze (xs (g2_X0_goOneMinute b).1 5 (((g2_X0_goOneMinute b).1 5) + (((g2_X0_goOneMinute b).2.2.1 2) + ((g2_X0_goOneMinute b).2.2.1 3))), (g2_X0_goOneMinute b).2)
def s_X0_goOneMinute (b : XBr) : XBr :=
  (xs (g3_X0_goOneMinute b).1 0 (((g3_X0_goOneMinute b).1 0) + (1 : Int32)), (g3_X0_goOneMinute b).2)
set_option maxHeartbeats 800000 in
set_option maxRecDepth 100000 in
theorem c_X0_goOneMinute (l : Launch) (D : va_G) (I : ClassId) (q : Nat → Nat) (sz : Nat) (b : XBr) (hn : nOk (b.2.2.1 0)) (hm : mOk (b.1 0)) : xMv l D [(I, .int)] yX0_goOneMinute wsX0_goOneMinute { frames := 3, cells := 0, slots := 0, locals := 66 } [.ref (q 0)] sz (wB I q b) (wB I q (s_X0_goOneMinute b)) 0 0 := by
  refine xk_start (cc := cX0_goOneMinute) (maxL := 1) (ret := none) (Qf := fun A => xQv D [(I, .int)] A (wB I q (s_X0_goOneMinute b))) (by decide) rfl (Nat.le_of_ble_eq_true rfl) ?_
  intro p e s m below meth c A H ls hst hAe hsz hl
  obtain ⟨hx, hb, hr, hts, hown, hlocks, hml, hin, hN, hK, hP, hD, hA, hS⟩ := hst
  have hl : lv_has ls 1 [(0, .ref (q 0))] := hl
  have hP : va_P D vwCl (wB I q b) H := hP
  have hinX0 : ∀ w ∈ u_ws RX0 TX0 11, w ∈ wsX0_goOneMinute := by decide +kernel
  have hinX1 : ∀ w ∈ u_ws RX1 TX1 12, w ∈ wsX0_goOneMinute := by decide +kernel
  have w_1 := hts (.fieldLink RX0 27 "BridgeBells$Bridge" "waitedInAll" "I") (by decide +kernel)
  have w_2 := hts (.fieldLink RX0 37 "BridgeBells$Bridge" "travellers" "LBridgeBells$Travellers;") (by decide +kernel)
  have w_3 := hts (.fieldLink RX0 75 "BridgeBells$Travellers" "bargesWaiting" "I") (by decide +kernel)
  have w_4 := hts (.fieldLink RX0 78 "BridgeBells$Travellers" "cartsWaiting" "I") (by decide +kernel)
  have w_5 := hts (.fieldLink RX0 9 "BridgeBells$Bridge" "minute" "I") (by decide +kernel)
  refine lv_aload_n hx hb dX0_goOneMinute_0 rfl (lv_at hl 0 rfl) ?_
  refine lv_aload_n hx hb dX0_goOneMinute_1 rfl (lv_at hl 0 rfl) ?_
  refine xk_calli ([]) (wB I q b) [0, 1, 2, 3, 4, 5, 6, 7, 8] [] [0, 1, 2, 3, 4, 5, 6, 7, 8] hP hD hS hA (va_runV (As := []) (rest := [.ref (q 0)]) ⟨hx, hb, hml, hown, hts⟩ (c_X0_servedNext l D I q H.size b ) (cwV 0 hts gX0_goOneMinute_X0_servedNext rfl rfl rfl (by decide +kernel) ⟨Nat.le_of_ble_eq_true rfl, Nat.le_of_ble_eq_true rfl⟩) (xk_preV (wc := wB I q b) (q0 := 0) (ci := 0) hN hP hK hD [0, 1, 2, 3, 4, 5, 6, 7, 8] rfl rfl rfl rfl) rfl rfl hl.1 rfl (lv_room (Nat.le_of_ble_eq_true rfl)) dX0_goOneMinute_2 ⟨Nat.le_of_ble_eq_true rfl, Nat.le_of_ble_eq_true rfl⟩) rfl rfl rfl (by decide) rfl rfl (fun H locs hP hD hS => ?_)
  refine xk_callv ([]) (wB I q (s_X0_serve b (r_X0_servedNext b))) [0, 1, 2, 3, 4, 5, 6, 7, 8] [] [0, 1, 2, 3, 4, 5, 6, 7, 8] hP hD hS hA (va_runV (As := [.int (r_X0_servedNext b)]) (rest := []) ⟨hx, hb, hml, hown, hts⟩ (c_X0_serve l D I q H.size b (r_X0_servedNext b) hn) (cwV 1 hts gX0_goOneMinute_X0_serve rfl rfl rfl (by decide +kernel) ⟨Nat.le_of_ble_eq_true rfl, Nat.le_of_ble_eq_true rfl⟩) (xk_preV (wc := wB I q b) (q0 := 0) (ci := 0) hN hP hK hD [0, 1, 2, 3, 4, 5, 6, 7, 8] rfl rfl rfl rfl) rfl rfl hl.1 rfl (lv_room (Nat.le_of_ble_eq_true rfl)) dX0_goOneMinute_5 ⟨Nat.le_of_ble_eq_true rfl, Nat.le_of_ble_eq_true rfl⟩) rfl rfl rfl (by decide) rfl rfl (fun H locs hP hD hS => ?_)
  generalize hz_1 : s_X0_serve b (r_X0_servedNext b) = z_1 at hP hD
  have hg_1 : g1_X0_goOneMinute b = z_1 := by rw [← hz_1]; rfl
  refine lv_aload_n hx hb dX0_goOneMinute_8 rfl (lv_at hl 0 rfl) ?_
  refine xk_callv ([]) (wB I q (s_X0_goOnPassing z_1)) [0, 1, 2, 3, 4, 5, 6, 7, 8] [] [0, 1, 2, 3, 4, 5, 6, 7, 8] hP hD hS hA (va_runV (As := []) (rest := []) ⟨hx, hb, hml, hown, hts⟩ (c_X0_goOnPassing l D I q H.size z_1 (by subst hg_1; show nOk ((s_X0_serve b _).2.2.1 0); rw [serve_n]; exact hn)) (cwV 0 hts gX0_goOneMinute_X0_goOnPassing rfl rfl rfl (by decide +kernel) ⟨Nat.le_of_ble_eq_true rfl, Nat.le_of_ble_eq_true rfl⟩) (xk_preV (wc := wB I q z_1) (q0 := 0) (ci := 0) hN hP hK hD [0, 1, 2, 3, 4, 5, 6, 7, 8] rfl rfl rfl rfl) rfl rfl hl.1 rfl (lv_room (Nat.le_of_ble_eq_true rfl)) dX0_goOneMinute_9 ⟨Nat.le_of_ble_eq_true rfl, Nat.le_of_ble_eq_true rfl⟩) rfl rfl rfl (by decide) rfl rfl (fun H locs hP hD hS => ?_)
  generalize hz_2 : s_X0_goOnPassing z_1 = z_2 at hP hD
  have hg_2 : g2_X0_goOneMinute b = z_2 := by rw [← hz_2, ← hg_1]; rfl
  refine lv_aload_n hx hb dX0_goOneMinute_12 rfl (lv_at hl 0 rfl) ?_
  refine lv_dup hx hb dX0_goOneMinute_13 rfl ?_
  refine va_get (D := D) (ci := 0) (v := .int (z_2.1 5)) (C := RX0) (T := TX0) (N := 11) hx hb hts hinX0 hown hK hP 0 rfl rfl 5 (by decide) w_1 (fun _ h9 => h9) rfl dX0_goOneMinute_14 ?_
  refine lv_aload_n hx hb dX0_goOneMinute_17 rfl (lv_at hl 0 rfl) ?_
  refine va_get (D := D) (ci := 0) (v := .ref (q 2)) (C := RX0) (T := TX0) (N := 11) hx hb hts hinX0 hown hK hP 0 rfl rfl 7 (by decide) w_2 (fun _ h9 => h9) rfl dX0_goOneMinute_18 ?_
  refine va_get (D := D) (ci := 1) (v := .int (z_2.2.2.1 2)) (C := RX1) (T := TX1) (N := 12) hx hb hts hinX1 hown hK hP 2 rfl rfl 2 (by decide) w_3 (fun _ h9 => h9) rfl dX0_goOneMinute_21 ?_
  refine lv_aload_n hx hb dX0_goOneMinute_24 rfl (lv_at hl 0 rfl) ?_
  refine va_get (D := D) (ci := 0) (v := .ref (q 2)) (C := RX0) (T := TX0) (N := 11) hx hb hts hinX0 hown hK hP 0 rfl rfl 7 (by decide) w_2 (fun _ h9 => h9) rfl dX0_goOneMinute_25 ?_
  refine va_get (D := D) (ci := 1) (v := .int (z_2.2.2.1 3)) (C := RX1) (T := TX1) (N := 12) hx hb hts hinX1 hown hK hP 2 rfl rfl 3 (by decide) w_4 (fun _ h9 => h9) rfl dX0_goOneMinute_28 ?_
  refine lv_iadd hx hb dX0_goOneMinute_31 ?_
  refine lv_iadd hx hb dX0_goOneMinute_32 ?_
  refine va_put (D := D) (ci := 0) (v := .int ((z_2.1 5) + ((z_2.2.2.1 2) + (z_2.2.2.1 3)))) (ty := tyX0 5) (C := RX0) (T := TX0) (N := 11) hx hb hts hinX0 tyX0 tyX0_ok nmX0 hown hK hP hD hS 0 rfl rfl 5 (by decide) w_1 (fun _ h9 => h9) rfl (tyX0_ok 5 (by decide)) rfl rfl (Nat.le_of_ble_eq_true rfl) dX0_goOneMinute_33 (fun H locs hP hD hS => ?_)
  have hP : va_P D vwCl (wB I q (xs z_2.1 5 ((z_2.1 5) + ((z_2.2.2.1 2) + (z_2.2.2.1 3))), z_2.2)) H := hP
  have hD : va_D A (wB I q (xs z_2.1 5 ((z_2.1 5) + ((z_2.2.2.1 2) + (z_2.2.2.1 3))), z_2.2)) := hD
  refine lv_aload_n hx hb dX0_goOneMinute_36 rfl (lv_at hl 0 rfl) ?_
  refine xk_callv ([]) (wB I q (s_X0_freeze (xs z_2.1 5 ((z_2.1 5) + ((z_2.2.2.1 2) + (z_2.2.2.1 3))), z_2.2))) [0, 1, 2, 3, 4, 5, 6, 7, 8] [] [0, 1, 2, 3, 4, 5, 6, 7, 8] hP hD hS hA (va_runV (As := []) (rest := []) ⟨hx, hb, hml, hown, hts⟩ (c_X0_freeze l D I q H.size (xs z_2.1 5 ((z_2.1 5) + ((z_2.2.2.1 2) + (z_2.2.2.1 3))), z_2.2) (fm_in (x := (z_2.1 0)) (show mOk ((z_2.1 0)) from by subst hg_2; subst hg_1; show mOk ((s_X0_goOnPassing (s_X0_serve b _)).1 0); rw [gop_m, serve_m]; exact hm))) (cwV 0 hts gX0_goOneMinute_X0_freeze rfl rfl rfl (by decide +kernel) ⟨Nat.le_of_ble_eq_true rfl, Nat.le_of_ble_eq_true rfl⟩) (xk_preV (wc := wB I q (xs z_2.1 5 ((z_2.1 5) + ((z_2.2.2.1 2) + (z_2.2.2.1 3))), z_2.2)) (q0 := 0) (ci := 0) hN hP hK hD [0, 1, 2, 3, 4, 5, 6, 7, 8] rfl rfl rfl rfl) rfl rfl hl.1 rfl (lv_room (Nat.le_of_ble_eq_true rfl)) dX0_goOneMinute_37 ⟨Nat.le_of_ble_eq_true rfl, Nat.le_of_ble_eq_true rfl⟩) rfl rfl rfl (by decide) rfl rfl (fun H locs hP hD hS => ?_)
  generalize hz_3 : s_X0_freeze (xs z_2.1 5 ((z_2.1 5) + ((z_2.2.2.1 2) + (z_2.2.2.1 3))), z_2.2) = z_3 at hP hD
  have hg_3 : g3_X0_goOneMinute b = z_3 := by rw [← hz_3, ← hg_2]; rfl
  refine lv_aload_n hx hb dX0_goOneMinute_40 rfl (lv_at hl 0 rfl) ?_
  refine lv_dup hx hb dX0_goOneMinute_41 rfl ?_
  refine va_get (D := D) (ci := 0) (v := .int (z_3.1 0)) (C := RX0) (T := TX0) (N := 11) hx hb hts hinX0 hown hK hP 0 rfl rfl 0 (by decide) w_5 (fun _ h9 => h9) rfl dX0_goOneMinute_42 ?_
  refine lv_iconst (v := (1 : Int32)) hx hb dX0_goOneMinute_45 (by decide) ?_
  refine lv_iadd hx hb dX0_goOneMinute_46 ?_
  refine va_put (D := D) (ci := 0) (v := .int ((z_3.1 0) + (1 : Int32))) (ty := tyX0 0) (C := RX0) (T := TX0) (N := 11) hx hb hts hinX0 tyX0 tyX0_ok nmX0 hown hK hP hD hS 0 rfl rfl 0 (by decide) w_5 (fun _ h9 => h9) rfl (tyX0_ok 0 (by decide)) rfl rfl (Nat.le_of_ble_eq_true rfl) dX0_goOneMinute_47 (fun H locs hP hD hS => ?_)
  have hP : va_P D vwCl (wB I q (xs z_3.1 0 ((z_3.1 0) + (1 : Int32)), z_3.2)) H := hP
  have hD : va_D A (wB I q (xs z_3.1 0 ((z_3.1 0) + (1 : Int32)), z_3.2)) := hD
  exact xk_vret (wf := fun z : XBr => wB I q z) (u := (xs z_3.1 0 ((z_3.1 0) + (1 : Int32)), z_3.2)) (u1 := (s_X0_goOneMinute b)) hx hb hr hlocks hP hK hD hS (by subst hg_3; subst hg_2; subst hg_1; unfold s_X0_goOneMinute; rfl) dX0_goOneMinute_50

theorem gom_n (b : XBr) : (s_X0_goOneMinute b).2.2.1 0 = b.2.2.1 0 := by
  unfold s_X0_goOneMinute g3_X0_goOneMinute
  dsimp only
  rw [frz_n]
  dsimp only
  unfold g2_X0_goOneMinute
  rw [gop_n]
  unfold g1_X0_goOneMinute
  rw [serve_n]
theorem gom_m (b : XBr) : (s_X0_goOneMinute b).1 0 = b.1 0 + 1 := by
  unfold s_X0_goOneMinute g3_X0_goOneMinute
  dsimp only
  rw [xs_eq, frz_m]
  dsimp only
  rw [xs_ne (by decide)]
  unfold g2_X0_goOneMinute
  rw [gop_m]
  unfold g1_X0_goOneMinute
  rw [serve_m]
/-- k minutes -/
def xit : Nat → XBr → XBr
  | 0, b => b
  | k + 1, b => xit k (s_X0_goOneMinute b)
def s_X0_goOn (b : XBr) (mi : Int32) : XBr := xit mi.toNatClampNeg b

theorem p1_m {x : Int32} (h : 0 ≤ x.toInt) (h2 : x.toInt < 2000000000) : 0 ≤ (x + 1).toInt ∧ (x + 1).toInt = x.toInt + 1 := by
  have h3 : (1 : Int32).toInt = 1 := by decide
  rw [toInt_addS (by omega) (by omega), h3]
  exact ⟨by omega, rfl⟩

set_option maxHeartbeats 800000 in
set_option maxRecDepth 100000 in
theorem c_X0_goOn (l : Launch) (D : va_G) (I : ClassId) (q : Nat → Nat) (sz : Nat) (b : XBr) (mi : Int32) (hn : nOk (b.2.2.1 0)) (hm1 : 0 ≤ (b.1 0).toInt) (hm2 : (b.1 0).toInt < 1000000000) (h1 : 0 ≤ mi.toInt) (h2 : mi.toInt ≤ 240) : xMv l D [(I, .int)] yX0_goOn wsX0_goOn { frames := 4, cells := 0, slots := 0, locals := 86 } [.ref (q 0), .int mi] sz (wB I q b) (wB I q (s_X0_goOn b mi)) 0 0 := by
  refine xk_start (cc := cX0_goOn) (maxL := 3) (ret := none) (Qf := fun A => xQv D [(I, .int)] A (wB I q (s_X0_goOn b mi))) (by decide) rfl (Nat.le_of_ble_eq_true rfl) ?_
  intro p e s m below meth c A H ls hst hAe hsz hl
  obtain ⟨hx, hb, hr, hts, hown, hlocks, hml, hin, hN, hK, hP, hD, hA, hS⟩ := hst
  have hl : lv_has ls 3 [(0, .ref (q 0)), (1, .int mi)] := hl
  have hP : va_P D vwCl (wB I q b) H := hP
  have hmi : mi = nI mi.toNatClampNeg := Int32.toInt_inj.mp (by rw [nI_toInt (by rw [clampInt]; omega), clampInt]; omega)
  have hml9 : mi.toNatClampNeg ≤ 240 := by rw [clampInt]; omega
  refine lv_iconst (v := (0 : Int32)) hx hb dX0_goOn_0 (by decide) ?_
  refine lv_istore_n (lv' := [(2, .int (0 : Int32)), (0, .ref (q 0)), (1, .int mi)]) hx hb dX0_goOn_1 rfl hl (by decide) rfl (fun ls hl => ?_)
  have loop : ∀ (r k : Nat) (b : XBr), r + k = mi.toNatClampNeg → nOk (b.2.2.1 0) → 0 ≤ (b.1 0).toInt → (b.1 0).toInt + r < 2000000000 → ∀ (H : Heap) (locs : List Loc), va_P D vwCl (wB I q b) H → va_D A (wB I q b) → va_S A s.heap H locs → ∀ ls, lv_has ls 3 [(2, .int (nI k)), (0, .ref (q 0)), (1, .int mi)] → W p l e { frames := 4, cells := 0, slots := 0, locals := 86 } s m #[.ref (q 0), .int mi] below meth c H locs 0 0 (MQ below (xQv D [(I, .int)] A (wB I q (xit r b))) #[.ref (q 0), .int mi] s 0 0 A) (F0 m 2 ls []) := by
    intro r
    induction r with
    | zero =>
      intro k b hk hn hm1 hm2 H locs hP hD hS ls hl
      refine lv_iload_n hx hb dX0_goOn_2 rfl (lv_at hl 0 rfl) ?_
      refine lv_iload_n hx hb dX0_goOn_3 rfl (lv_at hl 2 rfl) ?_
      refine lv_icmp_ge (tgt := 17) hx hb dX0_goOn_4 (by decide) (fun c_1 => ?_) (fun c_1 => ?_)
      · exact xk_vret (wf := fun z : XBr => wB I q z) (u := b) hx hb hr hlocks hP hK hD hS rfl dX0_goOn_17
      · exact absurd (by rw [hmi]; exact nI_le (by omega) (by omega)) c_1
    | succ r ih =>
      intro k b hk hn hm1 hm2 H locs hP hD hS ls hl
      refine lv_iload_n hx hb dX0_goOn_2 rfl (lv_at hl 0 rfl) ?_
      refine lv_iload_n hx hb dX0_goOn_3 rfl (lv_at hl 2 rfl) ?_
      refine lv_icmp_ge (tgt := 17) hx hb dX0_goOn_4 (by decide) (fun c_2 => ?_) (fun c_2 => ?_)
      · exact absurd c_2 (by rw [hmi]; exact nI_ge (by omega) (by omega))
      · refine lv_aload_n hx hb dX0_goOn_7 rfl (lv_at hl 1 rfl) ?_
        refine xk_callv ([]) (wB I q (s_X0_goOneMinute b)) [0, 1, 2, 3, 4, 5, 6, 7, 8] [] [0, 1, 2, 3, 4, 5, 6, 7, 8] hP hD hS hA (va_runV (As := []) (rest := []) ⟨hx, hb, hml, hown, hts⟩ (c_X0_goOneMinute l D I q H.size b hn ⟨hm1, by omega⟩) (cwV 0 hts gX0_goOn_X0_goOneMinute rfl rfl rfl (by decide +kernel) ⟨Nat.le_of_ble_eq_true rfl, Nat.le_of_ble_eq_true rfl⟩) (xk_preV (wc := wB I q b) (q0 := 0) (ci := 0) hN hP hK hD [0, 1, 2, 3, 4, 5, 6, 7, 8] rfl rfl rfl rfl) rfl rfl hl.1 rfl (lv_room (Nat.le_of_ble_eq_true rfl)) dX0_goOn_8 ⟨Nat.le_of_ble_eq_true rfl, Nat.le_of_ble_eq_true rfl⟩) rfl rfl rfl (by decide) rfl rfl (fun H locs hP hD hS => ?_)
        generalize hz_1 : s_X0_goOneMinute b = z_1 at hP hD
        refine lv_iinc (v := (nI (k + 1))) (lv' := [(2, .int (nI (k + 1))), (0, .ref (q 0)), (1, .int mi)]) hx hb dX0_goOn_11 hl (k := 0) rfl (nI_succ k).symm (by decide) rfl (fun ls hl => ?_)
        refine lv_goto (tgt := 2) hx hb dX0_goOn_14 (by decide) ?_
        subst hz_1
        exact ih (k + 1) (s_X0_goOneMinute b) (by omega) (by rw [gom_n]; exact hn) (by rw [gom_m]; exact (p1_m hm1 (by omega)).1) (by rw [gom_m]; exact (p1_m hm1 (by omega)).2 ▸ (by omega)) _ _ hP hD hS ls hl
  exact loop _ 0 b (by omega) hn hm1 (by omega) _ _ hP hD hS ls hl

def r_X0_total (b : XBr) (wh : Int32) : Int32 :=
  if wh = (0 : Int32) then
    (b.1 0)
  else
    if wh = (1 : Int32) then
      (b.1 1)
    else
      if wh = (2 : Int32) then
        (b.1 2)
      else
        if wh = (3 : Int32) then
          (b.1 3)
        else
          if wh = (4 : Int32) then
            (b.1 4)
          else
            if wh = (5 : Int32) then
              (b.2.2.1 0)
            else
              if wh = (6 : Int32) then
                (b.2.2.1 2)
              else
                if wh = (7 : Int32) then
                  (b.2.2.1 3)
                else
                  if wh = (8 : Int32) then
                    (b.2.2.1 1)
                  else
                    if wh = (9 : Int32) then
                      (b.1 5)
                    else
                      if wh = (10 : Int32) then
                        (b.1 6)
                      else
                        (r_X0_servedNext b)
set_option maxHeartbeats 800000 in
set_option maxRecDepth 100000 in
theorem c_X0_total (l : Launch) (D : va_G) (I : ClassId) (q : Nat → Nat) (sz : Nat) (b : XBr) (wh : Int32)  : xMi l D [(I, .int)] yX0_total wsX0_total { frames := 3, cells := 0, slots := 0, locals := 53 } [.ref (q 0), .int wh] sz (wB I q b) (r_X0_total b wh) (wB I q b) 0 0 := by
  refine xk_start (cc := cX0_total) (maxL := 2) (ret := (some .int)) (Qf := fun A => xQi D [(I, .int)] A (r_X0_total b wh) (wB I q b)) (by decide) rfl (Nat.le_of_ble_eq_true rfl) ?_
  intro p e s m below meth c A H ls hst hAe hsz hl
  obtain ⟨hx, hb, hr, hts, hown, hlocks, hml, hin, hN, hK, hP, hD, hA, hS⟩ := hst
  have hl : lv_has ls 2 [(0, .ref (q 0)), (1, .int wh)] := hl
  have hP : va_P D vwCl (wB I q b) H := hP
  have hinX0 : ∀ w ∈ u_ws RX0 TX0 11, w ∈ wsX0_total := by decide +kernel
  have hinX1 : ∀ w ∈ u_ws RX1 TX1 12, w ∈ wsX0_total := by decide +kernel
  have w_1 := hts (.fieldLink RX0 9 "BridgeBells$Bridge" "minute" "I") (by decide +kernel)
  have w_2 := hts (.fieldLink RX0 15 "BridgeBells$Bridge" "angle" "I") (by decide +kernel)
  have w_3 := hts (.fieldLink RX0 18 "BridgeBells$Bridge" "counterpoise" "I") (by decide +kernel)
  have w_4 := hts (.fieldLink RX0 21 "BridgeBells$Bridge" "ice" "I") (by decide +kernel)
  have w_5 := hts (.fieldLink RX0 24 "BridgeBells$Bridge" "code" "I") (by decide +kernel)
  have w_6 := hts (.fieldLink RX0 37 "BridgeBells$Bridge" "travellers" "LBridgeBells$Travellers;") (by decide +kernel)
  have w_7 := hts (.fieldLink RX0 127 "BridgeBells$Travellers" "number" "I") (by decide +kernel)
  have w_8 := hts (.fieldLink RX0 75 "BridgeBells$Travellers" "bargesWaiting" "I") (by decide +kernel)
  have w_9 := hts (.fieldLink RX0 78 "BridgeBells$Travellers" "cartsWaiting" "I") (by decide +kernel)
  have w_10 := hts (.fieldLink RX0 130 "BridgeBells$Travellers" "passed" "I") (by decide +kernel)
  have w_11 := hts (.fieldLink RX0 27 "BridgeBells$Bridge" "waitedInAll" "I") (by decide +kernel)
  have w_12 := hts (.fieldLink RX0 41 "BridgeBells$Bridge" "passing" "I") (by decide +kernel)
  refine lv_iload_n hx hb dX0_total_0 rfl (lv_at hl 1 rfl) ?_
  by_cases c_1 : wh = (0 : Int32)
  · refine lv_tableIn (off := 59) (tgt := 60) hx hb dX0_total_1 (by rw [c_1]; decide) (by rw [c_1]; decide) (by rw [c_1]; rfl) (by decide) ?_
    refine lv_aload_n hx hb dX0_total_60 rfl (lv_at hl 0 rfl) ?_
    refine va_get (D := D) (ci := 0) (v := .int (b.1 0)) (C := RX0) (T := TX0) (N := 11) hx hb hts hinX0 hown hK hP 0 rfl rfl 0 (by decide) w_1 (fun _ h9 => h9) rfl dX0_total_61 ?_
    exact xk_iret (wf := fun z : XBr => wB I q z) (u := b) (u1 := b) hx hb hr rfl hlocks hP hK hD hS (by unfold r_X0_total; rw [if_pos c_1]) rfl dX0_total_64
  by_cases c_2 : wh = (1 : Int32)
  · refine lv_tableIn (off := 64) (tgt := 65) hx hb dX0_total_1 (by rw [c_2]; decide) (by rw [c_2]; decide) (by rw [c_2]; rfl) (by decide) ?_
    refine lv_aload_n hx hb dX0_total_65 rfl (lv_at hl 0 rfl) ?_
    refine va_get (D := D) (ci := 0) (v := .int (b.1 1)) (C := RX0) (T := TX0) (N := 11) hx hb hts hinX0 hown hK hP 0 rfl rfl 1 (by decide) w_2 (fun _ h9 => h9) rfl dX0_total_66 ?_
    exact xk_iret (wf := fun z : XBr => wB I q z) (u := b) (u1 := b) hx hb hr rfl hlocks hP hK hD hS (by unfold r_X0_total; rw [if_neg c_1, if_pos c_2]) rfl dX0_total_69
  by_cases c_3 : wh = (2 : Int32)
  · refine lv_tableIn (off := 69) (tgt := 70) hx hb dX0_total_1 (by rw [c_3]; decide) (by rw [c_3]; decide) (by rw [c_3]; rfl) (by decide) ?_
    refine lv_aload_n hx hb dX0_total_70 rfl (lv_at hl 0 rfl) ?_
    refine va_get (D := D) (ci := 0) (v := .int (b.1 2)) (C := RX0) (T := TX0) (N := 11) hx hb hts hinX0 hown hK hP 0 rfl rfl 2 (by decide) w_3 (fun _ h9 => h9) rfl dX0_total_71 ?_
    exact xk_iret (wf := fun z : XBr => wB I q z) (u := b) (u1 := b) hx hb hr rfl hlocks hP hK hD hS (by unfold r_X0_total; rw [if_neg c_1, if_neg c_2, if_pos c_3]) rfl dX0_total_74
  by_cases c_4 : wh = (3 : Int32)
  · refine lv_tableIn (off := 74) (tgt := 75) hx hb dX0_total_1 (by rw [c_4]; decide) (by rw [c_4]; decide) (by rw [c_4]; rfl) (by decide) ?_
    refine lv_aload_n hx hb dX0_total_75 rfl (lv_at hl 0 rfl) ?_
    refine va_get (D := D) (ci := 0) (v := .int (b.1 3)) (C := RX0) (T := TX0) (N := 11) hx hb hts hinX0 hown hK hP 0 rfl rfl 3 (by decide) w_4 (fun _ h9 => h9) rfl dX0_total_76 ?_
    exact xk_iret (wf := fun z : XBr => wB I q z) (u := b) (u1 := b) hx hb hr rfl hlocks hP hK hD hS (by unfold r_X0_total; rw [if_neg c_1, if_neg c_2, if_neg c_3, if_pos c_4]) rfl dX0_total_79
  by_cases c_5 : wh = (4 : Int32)
  · refine lv_tableIn (off := 79) (tgt := 80) hx hb dX0_total_1 (by rw [c_5]; decide) (by rw [c_5]; decide) (by rw [c_5]; rfl) (by decide) ?_
    refine lv_aload_n hx hb dX0_total_80 rfl (lv_at hl 0 rfl) ?_
    refine va_get (D := D) (ci := 0) (v := .int (b.1 4)) (C := RX0) (T := TX0) (N := 11) hx hb hts hinX0 hown hK hP 0 rfl rfl 4 (by decide) w_5 (fun _ h9 => h9) rfl dX0_total_81 ?_
    exact xk_iret (wf := fun z : XBr => wB I q z) (u := b) (u1 := b) hx hb hr rfl hlocks hP hK hD hS (by unfold r_X0_total; rw [if_neg c_1, if_neg c_2, if_neg c_3, if_neg c_4, if_pos c_5]) rfl dX0_total_84
  by_cases c_6 : wh = (5 : Int32)
  · refine lv_tableIn (off := 84) (tgt := 85) hx hb dX0_total_1 (by rw [c_6]; decide) (by rw [c_6]; decide) (by rw [c_6]; rfl) (by decide) ?_
    refine lv_aload_n hx hb dX0_total_85 rfl (lv_at hl 0 rfl) ?_
    refine va_get (D := D) (ci := 0) (v := .ref (q 2)) (C := RX0) (T := TX0) (N := 11) hx hb hts hinX0 hown hK hP 0 rfl rfl 7 (by decide) w_6 (fun _ h9 => h9) rfl dX0_total_86 ?_
    refine va_get (D := D) (ci := 1) (v := .int (b.2.2.1 0)) (C := RX1) (T := TX1) (N := 12) hx hb hts hinX1 hown hK hP 2 rfl rfl 0 (by decide) w_7 (fun _ h9 => h9) rfl dX0_total_89 ?_
    exact xk_iret (wf := fun z : XBr => wB I q z) (u := b) (u1 := b) hx hb hr rfl hlocks hP hK hD hS (by unfold r_X0_total; rw [if_neg c_1, if_neg c_2, if_neg c_3, if_neg c_4, if_neg c_5, if_pos c_6]) rfl dX0_total_92
  by_cases c_7 : wh = (6 : Int32)
  · refine lv_tableIn (off := 92) (tgt := 93) hx hb dX0_total_1 (by rw [c_7]; decide) (by rw [c_7]; decide) (by rw [c_7]; rfl) (by decide) ?_
    refine lv_aload_n hx hb dX0_total_93 rfl (lv_at hl 0 rfl) ?_
    refine va_get (D := D) (ci := 0) (v := .ref (q 2)) (C := RX0) (T := TX0) (N := 11) hx hb hts hinX0 hown hK hP 0 rfl rfl 7 (by decide) w_6 (fun _ h9 => h9) rfl dX0_total_94 ?_
    refine va_get (D := D) (ci := 1) (v := .int (b.2.2.1 2)) (C := RX1) (T := TX1) (N := 12) hx hb hts hinX1 hown hK hP 2 rfl rfl 2 (by decide) w_8 (fun _ h9 => h9) rfl dX0_total_97 ?_
    exact xk_iret (wf := fun z : XBr => wB I q z) (u := b) (u1 := b) hx hb hr rfl hlocks hP hK hD hS (by unfold r_X0_total; rw [if_neg c_1, if_neg c_2, if_neg c_3, if_neg c_4, if_neg c_5, if_neg c_6, if_pos c_7]) rfl dX0_total_100
  by_cases c_8 : wh = (7 : Int32)
  · refine lv_tableIn (off := 100) (tgt := 101) hx hb dX0_total_1 (by rw [c_8]; decide) (by rw [c_8]; decide) (by rw [c_8]; rfl) (by decide) ?_
    refine lv_aload_n hx hb dX0_total_101 rfl (lv_at hl 0 rfl) ?_
    refine va_get (D := D) (ci := 0) (v := .ref (q 2)) (C := RX0) (T := TX0) (N := 11) hx hb hts hinX0 hown hK hP 0 rfl rfl 7 (by decide) w_6 (fun _ h9 => h9) rfl dX0_total_102 ?_
    refine va_get (D := D) (ci := 1) (v := .int (b.2.2.1 3)) (C := RX1) (T := TX1) (N := 12) hx hb hts hinX1 hown hK hP 2 rfl rfl 3 (by decide) w_9 (fun _ h9 => h9) rfl dX0_total_105 ?_
    exact xk_iret (wf := fun z : XBr => wB I q z) (u := b) (u1 := b) hx hb hr rfl hlocks hP hK hD hS (by unfold r_X0_total; rw [if_neg c_1, if_neg c_2, if_neg c_3, if_neg c_4, if_neg c_5, if_neg c_6, if_neg c_7, if_pos c_8]) rfl dX0_total_108
  by_cases c_9 : wh = (8 : Int32)
  · refine lv_tableIn (off := 108) (tgt := 109) hx hb dX0_total_1 (by rw [c_9]; decide) (by rw [c_9]; decide) (by rw [c_9]; rfl) (by decide) ?_
    refine lv_aload_n hx hb dX0_total_109 rfl (lv_at hl 0 rfl) ?_
    refine va_get (D := D) (ci := 0) (v := .ref (q 2)) (C := RX0) (T := TX0) (N := 11) hx hb hts hinX0 hown hK hP 0 rfl rfl 7 (by decide) w_6 (fun _ h9 => h9) rfl dX0_total_110 ?_
    refine va_get (D := D) (ci := 1) (v := .int (b.2.2.1 1)) (C := RX1) (T := TX1) (N := 12) hx hb hts hinX1 hown hK hP 2 rfl rfl 1 (by decide) w_10 (fun _ h9 => h9) rfl dX0_total_113 ?_
    exact xk_iret (wf := fun z : XBr => wB I q z) (u := b) (u1 := b) hx hb hr rfl hlocks hP hK hD hS (by unfold r_X0_total; rw [if_neg c_1, if_neg c_2, if_neg c_3, if_neg c_4, if_neg c_5, if_neg c_6, if_neg c_7, if_neg c_8, if_pos c_9]) rfl dX0_total_116
  by_cases c_10 : wh = (9 : Int32)
  · refine lv_tableIn (off := 116) (tgt := 117) hx hb dX0_total_1 (by rw [c_10]; decide) (by rw [c_10]; decide) (by rw [c_10]; rfl) (by decide) ?_
    refine lv_aload_n hx hb dX0_total_117 rfl (lv_at hl 0 rfl) ?_
    refine va_get (D := D) (ci := 0) (v := .int (b.1 5)) (C := RX0) (T := TX0) (N := 11) hx hb hts hinX0 hown hK hP 0 rfl rfl 5 (by decide) w_11 (fun _ h9 => h9) rfl dX0_total_118 ?_
    exact xk_iret (wf := fun z : XBr => wB I q z) (u := b) (u1 := b) hx hb hr rfl hlocks hP hK hD hS (by unfold r_X0_total; rw [if_neg c_1, if_neg c_2, if_neg c_3, if_neg c_4, if_neg c_5, if_neg c_6, if_neg c_7, if_neg c_8, if_neg c_9, if_pos c_10]) rfl dX0_total_121
  by_cases c_11 : wh = (10 : Int32)
  · refine lv_tableIn (off := 121) (tgt := 122) hx hb dX0_total_1 (by rw [c_11]; decide) (by rw [c_11]; decide) (by rw [c_11]; rfl) (by decide) ?_
    refine lv_aload_n hx hb dX0_total_122 rfl (lv_at hl 0 rfl) ?_
    refine va_get (D := D) (ci := 0) (v := .int (b.1 6)) (C := RX0) (T := TX0) (N := 11) hx hb hts hinX0 hown hK hP 0 rfl rfl 8 (by decide) w_12 (fun _ h9 => h9) rfl dX0_total_123 ?_
    exact xk_iret (wf := fun z : XBr => wB I q z) (u := b) (u1 := b) hx hb hr rfl hlocks hP hK hD hS (by unfold r_X0_total; rw [if_neg c_1, if_neg c_2, if_neg c_3, if_neg c_4, if_neg c_5, if_neg c_6, if_neg c_7, if_neg c_8, if_neg c_9, if_neg c_10, if_pos c_11]) rfl dX0_total_126
  have t_c_1 : wh.toInt < 0 ∨ 10 < wh.toInt := by
    have g_c_1 := lv_neT c_1 (a := 0) (by decide)
    have g_c_2 := lv_neT c_2 (a := 1) (by decide)
    have g_c_3 := lv_neT c_3 (a := 2) (by decide)
    have g_c_4 := lv_neT c_4 (a := 3) (by decide)
    have g_c_5 := lv_neT c_5 (a := 4) (by decide)
    have g_c_6 := lv_neT c_6 (a := 5) (by decide)
    have g_c_7 := lv_neT c_7 (a := 6) (by decide)
    have g_c_8 := lv_neT c_8 (a := 7) (by decide)
    have g_c_9 := lv_neT c_9 (a := 8) (by decide)
    have g_c_10 := lv_neT c_10 (a := 9) (by decide)
    have g_c_11 := lv_neT c_11 (a := 10) (by decide)
    omega
  refine lv_tableOut (tgt := 127) hx hb dX0_total_1 t_c_1 (by decide) ?_
  refine lv_aload_n hx hb dX0_total_127 rfl (lv_at hl 0 rfl) ?_
  refine xk_calli ([]) (wB I q b) [0, 1, 2, 3, 4, 5, 6, 7, 8] [] [0, 1, 2, 3, 4, 5, 6, 7, 8] hP hD hS hA (va_runV (As := []) (rest := []) ⟨hx, hb, hml, hown, hts⟩ (c_X0_servedNext l D I q H.size b ) (cwV 0 hts gX0_total_X0_servedNext rfl rfl rfl (by decide +kernel) ⟨Nat.le_of_ble_eq_true rfl, Nat.le_of_ble_eq_true rfl⟩) (xk_preV (wc := wB I q b) (q0 := 0) (ci := 0) hN hP hK hD [0, 1, 2, 3, 4, 5, 6, 7, 8] rfl rfl rfl rfl) rfl rfl hl.1 rfl (lv_room (Nat.le_of_ble_eq_true rfl)) dX0_total_128 ⟨Nat.le_of_ble_eq_true rfl, Nat.le_of_ble_eq_true rfl⟩) rfl rfl rfl (by decide) rfl rfl (fun H locs hP hD hS => ?_)
  exact xk_iret (wf := fun z : XBr => wB I q z) (u := b) (u1 := b) hx hb hr rfl hlocks hP hK hD hS (by unfold r_X0_total; rw [if_neg c_1, if_neg c_2, if_neg c_3, if_neg c_4, if_neg c_5, if_neg c_6, if_neg c_7, if_neg c_8, if_neg c_9, if_neg c_10, if_neg c_11]) rfl dX0_total_131

def r_X0_factOf (b : XBr) (k : Int32) (wh : Int32) : Int32 :=
  if wh = (0 : Int32) then
    ((b.2.2.2 0) k.toNatClampNeg)
  else
    if wh = (1 : Int32) then
      ((b.2.2.2 1) k.toNatClampNeg)
    else
      if wh = (2 : Int32) then
        ((b.2.2.2 2) k.toNatClampNeg)
      else
        if wh = (3 : Int32) then
          ((b.2.2.2 3) k.toNatClampNeg)
        else
          if wh = (4 : Int32) then
            (r_X1_waited b.2.2 k (b.1 0))
          else
            if wh = (5 : Int32) then
              if k = (b.1 6) then
                (b.1 7)
              else
                (0 : Int32)
            else
              ((b.2.2.2 4) k.toNatClampNeg)
set_option maxHeartbeats 800000 in
set_option maxRecDepth 100000 in
theorem c_X0_factOf (l : Launch) (D : va_G) (I : ClassId) (q : Nat → Nat) (sz : Nat) (b : XBr) (k : Int32) (wh : Int32) (hk : vp_in k 40) : xMi l D [(I, .int)] yX0_factOf wsX0_factOf { frames := 1, cells := 0, slots := 0, locals := 23 } [.ref (q 0), .int k, .int wh] sz (wB I q b) (r_X0_factOf b k wh) (wB I q b) 0 0 := by
  refine xk_start (cc := cX0_factOf) (maxL := 3) (ret := (some .int)) (Qf := fun A => xQi D [(I, .int)] A (r_X0_factOf b k wh) (wB I q b)) (by decide) rfl (Nat.le_of_ble_eq_true rfl) ?_
  intro p e s m below meth c A H ls hst hAe hsz hl
  obtain ⟨hx, hb, hr, hts, hown, hlocks, hml, hin, hN, hK, hP, hD, hA, hS⟩ := hst
  have hl : lv_has ls 3 [(0, .ref (q 0)), (1, .int k), (2, .int wh)] := hl
  have hP : va_P D vwCl (wB I q b) H := hP
  have hinX0 : ∀ w ∈ u_ws RX0 TX0 11, w ∈ wsX0_factOf := by decide +kernel
  have hinX1 : ∀ w ∈ u_ws RX1 TX1 12, w ∈ wsX0_factOf := by decide +kernel
  have w_1 := hts (.fieldLink RX0 37 "BridgeBells$Bridge" "travellers" "LBridgeBells$Travellers;") (by decide +kernel)
  have w_2 := hts (.fieldLink RX0 103 "BridgeBells$Travellers" "barge" "[I") (by decide +kernel)
  have w_3 := hts (.fieldLink RX0 106 "BridgeBells$Travellers" "needs" "[I") (by decide +kernel)
  have w_4 := hts (.fieldLink RX0 133 "BridgeBells$Travellers" "state" "[I") (by decide +kernel)
  have w_5 := hts (.fieldLink RX0 136 "BridgeBells$Travellers" "came" "[I") (by decide +kernel)
  have w_6 := hts (.fieldLink RX0 9 "BridgeBells$Bridge" "minute" "I") (by decide +kernel)
  have w_7 := hts (.fieldLink RX0 41 "BridgeBells$Bridge" "passing" "I") (by decide +kernel)
  have w_8 := hts (.fieldLink RX0 44 "BridgeBells$Bridge" "toGo" "I") (by decide +kernel)
  have w_9 := hts (.fieldLink RX0 142 "BridgeBells$Travellers" "passedIn" "[I") (by decide +kernel)
  refine lv_iload_n hx hb dX0_factOf_0 rfl (lv_at hl 2 rfl) ?_
  by_cases c_1 : wh = (0 : Int32)
  · refine lv_tableIn (off := 39) (tgt := 40) hx hb dX0_factOf_1 (by rw [c_1]; decide) (by rw [c_1]; decide) (by rw [c_1]; rfl) (by decide) ?_
    refine lv_aload_n hx hb dX0_factOf_40 rfl (lv_at hl 0 rfl) ?_
    refine va_get (D := D) (ci := 0) (v := .ref (q 2)) (C := RX0) (T := TX0) (N := 11) hx hb hts hinX0 hown hK hP 0 rfl rfl 7 (by decide) w_1 (fun _ h9 => h9) rfl dX0_factOf_41 ?_
    refine va_get (D := D) (ci := 1) (v := .ref (q 3)) (C := RX1) (T := TX1) (N := 12) hx hb hts hinX1 hown hK hP 2 rfl rfl 4 (by decide) w_2 (fun _ h9 => h9) rfl dX0_factOf_44 ?_
    refine lv_iload_n hx hb dX0_factOf_47 rfl (lv_at hl 1 rfl) ?_
    refine va_iald (f := (b.2.2.2 0)) hx hb hK hP 3 0 rfl rfl (show vp_in k 40 from hk) dX0_factOf_48 ?_
    exact xk_iret (wf := fun z : XBr => wB I q z) (u := b) (u1 := b) hx hb hr rfl hlocks hP hK hD hS (by unfold r_X0_factOf; rw [if_pos c_1]) rfl dX0_factOf_49
  by_cases c_2 : wh = (1 : Int32)
  · refine lv_tableIn (off := 49) (tgt := 50) hx hb dX0_factOf_1 (by rw [c_2]; decide) (by rw [c_2]; decide) (by rw [c_2]; rfl) (by decide) ?_
    refine lv_aload_n hx hb dX0_factOf_50 rfl (lv_at hl 0 rfl) ?_
    refine va_get (D := D) (ci := 0) (v := .ref (q 2)) (C := RX0) (T := TX0) (N := 11) hx hb hts hinX0 hown hK hP 0 rfl rfl 7 (by decide) w_1 (fun _ h9 => h9) rfl dX0_factOf_51 ?_
    refine va_get (D := D) (ci := 1) (v := .ref (q 4)) (C := RX1) (T := TX1) (N := 12) hx hb hts hinX1 hown hK hP 2 rfl rfl 5 (by decide) w_3 (fun _ h9 => h9) rfl dX0_factOf_54 ?_
    refine lv_iload_n hx hb dX0_factOf_57 rfl (lv_at hl 1 rfl) ?_
    refine va_iald (f := (b.2.2.2 1)) hx hb hK hP 4 0 rfl rfl (show vp_in k 40 from hk) dX0_factOf_58 ?_
    exact xk_iret (wf := fun z : XBr => wB I q z) (u := b) (u1 := b) hx hb hr rfl hlocks hP hK hD hS (by unfold r_X0_factOf; rw [if_neg c_1, if_pos c_2]) rfl dX0_factOf_59
  by_cases c_3 : wh = (2 : Int32)
  · refine lv_tableIn (off := 59) (tgt := 60) hx hb dX0_factOf_1 (by rw [c_3]; decide) (by rw [c_3]; decide) (by rw [c_3]; rfl) (by decide) ?_
    refine lv_aload_n hx hb dX0_factOf_60 rfl (lv_at hl 0 rfl) ?_
    refine va_get (D := D) (ci := 0) (v := .ref (q 2)) (C := RX0) (T := TX0) (N := 11) hx hb hts hinX0 hown hK hP 0 rfl rfl 7 (by decide) w_1 (fun _ h9 => h9) rfl dX0_factOf_61 ?_
    refine va_get (D := D) (ci := 1) (v := .ref (q 5)) (C := RX1) (T := TX1) (N := 12) hx hb hts hinX1 hown hK hP 2 rfl rfl 6 (by decide) w_4 (fun _ h9 => h9) rfl dX0_factOf_64 ?_
    refine lv_iload_n hx hb dX0_factOf_67 rfl (lv_at hl 1 rfl) ?_
    refine va_iald (f := (b.2.2.2 2)) hx hb hK hP 5 0 rfl rfl (show vp_in k 40 from hk) dX0_factOf_68 ?_
    exact xk_iret (wf := fun z : XBr => wB I q z) (u := b) (u1 := b) hx hb hr rfl hlocks hP hK hD hS (by unfold r_X0_factOf; rw [if_neg c_1, if_neg c_2, if_pos c_3]) rfl dX0_factOf_69
  by_cases c_4 : wh = (3 : Int32)
  · refine lv_tableIn (off := 69) (tgt := 70) hx hb dX0_factOf_1 (by rw [c_4]; decide) (by rw [c_4]; decide) (by rw [c_4]; rfl) (by decide) ?_
    refine lv_aload_n hx hb dX0_factOf_70 rfl (lv_at hl 0 rfl) ?_
    refine va_get (D := D) (ci := 0) (v := .ref (q 2)) (C := RX0) (T := TX0) (N := 11) hx hb hts hinX0 hown hK hP 0 rfl rfl 7 (by decide) w_1 (fun _ h9 => h9) rfl dX0_factOf_71 ?_
    refine va_get (D := D) (ci := 1) (v := .ref (q 6)) (C := RX1) (T := TX1) (N := 12) hx hb hts hinX1 hown hK hP 2 rfl rfl 7 (by decide) w_5 (fun _ h9 => h9) rfl dX0_factOf_74 ?_
    refine lv_iload_n hx hb dX0_factOf_77 rfl (lv_at hl 1 rfl) ?_
    refine va_iald (f := (b.2.2.2 3)) hx hb hK hP 6 0 rfl rfl (show vp_in k 40 from hk) dX0_factOf_78 ?_
    exact xk_iret (wf := fun z : XBr => wB I q z) (u := b) (u1 := b) hx hb hr rfl hlocks hP hK hD hS (by unfold r_X0_factOf; rw [if_neg c_1, if_neg c_2, if_neg c_3, if_pos c_4]) rfl dX0_factOf_79
  by_cases c_5 : wh = (4 : Int32)
  · refine lv_tableIn (off := 79) (tgt := 80) hx hb dX0_factOf_1 (by rw [c_5]; decide) (by rw [c_5]; decide) (by rw [c_5]; rfl) (by decide) ?_
    refine lv_aload_n hx hb dX0_factOf_80 rfl (lv_at hl 0 rfl) ?_
    refine va_get (D := D) (ci := 0) (v := .ref (q 2)) (C := RX0) (T := TX0) (N := 11) hx hb hts hinX0 hown hK hP 0 rfl rfl 7 (by decide) w_1 (fun _ h9 => h9) rfl dX0_factOf_81 ?_
    refine lv_iload_n hx hb dX0_factOf_84 rfl (lv_at hl 1 rfl) ?_
    refine lv_aload_n hx hb dX0_factOf_85 rfl (lv_at hl 0 rfl) ?_
    refine va_get (D := D) (ci := 0) (v := .int (b.1 0)) (C := RX0) (T := TX0) (N := 11) hx hb hts hinX0 hown hK hP 0 rfl rfl 0 (by decide) w_6 (fun _ h9 => h9) rfl dX0_factOf_86 ?_
    refine xk_calli ([cXB q b.1, cA I (q 1) 8 b.2.1]) (wB I q b) [2, 3, 4, 5, 6, 7, 8] [0, 1] [0, 1, 2, 3, 4, 5, 6, 7, 8] hP hD hS hA (va_runV (As := [.int k, .int (b.1 0)]) (rest := []) ⟨hx, hb, hml, hown, hts⟩ (c_X1_waited l D I q H.size b.2.2 k (b.1 0) hk) (cwV 2 hts gX0_factOf_X1_waited rfl rfl rfl (by decide +kernel) ⟨Nat.le_of_ble_eq_true rfl, Nat.le_of_ble_eq_true rfl⟩) (xk_preV (wc := wT I q b.2.2) (q0 := 2) (ci := 1) hN hP hK hD [2, 3, 4, 5, 6, 7, 8] rfl rfl rfl rfl) rfl rfl hl.1 rfl (lv_room (Nat.le_of_ble_eq_true rfl)) dX0_factOf_89 ⟨Nat.le_of_ble_eq_true rfl, Nat.le_of_ble_eq_true rfl⟩) rfl rfl rfl (by decide) rfl rfl (fun H locs hP hD hS => ?_)
    exact xk_iret (wf := fun z : XBr => wB I q z) (u := b) (u1 := b) hx hb hr rfl hlocks hP hK hD hS (by unfold r_X0_factOf; rw [if_neg c_1, if_neg c_2, if_neg c_3, if_neg c_4, if_pos c_5]) rfl dX0_factOf_92
  by_cases c_6 : wh = (5 : Int32)
  · refine lv_tableIn (off := 92) (tgt := 93) hx hb dX0_factOf_1 (by rw [c_6]; decide) (by rw [c_6]; decide) (by rw [c_6]; rfl) (by decide) ?_
    refine lv_iload_n hx hb dX0_factOf_93 rfl (lv_at hl 1 rfl) ?_
    refine lv_aload_n hx hb dX0_factOf_94 rfl (lv_at hl 0 rfl) ?_
    refine va_get (D := D) (ci := 0) (v := .int (b.1 6)) (C := RX0) (T := TX0) (N := 11) hx hb hts hinX0 hown hK hP 0 rfl rfl 8 (by decide) w_7 (fun _ h9 => h9) rfl dX0_factOf_95 ?_
    refine lv_icmp_ne (tgt := 108) hx hb dX0_factOf_98 (by decide) (fun c_7 => ?_) (fun c_7 => ?_)
    · refine lv_iconst (v := (0 : Int32)) hx hb dX0_factOf_108 (by decide) ?_
      exact xk_iret (wf := fun z : XBr => wB I q z) (u := b) (u1 := b) hx hb hr rfl hlocks hP hK hD hS (by unfold r_X0_factOf; rw [if_neg c_1, if_neg c_2, if_neg c_3, if_neg c_4, if_neg c_5, if_pos c_6, if_neg c_7]) rfl dX0_factOf_109
    · refine lv_aload_n hx hb dX0_factOf_101 rfl (lv_at hl 0 rfl) ?_
      refine va_get (D := D) (ci := 0) (v := .int (b.1 7)) (C := RX0) (T := TX0) (N := 11) hx hb hts hinX0 hown hK hP 0 rfl rfl 9 (by decide) w_8 (fun _ h9 => h9) rfl dX0_factOf_102 ?_
      refine lv_goto (tgt := 109) hx hb dX0_factOf_105 (by decide) ?_
      exact xk_iret (wf := fun z : XBr => wB I q z) (u := b) (u1 := b) hx hb hr rfl hlocks hP hK hD hS (by unfold r_X0_factOf; rw [if_neg c_1, if_neg c_2, if_neg c_3, if_neg c_4, if_neg c_5, if_pos c_6, if_pos c_7]) rfl dX0_factOf_109
  have t_c_1 : wh.toInt < 0 ∨ 5 < wh.toInt := by
    have g_c_1 := lv_neT c_1 (a := 0) (by decide)
    have g_c_2 := lv_neT c_2 (a := 1) (by decide)
    have g_c_3 := lv_neT c_3 (a := 2) (by decide)
    have g_c_4 := lv_neT c_4 (a := 3) (by decide)
    have g_c_5 := lv_neT c_5 (a := 4) (by decide)
    have g_c_6 := lv_neT c_6 (a := 5) (by decide)
    omega
  refine lv_tableOut (tgt := 110) hx hb dX0_factOf_1 t_c_1 (by decide) ?_
  refine lv_aload_n hx hb dX0_factOf_110 rfl (lv_at hl 0 rfl) ?_
  refine va_get (D := D) (ci := 0) (v := .ref (q 2)) (C := RX0) (T := TX0) (N := 11) hx hb hts hinX0 hown hK hP 0 rfl rfl 7 (by decide) w_1 (fun _ h9 => h9) rfl dX0_factOf_111 ?_
  refine va_get (D := D) (ci := 1) (v := .ref (q 7)) (C := RX1) (T := TX1) (N := 12) hx hb hts hinX1 hown hK hP 2 rfl rfl 8 (by decide) w_9 (fun _ h9 => h9) rfl dX0_factOf_114 ?_
  refine lv_iload_n hx hb dX0_factOf_117 rfl (lv_at hl 1 rfl) ?_
  refine va_iald (f := (b.2.2.2 4)) hx hb hK hP 7 0 rfl rfl (show vp_in k 40 from hk) dX0_factOf_118 ?_
  exact xk_iret (wf := fun z : XBr => wB I q z) (u := b) (u1 := b) hx hb hr rfl hlocks hP hK hD hS (by unfold r_X0_factOf; rw [if_neg c_1, if_neg c_2, if_neg c_3, if_neg c_4, if_neg c_5, if_neg c_6]) rfl dX0_factOf_119

theorem nz01 {x : Int32} (h : x = 0 ∨ x = 1) : narrow .boolean (.int x) = .int x := by
  rcases h with rfl | rfl <;> rfl
theorem fz01 {x : Int32} (h : x = 0 ∨ x = 1) : fits .boolean (.int x) = true := by
  rcases h with rfl | rfl <;> rfl

set_option maxHeartbeats 800000 in
set_option maxRecDepth 100000 in
theorem c_X0_copyFrom (l : Launch) (D : va_G) (I : ClassId) (q r : Nat → Nat) (sz : Nat) (b : XBr) (o : XBr) (hz : o.1 8 = 0 ∨ o.1 8 = 1) : xMv l D [(I, .int)] yX0_copyFrom wsX0_copyFrom { frames := 2, cells := 0, slots := 0, locals := 39 } [.ref (q 0), .ref (r 0)] sz (wB I q b ++ wB I r o) (wB I q o ++ wB I r o) 0 0 := by
  refine xk_start (cc := cX0_copyFrom) (maxL := 2) (ret := none) (Qf := fun A => xQv D [(I, .int)] A (wB I q o ++ wB I r o)) (by decide) rfl (Nat.le_of_ble_eq_true rfl) ?_
  intro p e s m below meth c A H ls hst hAe hsz hl
  obtain ⟨hx, hb, hr, hts, hown, hlocks, hml, hin, hN, hK, hP, hD, hA, hS⟩ := hst
  have hl : lv_has ls 2 [(0, .ref (q 0)), (1, .ref (r 0))] := hl
  have hP : va_P D vwCl (wB I q b ++ wB I r o) H := hP
  have hinX0 : ∀ w ∈ u_ws RX0 TX0 11, w ∈ wsX0_copyFrom := by decide +kernel
  have w_1 := hts (.fieldLink RX0 9 "BridgeBells$Bridge" "minute" "I") (by decide +kernel)
  have w_2 := hts (.fieldLink RX0 15 "BridgeBells$Bridge" "angle" "I") (by decide +kernel)
  have w_3 := hts (.fieldLink RX0 18 "BridgeBells$Bridge" "counterpoise" "I") (by decide +kernel)
  have w_4 := hts (.fieldLink RX0 21 "BridgeBells$Bridge" "ice" "I") (by decide +kernel)
  have w_5 := hts (.fieldLink RX0 24 "BridgeBells$Bridge" "code" "I") (by decide +kernel)
  have w_6 := hts (.fieldLink RX0 27 "BridgeBells$Bridge" "waitedInAll" "I") (by decide +kernel)
  have w_7 := hts (.fieldLink RX0 30 "BridgeBells$Bridge" "cold" "[I") (by decide +kernel)
  have w_8 := hts (.methodLink RX0 51 arraycopyName) (by decide +kernel)
  have w_9 := hts (.native arraycopyName) (by decide +kernel)
  have w_10 := hts (.static arraycopyName) (by decide +kernel)
  have w_11 := hts (.initialized "java/lang/System") (by decide +kernel)
  have w_12 := hts (.fieldLink RX0 37 "BridgeBells$Bridge" "travellers" "LBridgeBells$Travellers;") (by decide +kernel)
  have w_13 := hts (.fieldLink RX0 41 "BridgeBells$Bridge" "passing" "I") (by decide +kernel)
  have w_14 := hts (.fieldLink RX0 44 "BridgeBells$Bridge" "toGo" "I") (by decide +kernel)
  have w_15 := hts (.fieldLink RX0 47 "BridgeBells$Bridge" "latestWasBarge" "Z") (by decide +kernel)
  refine lv_aload_n hx hb dX0_copyFrom_0 rfl (lv_at hl 0 rfl) ?_
  refine lv_aload_n hx hb dX0_copyFrom_1 rfl (lv_at hl 1 rfl) ?_
  refine va_get (D := D) (ci := 0) (v := .int (o.1 0)) (C := RX0) (T := TX0) (N := 11) hx hb hts hinX0 hown hK hP 9 rfl rfl 0 (by decide) w_1 (fun _ h9 => h9) rfl dX0_copyFrom_2 ?_
  refine va_put (D := D) (ci := 0) (v := .int (o.1 0)) (ty := tyX0 0) (C := RX0) (T := TX0) (N := 11) hx hb hts hinX0 tyX0 tyX0_ok nmX0 hown hK hP hD hS 0 rfl rfl 0 (by decide) w_1 (fun _ h9 => h9) rfl (tyX0_ok 0 (by decide)) rfl rfl (Nat.le_of_ble_eq_true rfl) dX0_copyFrom_5 (fun H locs hP hD hS => ?_)
  have hP : va_P D vwCl (wB I q (xs b.1 0 (o.1 0), b.2) ++ wB I r o) H := hP
  have hD : va_D A (wB I q (xs b.1 0 (o.1 0), b.2) ++ wB I r o) := hD
  refine lv_aload_n hx hb dX0_copyFrom_8 rfl (lv_at hl 0 rfl) ?_
  refine lv_aload_n hx hb dX0_copyFrom_9 rfl (lv_at hl 1 rfl) ?_
  refine va_get (D := D) (ci := 0) (v := .int (o.1 1)) (C := RX0) (T := TX0) (N := 11) hx hb hts hinX0 hown hK hP 9 rfl rfl 1 (by decide) w_2 (fun _ h9 => h9) rfl dX0_copyFrom_10 ?_
  refine va_put (D := D) (ci := 0) (v := .int (o.1 1)) (ty := tyX0 1) (C := RX0) (T := TX0) (N := 11) hx hb hts hinX0 tyX0 tyX0_ok nmX0 hown hK hP hD hS 0 rfl rfl 1 (by decide) w_2 (fun _ h9 => h9) rfl (tyX0_ok 1 (by decide)) rfl rfl (Nat.le_of_ble_eq_true rfl) dX0_copyFrom_13 (fun H locs hP hD hS => ?_)
  have hP : va_P D vwCl (wB I q (xs (xs b.1 0 (o.1 0)) 1 (o.1 1), b.2) ++ wB I r o) H := hP
  have hD : va_D A (wB I q (xs (xs b.1 0 (o.1 0)) 1 (o.1 1), b.2) ++ wB I r o) := hD
  refine lv_aload_n hx hb dX0_copyFrom_16 rfl (lv_at hl 0 rfl) ?_
  refine lv_aload_n hx hb dX0_copyFrom_17 rfl (lv_at hl 1 rfl) ?_
  refine va_get (D := D) (ci := 0) (v := .int (o.1 2)) (C := RX0) (T := TX0) (N := 11) hx hb hts hinX0 hown hK hP 9 rfl rfl 2 (by decide) w_3 (fun _ h9 => h9) rfl dX0_copyFrom_18 ?_
  refine va_put (D := D) (ci := 0) (v := .int (o.1 2)) (ty := tyX0 2) (C := RX0) (T := TX0) (N := 11) hx hb hts hinX0 tyX0 tyX0_ok nmX0 hown hK hP hD hS 0 rfl rfl 2 (by decide) w_3 (fun _ h9 => h9) rfl (tyX0_ok 2 (by decide)) rfl rfl (Nat.le_of_ble_eq_true rfl) dX0_copyFrom_21 (fun H locs hP hD hS => ?_)
  have hP : va_P D vwCl (wB I q (xs (xs (xs b.1 0 (o.1 0)) 1 (o.1 1)) 2 (o.1 2), b.2) ++ wB I r o) H := hP
  have hD : va_D A (wB I q (xs (xs (xs b.1 0 (o.1 0)) 1 (o.1 1)) 2 (o.1 2), b.2) ++ wB I r o) := hD
  refine lv_aload_n hx hb dX0_copyFrom_24 rfl (lv_at hl 0 rfl) ?_
  refine lv_aload_n hx hb dX0_copyFrom_25 rfl (lv_at hl 1 rfl) ?_
  refine va_get (D := D) (ci := 0) (v := .int (o.1 3)) (C := RX0) (T := TX0) (N := 11) hx hb hts hinX0 hown hK hP 9 rfl rfl 3 (by decide) w_4 (fun _ h9 => h9) rfl dX0_copyFrom_26 ?_
  refine va_put (D := D) (ci := 0) (v := .int (o.1 3)) (ty := tyX0 3) (C := RX0) (T := TX0) (N := 11) hx hb hts hinX0 tyX0 tyX0_ok nmX0 hown hK hP hD hS 0 rfl rfl 3 (by decide) w_4 (fun _ h9 => h9) rfl (tyX0_ok 3 (by decide)) rfl rfl (Nat.le_of_ble_eq_true rfl) dX0_copyFrom_29 (fun H locs hP hD hS => ?_)
  have hP : va_P D vwCl (wB I q (xs (xs (xs (xs b.1 0 (o.1 0)) 1 (o.1 1)) 2 (o.1 2)) 3 (o.1 3), b.2) ++ wB I r o) H := hP
  have hD : va_D A (wB I q (xs (xs (xs (xs b.1 0 (o.1 0)) 1 (o.1 1)) 2 (o.1 2)) 3 (o.1 3), b.2) ++ wB I r o) := hD
  refine lv_aload_n hx hb dX0_copyFrom_32 rfl (lv_at hl 0 rfl) ?_
  refine lv_aload_n hx hb dX0_copyFrom_33 rfl (lv_at hl 1 rfl) ?_
  refine va_get (D := D) (ci := 0) (v := .int (o.1 4)) (C := RX0) (T := TX0) (N := 11) hx hb hts hinX0 hown hK hP 9 rfl rfl 4 (by decide) w_5 (fun _ h9 => h9) rfl dX0_copyFrom_34 ?_
  refine va_put (D := D) (ci := 0) (v := .int (o.1 4)) (ty := tyX0 4) (C := RX0) (T := TX0) (N := 11) hx hb hts hinX0 tyX0 tyX0_ok nmX0 hown hK hP hD hS 0 rfl rfl 4 (by decide) w_5 (fun _ h9 => h9) rfl (tyX0_ok 4 (by decide)) rfl rfl (Nat.le_of_ble_eq_true rfl) dX0_copyFrom_37 (fun H locs hP hD hS => ?_)
  have hP : va_P D vwCl (wB I q (xs (xs (xs (xs (xs b.1 0 (o.1 0)) 1 (o.1 1)) 2 (o.1 2)) 3 (o.1 3)) 4 (o.1 4), b.2) ++ wB I r o) H := hP
  have hD : va_D A (wB I q (xs (xs (xs (xs (xs b.1 0 (o.1 0)) 1 (o.1 1)) 2 (o.1 2)) 3 (o.1 3)) 4 (o.1 4), b.2) ++ wB I r o) := hD
  refine lv_aload_n hx hb dX0_copyFrom_40 rfl (lv_at hl 0 rfl) ?_
  refine lv_aload_n hx hb dX0_copyFrom_41 rfl (lv_at hl 1 rfl) ?_
  refine va_get (D := D) (ci := 0) (v := .int (o.1 5)) (C := RX0) (T := TX0) (N := 11) hx hb hts hinX0 hown hK hP 9 rfl rfl 5 (by decide) w_6 (fun _ h9 => h9) rfl dX0_copyFrom_42 ?_
  refine va_put (D := D) (ci := 0) (v := .int (o.1 5)) (ty := tyX0 5) (C := RX0) (T := TX0) (N := 11) hx hb hts hinX0 tyX0 tyX0_ok nmX0 hown hK hP hD hS 0 rfl rfl 5 (by decide) w_6 (fun _ h9 => h9) rfl (tyX0_ok 5 (by decide)) rfl rfl (Nat.le_of_ble_eq_true rfl) dX0_copyFrom_45 (fun H locs hP hD hS => ?_)
  have hP : va_P D vwCl (wB I q (xs (xs (xs (xs (xs (xs b.1 0 (o.1 0)) 1 (o.1 1)) 2 (o.1 2)) 3 (o.1 3)) 4 (o.1 4)) 5 (o.1 5), b.2) ++ wB I r o) H := hP
  have hD : va_D A (wB I q (xs (xs (xs (xs (xs (xs b.1 0 (o.1 0)) 1 (o.1 1)) 2 (o.1 2)) 3 (o.1 3)) 4 (o.1 4)) 5 (o.1 5), b.2) ++ wB I r o) := hD
  refine lv_aload_n hx hb dX0_copyFrom_48 rfl (lv_at hl 1 rfl) ?_
  refine va_get (D := D) (ci := 0) (v := .ref (r 1)) (C := RX0) (T := TX0) (N := 11) hx hb hts hinX0 hown hK hP 9 rfl rfl 6 (by decide) w_7 (fun _ h9 => h9) rfl dX0_copyFrom_49 ?_
  refine lv_iconst (v := (0 : Int32)) hx hb dX0_copyFrom_52 (by decide) ?_
  refine lv_aload_n hx hb dX0_copyFrom_53 rfl (lv_at hl 0 rfl) ?_
  refine va_get (D := D) (ci := 0) (v := .ref (q 1)) (C := RX0) (T := TX0) (N := 11) hx hb hts hinX0 hown hK hP 0 rfl rfl 6 (by decide) w_7 (fun _ h9 => h9) rfl dX0_copyFrom_54 ?_
  refine lv_iconst (v := (0 : Int32)) hx hb dX0_copyFrom_57 (by decide) ?_
  refine lv_bipush (v := (8 : Int32)) hx hb dX0_copyFrom_58 (by decide) ?_
  refine va_copyi hx hb (hml.trans hl.1.symm) hown w_8 w_9 w_10 w_11 hK hP hD hS 10 1 0 0 rfl rfl rfl rfl rfl (by decide) (by decide) (by decide) (by decide) (by decide) (fun _ _ => rfl) (Nat.le_of_ble_eq_true rfl) (Nat.le_of_ble_eq_true rfl) dX0_copyFrom_60 (fun H locs hP hD hS => ?_)
  have hP := xk_arrP (g := o.2.1) 1 hP rfl (cpy_all (by decide))
  have hD := xk_arrD (g := o.2.1) 1 hD rfl
  have hP : va_P D vwCl (wB I q (xs (xs (xs (xs (xs (xs b.1 0 (o.1 0)) 1 (o.1 1)) 2 (o.1 2)) 3 (o.1 3)) 4 (o.1 4)) 5 (o.1 5), o.2.1, b.2.2) ++ wB I r o) H := hP
  have hD : va_D A (wB I q (xs (xs (xs (xs (xs (xs b.1 0 (o.1 0)) 1 (o.1 1)) 2 (o.1 2)) 3 (o.1 3)) 4 (o.1 4)) 5 (o.1 5), o.2.1, b.2.2) ++ wB I r o) := hD
  refine lv_aload_n hx hb dX0_copyFrom_63 rfl (lv_at hl 0 rfl) ?_
  refine va_get (D := D) (ci := 0) (v := .ref (q 2)) (C := RX0) (T := TX0) (N := 11) hx hb hts hinX0 hown hK hP 0 rfl rfl 7 (by decide) w_12 (fun _ h9 => h9) rfl dX0_copyFrom_64 ?_
  refine lv_aload_n hx hb dX0_copyFrom_67 rfl (lv_at hl 1 rfl) ?_
  refine va_get (D := D) (ci := 0) (v := .ref (r 2)) (C := RX0) (T := TX0) (N := 11) hx hb hts hinX0 hown hK hP 9 rfl rfl 7 (by decide) w_12 (fun _ h9 => h9) rfl dX0_copyFrom_68 ?_
  refine xk_callv ([cXB q (xs (xs (xs (xs (xs (xs b.1 0 (o.1 0)) 1 (o.1 1)) 2 (o.1 2)) 3 (o.1 3)) 4 (o.1 4)) 5 (o.1 5)), cA I (q 1) 8 o.2.1, cXB r o.1, cA I (r 1) 8 o.2.1]) (wB I q (xs (xs (xs (xs (xs (xs b.1 0 (o.1 0)) 1 (o.1 1)) 2 (o.1 2)) 3 (o.1 3)) 4 (o.1 4)) 5 (o.1 5), o.2) ++ wB I r o) [2, 3, 4, 5, 6, 7, 8, 11, 12, 13, 14, 15, 16, 17] [0, 1, 9, 10] [0, 1, 4, 5, 6, 7, 8, 9, 10, 2, 3, 11, 12, 13, 14, 15, 16, 17] hP hD hS hA (va_runV (As := [.ref (r 2)]) (rest := []) ⟨hx, hb, hml, hown, hts⟩ (c_X1_copyFrom l D I q r H.size b.2.2 o.2.2 ) (cwV 1 hts gX0_copyFrom_X1_copyFrom rfl rfl rfl (by decide +kernel) ⟨Nat.le_of_ble_eq_true rfl, Nat.le_of_ble_eq_true rfl⟩) (xk_preV (wc := wT I q b.2.2 ++ wT I r o.2.2) (q0 := 2) (ci := 1) hN hP hK hD [2, 3, 4, 5, 6, 7, 8, 11, 12, 13, 14, 15, 16, 17] rfl rfl rfl rfl) rfl rfl hl.1 rfl (lv_room (Nat.le_of_ble_eq_true rfl)) dX0_copyFrom_71 ⟨Nat.le_of_ble_eq_true rfl, Nat.le_of_ble_eq_true rfl⟩) rfl rfl rfl (by decide) rfl rfl (fun H locs hP hD hS => ?_)
  refine lv_aload_n hx hb dX0_copyFrom_74 rfl (lv_at hl 0 rfl) ?_
  refine lv_aload_n hx hb dX0_copyFrom_75 rfl (lv_at hl 1 rfl) ?_
  refine va_get (D := D) (ci := 0) (v := .int (o.1 6)) (C := RX0) (T := TX0) (N := 11) hx hb hts hinX0 hown hK hP 9 rfl rfl 8 (by decide) w_13 (fun _ h9 => h9) rfl dX0_copyFrom_76 ?_
  refine va_put (D := D) (ci := 0) (v := .int (o.1 6)) (ty := tyX0 8) (C := RX0) (T := TX0) (N := 11) hx hb hts hinX0 tyX0 tyX0_ok nmX0 hown hK hP hD hS 0 rfl rfl 8 (by decide) w_13 (fun _ h9 => h9) rfl (tyX0_ok 8 (by decide)) rfl rfl (Nat.le_of_ble_eq_true rfl) dX0_copyFrom_79 (fun H locs hP hD hS => ?_)
  have hP : va_P D vwCl (wB I q (xs (xs (xs (xs (xs (xs (xs b.1 0 (o.1 0)) 1 (o.1 1)) 2 (o.1 2)) 3 (o.1 3)) 4 (o.1 4)) 5 (o.1 5)) 6 (o.1 6), o.2) ++ wB I r o) H := hP
  have hD : va_D A (wB I q (xs (xs (xs (xs (xs (xs (xs b.1 0 (o.1 0)) 1 (o.1 1)) 2 (o.1 2)) 3 (o.1 3)) 4 (o.1 4)) 5 (o.1 5)) 6 (o.1 6), o.2) ++ wB I r o) := hD
  refine lv_aload_n hx hb dX0_copyFrom_82 rfl (lv_at hl 0 rfl) ?_
  refine lv_aload_n hx hb dX0_copyFrom_83 rfl (lv_at hl 1 rfl) ?_
  refine va_get (D := D) (ci := 0) (v := .int (o.1 7)) (C := RX0) (T := TX0) (N := 11) hx hb hts hinX0 hown hK hP 9 rfl rfl 9 (by decide) w_14 (fun _ h9 => h9) rfl dX0_copyFrom_84 ?_
  refine va_put (D := D) (ci := 0) (v := .int (o.1 7)) (ty := tyX0 9) (C := RX0) (T := TX0) (N := 11) hx hb hts hinX0 tyX0 tyX0_ok nmX0 hown hK hP hD hS 0 rfl rfl 9 (by decide) w_14 (fun _ h9 => h9) rfl (tyX0_ok 9 (by decide)) rfl rfl (Nat.le_of_ble_eq_true rfl) dX0_copyFrom_87 (fun H locs hP hD hS => ?_)
  have hP : va_P D vwCl (wB I q (xs (xs (xs (xs (xs (xs (xs (xs b.1 0 (o.1 0)) 1 (o.1 1)) 2 (o.1 2)) 3 (o.1 3)) 4 (o.1 4)) 5 (o.1 5)) 6 (o.1 6)) 7 (o.1 7), o.2) ++ wB I r o) H := hP
  have hD : va_D A (wB I q (xs (xs (xs (xs (xs (xs (xs (xs b.1 0 (o.1 0)) 1 (o.1 1)) 2 (o.1 2)) 3 (o.1 3)) 4 (o.1 4)) 5 (o.1 5)) 6 (o.1 6)) 7 (o.1 7), o.2) ++ wB I r o) := hD
  refine lv_aload_n hx hb dX0_copyFrom_90 rfl (lv_at hl 0 rfl) ?_
  refine lv_aload_n hx hb dX0_copyFrom_91 rfl (lv_at hl 1 rfl) ?_
  refine va_get (D := D) (ci := 0) (v := .int (o.1 8)) (C := RX0) (T := TX0) (N := 11) hx hb hts hinX0 hown hK hP 9 rfl rfl 10 (by decide) w_15 (fun _ h9 => h9) rfl dX0_copyFrom_92 ?_
  refine va_put (D := D) (ci := 0) (v := .int (o.1 8)) (ty := tyX0 10) (C := RX0) (T := TX0) (N := 11) hx hb hts hinX0 tyX0 tyX0_ok nmX0 hown hK hP hD hS 0 rfl rfl 10 (by decide) w_15 (fun _ h9 => h9) rfl (tyX0_ok 10 (by decide)) (nz01 hz) (fz01 hz) (Nat.le_of_ble_eq_true rfl) dX0_copyFrom_95 (fun H locs hP hD hS => ?_)
  have hP : va_P D vwCl (wB I q (xs (xs (xs (xs (xs (xs (xs (xs (xs b.1 0 (o.1 0)) 1 (o.1 1)) 2 (o.1 2)) 3 (o.1 3)) 4 (o.1 4)) 5 (o.1 5)) 6 (o.1 6)) 7 (o.1 7)) 8 (o.1 8), o.2) ++ wB I r o) H := hP
  have hD : va_D A (wB I q (xs (xs (xs (xs (xs (xs (xs (xs (xs b.1 0 (o.1 0)) 1 (o.1 1)) 2 (o.1 2)) 3 (o.1 3)) 4 (o.1 4)) 5 (o.1 5)) 6 (o.1 6)) 7 (o.1 7)) 8 (o.1 8), o.2) ++ wB I r o) := hD
  have hP : va_P D vwCl (wB I q o ++ wB I r o) H := hP
  have hD : va_D A (wB I q o ++ wB I r o) := hD
  exact xk_vret (wf := fun z : XBr × XBr => wB I q z.1 ++ wB I r z.2) (u := (o, o)) (u1 := (o, o)) hx hb hr hlocks hP hK hD hS rfl dX0_copyFrom_98
