set_option maxHeartbeats 4000000 in
set_option maxRecDepth 100000 in
theorem lw_C (l : Launch) (hlt : l.stackTraces = false) {p : Program} {e : Env} {s : State} {m : MethodId} {below : List Frame} {meth : Method} {c : Code} {D : va_G} {I : ClassId} {h ac : Nat} {qb qt : Nat → Nat} {b0 L : Nat} {sc : Nat → Int32} {Q : State → Prop} (hL : L ≤ 260) (C0 : lwC p s m c b0 L sc D I) {t : Nat} (ht : t < 60) {cf : Nat → Int32} {n : Nat} {b : XBr} {v : Int32} (hI : Iv n b) (hm : (b.1 0).toInt ≤ 3200 + (t : Int)) {aw : Nat} {r : Nat → Nat} {J : ClassId} {G : Nat → Nat → Int32} (hKJ : va_K D vwCl [(I, .int), (J, .array .int)] s) (hG : ∀ i, i < n → ∀ x, x < 7 → G (r i) x = fc b i x) {ax : Nat} {nx kv wv : Int32} {tf : Nat → Int32} (enx : nx = r_X0_servedNext b) (hkw : 0 < n → ∃ j, j < n ∧ kv = nI j ∧ wv = r_X2_when b (nI j)) (htf : ∀ w, w < 4 → tf w = fo b w) (hc : ∀ j, j < 8 → cf j = b.2.1 j) {z : XBr} (K : ∀ (z : XBr), ∀ (H : Heap) (locs : List Loc), va_P D vwCl (WX I h qb qt (s_X0_goOneMinute b) z ++ ([cA I ac 8 cf, cW J aw n r, cA I ax 4 tf] ++ rW I n r G)) H → va_D (fun q : Nat => s.heap.size ≤ q) (WX I h qb qt (s_X0_goOneMinute b) z ++ ([cA I ac 8 cf, cW J aw n r, cA I ax 4 tf] ++ rW I n r G)) → va_S (fun q : Nat => s.heap.size ≤ q) s.heap H locs → ∀ ls, lv_has ls 33 [(24, .int (bgI b)), (23, .int ((s_X0_goOneMinute b).1 1)), (19, .int wv), (18, .int kv), (12, .int nx), (11, .int (b.1 6)), (7, .int (b.1 0)), (6, .ref aw), (5, .int (nI n)), (3, .int (nI t)), (2, .ref ac), (1, .ref h), (0, .ref b0)] → W p l e room_1 s m #[Value.ref b0] below meth c H locs (400 + 2000 * t + 480) (4000 + 12000 * t + 3400) Q (F0 m 960 ls [])) : ∀ (H : Heap) (locs : List Loc), va_P D vwCl (WX I h qb qt b z ++ ([cA I ac 8 cf, cW J aw n r, cA I ax 4 tf] ++ rW I n r G)) H → va_D (fun q : Nat => s.heap.size ≤ q) (WX I h qb qt b z ++ ([cA I ac 8 cf, cW J aw n r, cA I ax 4 tf] ++ rW I n r G)) → va_S (fun q : Nat => s.heap.size ≤ q) s.heap H locs → ∀ ls, lv_has ls 33 [(19, .int wv), (18, .int kv), (17, .ref ax), (14, .int (r_X2_speed b (0 : Int32))), (13, .int (r_X2_speed b (1 : Int32))), (12, .int nx), (11, .int (b.1 6)), (10, .int (b.1 5)), (9, .int (b.1 3)), (8, .int (b.1 1)), (7, .int (b.1 0)), (6, .ref aw), (5, .int (nI n)), (3, .int (nI t)), (2, .ref ac), (1, .ref h), (0, .ref b0)] → W p l e room_1 s m #[Value.ref b0] below meth c H locs (400 + 2000 * t + 460) (4000 + 12000 * t + 3100) Q (F0 m 713 ls []) := by
  obtain ⟨hx, hb, hml, hown, hts, hX, hbl, hK1, hN, hXX, hover⟩ := C0
  have hA : ∀ q : Nat, s.heap.size ≤ q → (fun q : Nat => s.heap.size ≤ q) q := fun _ h => h
  have hbA : ¬ (fun q : Nat => s.heap.size ≤ q) b0 := Nat.not_le.mpr hbl
  have n40 := hI.1.1
  obtain ⟨hM, hI1⟩ := min_mn hI (show (b.1 0).toInt < 1000000 by omega)
  intro H locs hP hD hS ls hl
  refine lv_aload_n hx hb dL_law_713 rfl (lv_at hl 15 rfl) ?_
  refine lv_iconst (v := (1 : Int32)) hx hb dL_law_714 (by decide) ?_
  refine xr_calliE (wc := WX I h qb qt b z) (Rv := (fo b 0)) hP hD hS hA (va_runV (As := [.int (1 : Int32)]) (rest := []) ⟨hx, hb, hml, hown, hts⟩ (met_of_xMX (c_X2_pass l hlt D I h qb qt H.size b z (1 : Int32) hI.nB hI.m0 (by omega)) (pass_1 b).1 (nm1 _) (show _ = fo b 0 from (pass_1 b).2.1)) (cwV 1 hts gL_law_X2_pass rfl rfl rfl (by decide +kernel) ⟨Nat.le_of_ble_eq_true rfl, Nat.le_of_ble_eq_true rfl⟩) (xr_preVX (wc := WX I h qb qt b z) (ci := 2) hN hXX hS hA hP hK1 hD rfl rfl) rfl rfl hl.1 rfl (lv_room (Nat.le_of_ble_eq_true rfl)) dL_law_715 ⟨by show _ ≤ 600172; omega, by show _ ≤ 7300668; omega⟩) (fun z_1 H locs hP hD hS => ?_)
  rw [(pass_1 b).2.2] at hP hD
  have hP : va_P D vwCl (WX I h qb qt (s_X0_goOneMinute b) z_1 ++ ([cA I ac 8 cf, cW J aw n r, cA I ax 4 tf] ++ rW I n r G)) H := hP
  have hD : va_D (fun q : Nat => s.heap.size ≤ q) (WX I h qb qt (s_X0_goOneMinute b) z_1 ++ ([cA I ac 8 cf, cW J aw n r, cA I ax 4 tf] ++ rW I n r G)) := hD
  refine lv_istore (lv' := [(22, .int (fo b 0)), (19, .int wv), (18, .int kv), (17, .ref ax), (14, .int (r_X2_speed b (0 : Int32))), (13, .int (r_X2_speed b (1 : Int32))), (12, .int nx), (11, .int (b.1 6)), (10, .int (b.1 5)), (9, .int (b.1 3)), (8, .int (b.1 1)), (7, .int (b.1 0)), (6, .ref aw), (5, .int (nI n)), (3, .int (nI t)), (2, .ref ac), (1, .ref h), (0, .ref b0)]) hx hb dL_law_718 hl (by decide) rfl (fun ls hl => ?_)
  refine lv_aload_n hx hb dL_law_720 rfl (lv_at hl 16 rfl) ?_
  refine lv_iconst (v := (1 : Int32)) hx hb dL_law_721 (by decide) ?_
  refine xr_calliE (wc := WX I h qb qt (s_X0_goOneMinute b) z_1) (Rv := ((s_X0_goOneMinute b).1 1)) hP hD hS hA (va_runV (As := [.int (1 : Int32)]) (rest := []) ⟨hx, hb, hml, hown, hts⟩ (met_of_xMX (c_X2_count l hlt D I h qb qt H.size (s_X0_goOneMinute b) z_1 (1 : Int32) ) (cx1 (s_X0_goOneMinute b)) (nm1 _) (ct1 (s_X0_goOneMinute b))) (cwV 1 hts gL_law_X2_count rfl rfl rfl (by decide +kernel) ⟨Nat.le_of_ble_eq_true rfl, Nat.le_of_ble_eq_true rfl⟩) (xr_preVX (wc := WX I h qb qt (s_X0_goOneMinute b) z_1) (ci := 2) hN hXX hS hA hP hK1 hD rfl rfl) rfl rfl hl.1 rfl (lv_room (Nat.le_of_ble_eq_true rfl)) dL_law_722 ⟨by show _ ≤ 600172; omega, by show _ ≤ 7300668; omega⟩) (fun z_2 H locs hP hD hS => ?_)
  have hP : va_P D vwCl (WX I h qb qt (s_X0_goOneMinute b) z_2 ++ ([cA I ac 8 cf, cW J aw n r, cA I ax 4 tf] ++ rW I n r G)) H := hP
  have hD : va_D (fun q : Nat => s.heap.size ≤ q) (WX I h qb qt (s_X0_goOneMinute b) z_2 ++ ([cA I ac 8 cf, cW J aw n r, cA I ax 4 tf] ++ rW I n r G)) := hD
  refine lv_istore (lv' := [(23, .int ((s_X0_goOneMinute b).1 1)), (22, .int (fo b 0)), (19, .int wv), (18, .int kv), (17, .ref ax), (14, .int (r_X2_speed b (0 : Int32))), (13, .int (r_X2_speed b (1 : Int32))), (12, .int nx), (11, .int (b.1 6)), (10, .int (b.1 5)), (9, .int (b.1 3)), (8, .int (b.1 1)), (7, .int (b.1 0)), (6, .ref aw), (5, .int (nI n)), (3, .int (nI t)), (2, .ref ac), (1, .ref h), (0, .ref b0)]) hx hb dL_law_725 hl (by decide) rfl (fun ls hl => ?_)
  refine lv_iload hx hb dL_law_727 (lv_at hl 7 rfl) ?_
  have K_3 : ∀ (v_g : Int32), bgI b = v_g → ∀ (z_4 : XBr) (H : Heap) (locs : List Loc), va_P D vwCl (WX I h qb qt (s_X0_goOneMinute b) z_4 ++ ([cA I ac 8 cf, cW J aw n r, cA I ax 4 tf] ++ rW I n r G)) H → va_D (fun q : Nat => s.heap.size ≤ q) (WX I h qb qt (s_X0_goOneMinute b) z_4 ++ ([cA I ac 8 cf, cW J aw n r, cA I ax 4 tf] ++ rW I n r G)) → va_S (fun q : Nat => s.heap.size ≤ q) s.heap H locs → ∀ ls, lv_has ls 33 [(0, .ref b0), (1, .ref h), (2, .ref ac), (3, .int (nI t)), (5, .int (nI n)), (6, .ref aw), (7, .int (b.1 0)), (8, .int (b.1 1)), (9, .int (b.1 3)), (10, .int (b.1 5)), (11, .int (b.1 6)), (12, .int nx), (13, .int (r_X2_speed b (1 : Int32))), (14, .int (r_X2_speed b (0 : Int32))), (17, .ref ax), (18, .int kv), (19, .int wv), (22, .int (fo b 0)), (23, .int ((s_X0_goOneMinute b).1 1))] → W p l e room_1 s m #[Value.ref b0] below meth c H locs (400 + 2000 * t + 460 + 2) (4000 + 12000 * t + 3100 + 12) Q (F0 m 752 ls [.int v_g]) := by
    intro v_g hv_g z_4 H locs hP hD hS ls hl
    subst hv_g
    refine lv_istore (lv' := [(24, .int (bgI b)), (0, .ref b0), (1, .ref h), (2, .ref ac), (3, .int (nI t)), (5, .int (nI n)), (6, .ref aw), (7, .int (b.1 0)), (8, .int (b.1 1)), (9, .int (b.1 3)), (10, .int (b.1 5)), (11, .int (b.1 6)), (12, .int nx), (13, .int (r_X2_speed b (1 : Int32))), (14, .int (r_X2_speed b (0 : Int32))), (17, .ref ax), (18, .int kv), (19, .int wv), (22, .int (fo b 0)), (23, .int ((s_X0_goOneMinute b).1 1))]) hx hb dL_law_752 hl (by decide) rfl (fun ls hl => ?_)
    refine lv_iload hx hb dL_law_754 (lv_at hl 18 rfl) ?_
    refine lv_aload hx hb dL_law_756 (lv_at hl 15 rfl) ?_
    refine lv_iconst (v := (0 : Int32)) hx hb dL_law_758 (by decide) ?_
    refine va_iald (f := tf) hx hb hK1 hP 21 0 rfl rfl (vinN (by decide) (by decide)) dL_law_759 ?_
    refine W.eq (congrArg (fun z => F0 m 760 ls (.int z :: [.int (fo b 0)])) (show tf ((0 : Int32)).toNatClampNeg = _ from htf 0 (by decide))) ?_
    refine lv_icmp_ne (tgt := 818) hx hb dL_law_760 (by decide) (fun c_5 => ?_) (fun c_5 => ?_)
    · exact absurd rfl c_5
    · refine lv_aload_n hx hb dL_law_763 rfl (lv_at hl 2 rfl) ?_
      refine lv_bipush (v := (9 : Int32)) hx hb dL_law_764 (by decide) ?_
      refine xr_calliE (wc := WX I h qb qt (s_X0_goOneMinute b) z_4) (Rv := ((s_X0_goOneMinute b).1 5)) hP hD hS hA (va_runV (As := [.int (9 : Int32)]) (rest := []) ⟨hx, hb, hml, hown, hts⟩ (met_of_xMX (c_X2_count l hlt D I h qb qt H.size (s_X0_goOneMinute b) z_4 (9 : Int32) ) (cx9 (s_X0_goOneMinute b)) (nm1 _) (ct9 (s_X0_goOneMinute b))) (cwV 1 hts gL_law_X2_count rfl rfl rfl (by decide +kernel) ⟨Nat.le_of_ble_eq_true rfl, Nat.le_of_ble_eq_true rfl⟩) (xr_preVX (wc := WX I h qb qt (s_X0_goOneMinute b) z_4) (ci := 2) hN hXX hS hA hP hK1 hD rfl rfl) rfl rfl hl.1 rfl (lv_room (Nat.le_of_ble_eq_true rfl)) dL_law_766 ⟨by show _ ≤ 600172; omega, by show _ ≤ 7300668; omega⟩) (fun z_6 H locs hP hD hS => ?_)
      have hP : va_P D vwCl (WX I h qb qt (s_X0_goOneMinute b) z_6 ++ ([cA I ac 8 cf, cW J aw n r, cA I ax 4 tf] ++ rW I n r G)) H := hP
      have hD : va_D (fun q : Nat => s.heap.size ≤ q) (WX I h qb qt (s_X0_goOneMinute b) z_6 ++ ([cA I ac 8 cf, cW J aw n r, cA I ax 4 tf] ++ rW I n r G)) := hD
      refine lv_iload hx hb dL_law_769 (lv_at hl 10 rfl) ?_
      refine lv_isub hx hb dL_law_771 ?_
      refine lv_aload hx hb dL_law_772 (lv_at hl 15 rfl) ?_
      refine lv_iconst (v := (1 : Int32)) hx hb dL_law_774 (by decide) ?_
      refine va_iald (f := tf) hx hb hK1 hP 21 0 rfl rfl (vinN (by decide) (by decide)) dL_law_775 ?_
      refine W.eq (congrArg (fun z => F0 m 776 ls (.int z :: [.int (((s_X0_goOneMinute b).1 5) - (b.1 5))])) (show tf ((1 : Int32)).toNatClampNeg = _ from htf 1 (by decide))) ?_
      refine lv_icmp_ne (tgt := 818) hx hb dL_law_776 (by decide) (fun c_7 => ?_) (fun c_7 => ?_)
      · exact absurd rfl c_7
      · refine lv_iload hx hb dL_law_779 (lv_at hl 19 rfl) ?_
        refine lv_aload hx hb dL_law_781 (lv_at hl 15 rfl) ?_
        refine lv_iconst (v := (2 : Int32)) hx hb dL_law_783 (by decide) ?_
        refine va_iald (f := tf) hx hb hK1 hP 21 0 rfl rfl (vinN (by decide) (by decide)) dL_law_784 ?_
        refine W.eq (congrArg (fun z => F0 m 785 ls (.int z :: [.int ((s_X0_goOneMinute b).1 1)])) (show tf ((2 : Int32)).toNatClampNeg = _ from htf 2 (by decide))) ?_
        refine lv_icmp_ne (tgt := 818) hx hb dL_law_785 (by decide) (fun c_8 => ?_) (fun c_8 => ?_)
        · exact absurd rfl c_8
        · refine lv_aload_n hx hb dL_law_788 rfl (lv_at hl 2 rfl) ?_
          refine lv_iconst (v := (3 : Int32)) hx hb dL_law_789 (by decide) ?_
          refine xr_calliE (wc := WX I h qb qt (s_X0_goOneMinute b) z_6) (Rv := ((s_X0_goOneMinute b).1 3)) hP hD hS hA (va_runV (As := [.int (3 : Int32)]) (rest := []) ⟨hx, hb, hml, hown, hts⟩ (met_of_xMX (c_X2_count l hlt D I h qb qt H.size (s_X0_goOneMinute b) z_6 (3 : Int32) ) (cx3 (s_X0_goOneMinute b)) (nm1 _) (ct3 (s_X0_goOneMinute b))) (cwV 1 hts gL_law_X2_count rfl rfl rfl (by decide +kernel) ⟨Nat.le_of_ble_eq_true rfl, Nat.le_of_ble_eq_true rfl⟩) (xr_preVX (wc := WX I h qb qt (s_X0_goOneMinute b) z_6) (ci := 2) hN hXX hS hA hP hK1 hD rfl rfl) rfl rfl hl.1 rfl (lv_room (Nat.le_of_ble_eq_true rfl)) dL_law_790 ⟨by show _ ≤ 600172; omega, by show _ ≤ 7300668; omega⟩) (fun z_9 H locs hP hD hS => ?_)
          have hP : va_P D vwCl (WX I h qb qt (s_X0_goOneMinute b) z_9 ++ ([cA I ac 8 cf, cW J aw n r, cA I ax 4 tf] ++ rW I n r G)) H := hP
          have hD : va_D (fun q : Nat => s.heap.size ≤ q) (WX I h qb qt (s_X0_goOneMinute b) z_9 ++ ([cA I ac 8 cf, cW J aw n r, cA I ax 4 tf] ++ rW I n r G)) := hD
          refine lv_aload hx hb dL_law_793 (lv_at hl 15 rfl) ?_
          refine lv_iconst (v := (3 : Int32)) hx hb dL_law_795 (by decide) ?_
          refine va_iald (f := tf) hx hb hK1 hP 21 0 rfl rfl (vinN (by decide) (by decide)) dL_law_796 ?_
          refine W.eq (congrArg (fun z => F0 m 797 ls (.int z :: [.int ((s_X0_goOneMinute b).1 3)])) (show tf ((3 : Int32)).toNatClampNeg = _ from htf 3 (by decide))) ?_
          refine lv_icmp_ne (tgt := 818) hx hb dL_law_797 (by decide) (fun c_10 => ?_) (fun c_10 => ?_)
          · exact absurd rfl c_10
          · refine lv_aload_n hx hb dL_law_800 rfl (lv_at hl 2 rfl) ?_
            refine lv_iconst (v := (0 : Int32)) hx hb dL_law_801 (by decide) ?_
            refine xr_calliE (wc := WX I h qb qt (s_X0_goOneMinute b) z_9) (Rv := ((s_X0_goOneMinute b).1 0)) hP hD hS hA (va_runV (As := [.int (0 : Int32)]) (rest := []) ⟨hx, hb, hml, hown, hts⟩ (met_of_xMX (c_X2_count l hlt D I h qb qt H.size (s_X0_goOneMinute b) z_9 (0 : Int32) ) (cx0 (s_X0_goOneMinute b)) (nm1 _) (ct0 (s_X0_goOneMinute b))) (cwV 1 hts gL_law_X2_count rfl rfl rfl (by decide +kernel) ⟨Nat.le_of_ble_eq_true rfl, Nat.le_of_ble_eq_true rfl⟩) (xr_preVX (wc := WX I h qb qt (s_X0_goOneMinute b) z_9) (ci := 2) hN hXX hS hA hP hK1 hD rfl rfl) rfl rfl hl.1 rfl (lv_room (Nat.le_of_ble_eq_true rfl)) dL_law_802 ⟨by show _ ≤ 600172; omega, by show _ ≤ 7300668; omega⟩) (fun z_11 H locs hP hD hS => ?_)
            have hP : va_P D vwCl (WX I h qb qt (s_X0_goOneMinute b) z_11 ++ ([cA I ac 8 cf, cW J aw n r, cA I ax 4 tf] ++ rW I n r G)) H := hP
            have hD : va_D (fun q : Nat => s.heap.size ≤ q) (WX I h qb qt (s_X0_goOneMinute b) z_11 ++ ([cA I ac 8 cf, cW J aw n r, cA I ax 4 tf] ++ rW I n r G)) := hD
            refine lv_iload hx hb dL_law_805 (lv_at hl 7 rfl) ?_
            refine lv_iconst (v := (1 : Int32)) hx hb dL_law_807 (by decide) ?_
            refine lv_iadd hx hb dL_law_808 ?_
            refine lv_icmp_ne (tgt := 818) hx hb dL_law_809 (by decide) (fun c_12 => ?_) (fun c_12 => ?_)
            · exact absurd hM.1.2.1 c_12
            · refine lv_iload hx hb dL_law_812 (lv_at hl 18 rfl) ?_
              refine lv_iconst (v := (1 : Int32)) hx hb dL_law_814 (by decide) ?_
              refine lv_icmp_le (tgt := 820) hx hb dL_law_815 (by decide) (fun c_13 => ?_) (fun c_13 => ?_)
              · refine lv_iload hx hb dL_law_820 (lv_at hl 8 rfl) ?_
                refine lv_istore (lv' := [(25, .int (b.1 1)), (24, .int (bgI b)), (0, .ref b0), (1, .ref h), (2, .ref ac), (3, .int (nI t)), (5, .int (nI n)), (6, .ref aw), (7, .int (b.1 0)), (8, .int (b.1 1)), (9, .int (b.1 3)), (10, .int (b.1 5)), (11, .int (b.1 6)), (12, .int nx), (13, .int (r_X2_speed b (1 : Int32))), (14, .int (r_X2_speed b (0 : Int32))), (17, .ref ax), (18, .int kv), (19, .int wv), (22, .int (fo b 0)), (23, .int ((s_X0_goOneMinute b).1 1))]) hx hb dL_law_822 hl (by decide) rfl (fun ls hl => ?_)
                refine lv_iload hx hb dL_law_824 (lv_at hl 13 rfl) ?_
                have K_14 : ∀ (v_d : Int32), (s_X0_goOneMinute b).1 1 = v_d → ∀ (z_15 : XBr) (H : Heap) (locs : List Loc), va_P D vwCl (WX I h qb qt (s_X0_goOneMinute b) z_15 ++ ([cA I ac 8 cf, cW J aw n r, cA I ax 4 tf] ++ rW I n r G)) H → va_D (fun q : Nat => s.heap.size ≤ q) (WX I h qb qt (s_X0_goOneMinute b) z_15 ++ ([cA I ac 8 cf, cW J aw n r, cA I ax 4 tf] ++ rW I n r G)) → va_S (fun q : Nat => s.heap.size ≤ q) s.heap H locs → ∀ ls, lv_has ls 33 [(0, .ref b0), (1, .ref h), (2, .ref ac), (3, .int (nI t)), (5, .int (nI n)), (6, .ref aw), (7, .int (b.1 0)), (8, .int (b.1 1)), (9, .int (b.1 3)), (10, .int (b.1 5)), (11, .int (b.1 6)), (12, .int nx), (13, .int (r_X2_speed b (1 : Int32))), (14, .int (r_X2_speed b (0 : Int32))), (17, .ref ax), (18, .int kv), (19, .int wv), (22, .int (fo b 0)), (23, .int ((s_X0_goOneMinute b).1 1)), (24, .int (bgI b)), (25, .int v_d)] → W p l e room_1 s m #[Value.ref b0] below meth c H locs (400 + 2000 * t + 460 + 5) (4000 + 12000 * t + 3100 + 30) Q (F0 m 869 ls []) := by
                  intro v_d hv_d z_15 H locs hP hD hS ls hl
                  subst hv_d
                  refine lv_iload hx hb dL_law_869 (lv_at hl 6 rfl) ?_
                  refine lv_bipush (v := (60 : Int32)) hx hb dL_law_871 (by decide) ?_
                  refine lv_irem hx hb dL_law_873 (by decide) ?_
                  have K_16 : ∀ (v_f : Int32), (s_X0_goOneMinute b).1 3 = v_f → ∀ (z_17 : XBr) (H : Heap) (locs : List Loc), va_P D vwCl (WX I h qb qt (s_X0_goOneMinute b) z_17 ++ ([cA I ac 8 cf, cW J aw n r, cA I ax 4 tf] ++ rW I n r G)) H → va_D (fun q : Nat => s.heap.size ≤ q) (WX I h qb qt (s_X0_goOneMinute b) z_17 ++ ([cA I ac 8 cf, cW J aw n r, cA I ax 4 tf] ++ rW I n r G)) → va_S (fun q : Nat => s.heap.size ≤ q) s.heap H locs → ∀ ls, lv_has ls 33 [(0, .ref b0), (1, .ref h), (2, .ref ac), (3, .int (nI t)), (5, .int (nI n)), (6, .ref aw), (7, .int (b.1 0)), (8, .int (b.1 1)), (9, .int (b.1 3)), (10, .int (b.1 5)), (11, .int (b.1 6)), (12, .int nx), (13, .int (r_X2_speed b (1 : Int32))), (14, .int (r_X2_speed b (0 : Int32))), (17, .ref ax), (18, .int kv), (19, .int wv), (22, .int (fo b 0)), (23, .int ((s_X0_goOneMinute b).1 1)), (24, .int (bgI b)), (25, .int ((s_X0_goOneMinute b).1 1))] → W p l e room_1 s m #[Value.ref b0] below meth c H locs (400 + 2000 * t + 460 + 5) (4000 + 12000 * t + 3100 + 30) Q (F0 m 904 ls [.int v_f]) := by
                    intro v_f hv_f z_17 H locs hP hD hS ls hl
                    subst hv_f
                    refine lv_istore (lv' := [(26, .int ((s_X0_goOneMinute b).1 3)), (0, .ref b0), (1, .ref h), (2, .ref ac), (3, .int (nI t)), (5, .int (nI n)), (6, .ref aw), (7, .int (b.1 0)), (8, .int (b.1 1)), (9, .int (b.1 3)), (10, .int (b.1 5)), (11, .int (b.1 6)), (12, .int nx), (13, .int (r_X2_speed b (1 : Int32))), (14, .int (r_X2_speed b (0 : Int32))), (17, .ref ax), (18, .int kv), (19, .int wv), (22, .int (fo b 0)), (23, .int ((s_X0_goOneMinute b).1 1)), (24, .int (bgI b)), (25, .int ((s_X0_goOneMinute b).1 1))]) hx hb dL_law_904 hl (by decide) rfl (fun ls hl => ?_)
                    refine lv_iload hx hb dL_law_906 (lv_at hl 19 rfl) ?_
                    refine lv_iload hx hb dL_law_908 (lv_at hl 21 rfl) ?_
                    refine lv_icmp_ne (tgt := 958) hx hb dL_law_910 (by decide) (fun c_18 => ?_) (fun c_18 => ?_)
                    · exact absurd rfl c_18
                    · refine lv_aload_n hx hb dL_law_913 rfl (lv_at hl 2 rfl) ?_
                      refine lv_iconst (v := (3 : Int32)) hx hb dL_law_914 (by decide) ?_
                      refine xr_calliE (wc := WX I h qb qt (s_X0_goOneMinute b) z_17) (Rv := ((s_X0_goOneMinute b).1 3)) hP hD hS hA (va_runV (As := [.int (3 : Int32)]) (rest := []) ⟨hx, hb, hml, hown, hts⟩ (met_of_xMX (c_X2_count l hlt D I h qb qt H.size (s_X0_goOneMinute b) z_17 (3 : Int32) ) (cx3 (s_X0_goOneMinute b)) (nm1 _) (ct3 (s_X0_goOneMinute b))) (cwV 1 hts gL_law_X2_count rfl rfl rfl (by decide +kernel) ⟨Nat.le_of_ble_eq_true rfl, Nat.le_of_ble_eq_true rfl⟩) (xr_preVX (wc := WX I h qb qt (s_X0_goOneMinute b) z_17) (ci := 2) hN hXX hS hA hP hK1 hD rfl rfl) rfl rfl hl.1 rfl (lv_room (Nat.le_of_ble_eq_true rfl)) dL_law_915 ⟨by show _ ≤ 600172; omega, by show _ ≤ 7300668; omega⟩) (fun z_19 H locs hP hD hS => ?_)
                      have hP : va_P D vwCl (WX I h qb qt (s_X0_goOneMinute b) z_19 ++ ([cA I ac 8 cf, cW J aw n r, cA I ax 4 tf] ++ rW I n r G)) H := hP
                      have hD : va_D (fun q : Nat => s.heap.size ≤ q) (WX I h qb qt (s_X0_goOneMinute b) z_19 ++ ([cA I ac 8 cf, cW J aw n r, cA I ax 4 tf] ++ rW I n r G)) := hD
                      refine lv_iload hx hb dL_law_918 (lv_at hl 0 rfl) ?_
                      refine lv_icmp_ne (tgt := 958) hx hb dL_law_920 (by decide) (fun c_20 => ?_) (fun c_20 => ?_)
                      · exact absurd rfl c_20
                      · refine lv_aload_n hx hb dL_law_923 rfl (lv_at hl 2 rfl) ?_
                        refine lv_iconst (v := (1 : Int32)) hx hb dL_law_924 (by decide) ?_
                        refine xr_calli (wc := WX I h qb qt (s_X0_goOneMinute b) z_19) rfl hP hD hS hA (va_runV (As := [.int (1 : Int32)]) (rest := []) ⟨hx, hb, hml, hown, hts⟩ (c_X2_speed l D I h qb qt H.size (s_X0_goOneMinute b) z_19 (1 : Int32) ) (cwV 1 hts gL_law_X2_speed rfl rfl rfl (by decide +kernel) ⟨Nat.le_of_ble_eq_true rfl, Nat.le_of_ble_eq_true rfl⟩) (xr_preV (wc := WX I h qb qt (s_X0_goOneMinute b) z_19) (ci := 2) hN hP hK1 hD rfl rfl) rfl rfl hl.1 rfl (lv_room (Nat.le_of_ble_eq_true rfl)) dL_law_925 ⟨by show _ ≤ 600172; omega, by show _ ≤ 7300668; omega⟩) (fun H locs hP hD hS => ?_)
                        have hP : va_P D vwCl (WX I h qb qt (s_X0_goOneMinute b) z_19 ++ ([cA I ac 8 cf, cW J aw n r, cA I ax 4 tf] ++ rW I n r G)) H := hP
                        have hD : va_D (fun q : Nat => s.heap.size ≤ q) (WX I h qb qt (s_X0_goOneMinute b) z_19 ++ ([cA I ac 8 cf, cW J aw n r, cA I ax 4 tf] ++ rW I n r G)) := hD
                        refine lv_aload_n hx hb dL_law_928 rfl (lv_at hl 2 rfl) ?_
                        refine lv_iconst (v := (0 : Int32)) hx hb dL_law_929 (by decide) ?_
                        refine xr_calli (wc := WX I h qb qt (s_X0_goOneMinute b) z_19) rfl hP hD hS hA (va_runV (As := [.int (0 : Int32)]) (rest := [.int (r_X2_speed (s_X0_goOneMinute b) (1 : Int32))]) ⟨hx, hb, hml, hown, hts⟩ (c_X2_speed l D I h qb qt H.size (s_X0_goOneMinute b) z_19 (0 : Int32) ) (cwV 1 hts gL_law_X2_speed rfl rfl rfl (by decide +kernel) ⟨Nat.le_of_ble_eq_true rfl, Nat.le_of_ble_eq_true rfl⟩) (xr_preV (wc := WX I h qb qt (s_X0_goOneMinute b) z_19) (ci := 2) hN hP hK1 hD rfl rfl) rfl rfl hl.1 rfl (lv_room (Nat.le_of_ble_eq_true rfl)) dL_law_930 ⟨by show _ ≤ 600172; omega, by show _ ≤ 7300668; omega⟩) (fun H locs hP hD hS => ?_)
                        have hP : va_P D vwCl (WX I h qb qt (s_X0_goOneMinute b) z_19 ++ ([cA I ac 8 cf, cW J aw n r, cA I ax 4 tf] ++ rW I n r G)) H := hP
                        have hD : va_D (fun q : Nat => s.heap.size ≤ q) (WX I h qb qt (s_X0_goOneMinute b) z_19 ++ ([cA I ac 8 cf, cW J aw n r, cA I ax 4 tf] ++ rW I n r G)) := hD
                        refine lv_iadd hx hb dL_law_933 ?_
                        refine lv_bipush (v := (6 : Int32)) hx hb dL_law_934 (by decide) ?_
                        refine lv_icmp_le (tgt := 943) hx hb dL_law_936 (by decide) (fun c_23 => ?_) (fun c_23 => ?_)
                        · refine lv_iconst (v := (0 : Int32)) hx hb dL_law_943 (by decide) ?_
                          refine lv_iload hx hb dL_law_944 (lv_at hl 0 rfl) ?_
                          refine lv_iconst (v := (5 : Int32)) hx hb dL_law_946 (by decide) ?_
                          refine lv_icmp_ge (tgt := 954) hx hb dL_law_947 (by decide) (fun c_24 => ?_) (fun c_24 => ?_)
                          · refine lv_iconst (v := (0 : Int32)) hx hb dL_law_954 (by decide) ?_
                            refine lv_icmp_eq (tgt := 960) hx hb dL_law_955 (by decide) (fun c_25 => ?_) (fun c_25 => ?_)
                            · refine W.widen (k := 400 + 2000 * t + 480) (n := 4000 + 12000 * t + 3400) (by omega) (by omega) ?_
                              exact K z_19 H locs hP hD hS ls (lv_sub hl [20, 19, 17, 16, 12, 11, 7, 6, 5, 4, 3, 2, 1] rfl)
                            · exact absurd c_25 (by decide)
                          · exact absurd ((sp_f hI1).2.2.mp c_23) c_24
                        · refine lv_iconst (v := (1 : Int32)) hx hb dL_law_939 (by decide) ?_
                          refine lv_goto (tgt := 944) hx hb dL_law_940 (by decide) ?_
                          refine lv_iload hx hb dL_law_944 (lv_at hl 0 rfl) ?_
                          refine lv_iconst (v := (5 : Int32)) hx hb dL_law_946 (by decide) ?_
                          refine lv_icmp_ge (tgt := 954) hx hb dL_law_947 (by decide) (fun c_26 => ?_) (fun c_26 => ?_)
                          · exact absurd ((sp_f hI1).2.2.mpr c_26) c_23
                          · refine lv_iconst (v := (1 : Int32)) hx hb dL_law_950 (by decide) ?_
                            refine lv_goto (tgt := 955) hx hb dL_law_951 (by decide) ?_
                            refine lv_icmp_eq (tgt := 960) hx hb dL_law_955 (by decide) (fun c_27 => ?_) (fun c_27 => ?_)
                            · refine W.widen (k := 400 + 2000 * t + 480) (n := 4000 + 12000 * t + 3400) (by omega) (by omega) ?_
                              exact K z_19 H locs hP hD hS ls (lv_sub hl [20, 19, 17, 16, 12, 11, 7, 6, 5, 4, 3, 2, 1] rfl)
                            · exact absurd c_27 (by decide)
                  refine lv_if_ne (tgt := 902) hx hb dL_law_874 (by decide) (fun c_28 => ?_) (fun c_28 => ?_)
                  · refine lv_iload hx hb dL_law_902 (lv_at hl 8 rfl) ?_
                    refine W.widen (k := 400 + 2000 * t + 460 + 5) (n := 4000 + 12000 * t + 3100 + 30) (by omega) (by omega) ?_
                    exact K_16 _ (frost_n hM c_28).symm z_15 H locs hP hD hS ls (lv_sub hl [0, 1, 2, 3, 4, 5, 6, 7, 8, 9, 10, 11, 12, 13, 14, 15, 16, 17, 18, 19, 20] rfl)
                  · refine lv_bipush (v := (9 : Int32)) hx hb dL_law_877 (by decide) ?_
                    refine lv_iconst (v := (0 : Int32)) hx hb dL_law_879 (by decide) ?_
                    refine lv_iload hx hb dL_law_880 (lv_at hl 8 rfl) ?_
                    refine lv_aload_n hx hb dL_law_882 rfl (lv_at hl 2 rfl) ?_
                    refine lv_iload hx hb dL_law_883 (lv_at hl 6 rfl) ?_
                    refine lv_bipush (v := (60 : Int32)) hx hb dL_law_885 (by decide) ?_
                    refine lv_idiv hx hb dL_law_887 (by decide) ?_
                    refine lv_bipush (v := (8 : Int32)) hx hb dL_law_888 (by decide) ?_
                    refine lv_irem hx hb dL_law_890 (by decide) ?_
                    refine va_iald (f := cf) hx hb hK1 hP 19 0 rfl rfl (hr8 hI (by omega)) dL_law_891 ?_
                    refine lv_iadd hx hb dL_law_892 ?_
                    refine va_mmax hx hb (hml.trans hl.1.symm) hown (hts (.methodLink RL 90 Lib.Math.max.name) (by decide +kernel)) (hts (.static Lib.Math.max.name) (by decide +kernel)) (hts (.initialized "java/lang/Math") (by decide +kernel)) (hts (.code Lib.Math.max.name Lib.Math.max.code 2 (some .int)) (by decide +kernel)) (Nat.le_of_ble_eq_true rfl) (Nat.le_of_ble_eq_true rfl) (by show _ ≤ 600172; omega) (by show _ ≤ 7300668; omega) dL_law_893 ?_
                    refine W.eq (g2 := F0 m 896 ls [.int (imx (0 : Int32) ((b.1 3) + (cf (((b.1 0) / (60 : Int32)) - ((b.1 0) / (60 : Int32)) / (8 : Int32) * (8 : Int32)).toNatClampNeg))), .int (9 : Int32)]) rfl ?_
                    refine va_mmin hx hb (hml.trans hl.1.symm) hown (hts (.methodLink RL 85 Lib.Math.min.name) (by decide +kernel)) (hts (.static Lib.Math.min.name) (by decide +kernel)) (hts (.initialized "java/lang/Math") (by decide +kernel)) (hts (.code Lib.Math.min.name Lib.Math.min.code 2 (some .int)) (by decide +kernel)) (Nat.le_of_ble_eq_true rfl) (Nat.le_of_ble_eq_true rfl) (by show _ ≤ 600172; omega) (by show _ ≤ 7300668; omega) dL_law_896 ?_
                    refine W.eq (g2 := F0 m 899 ls [.int (imn (9 : Int32) (imx (0 : Int32) ((b.1 3) + (cf (((b.1 0) / (60 : Int32)) - ((b.1 0) / (60 : Int32)) / (8 : Int32) * (8 : Int32)).toNatClampNeg))))]) rfl ?_
                    refine lv_goto (tgt := 904) hx hb dL_law_899 (by decide) ?_
                    refine W.widen (k := 400 + 2000 * t + 460 + 5) (n := 4000 + 12000 * t + 3100 + 30) (by omega) (by omega) ?_
                    exact K_16 _ (frost_y hI (by omega) hM hc c_28).symm z_15 H locs hP hD hS ls (lv_sub hl [0, 1, 2, 3, 4, 5, 6, 7, 8, 9, 10, 11, 12, 13, 14, 15, 16, 17, 18, 19, 20] rfl)
                refine lv_if_lt (tgt := 869) hx hb dL_law_826 (by decide) (fun c_29 => ?_) (fun c_29 => ?_)
                · refine W.widen (k := 400 + 2000 * t + 460 + 5) (n := 4000 + 12000 * t + 3100 + 30) (by omega) (by omega) ?_
                  exact K_14 _ (due_n hM enx hI.1.1 c_29).symm z_11 H locs hP hD hS ls (lv_sub hl [2, 3, 4, 5, 6, 7, 8, 9, 10, 11, 12, 13, 14, 15, 16, 17, 18, 19, 20, 1, 0] rfl)
                · refine lv_iload hx hb dL_law_829 (lv_at hl 1 rfl) ?_
                  refine lv_if_ne (tgt := 869) hx hb dL_law_831 (by decide) (fun c_30 => ?_) (fun c_30 => ?_)
                  · refine W.widen (k := 400 + 2000 * t + 460 + 5) (n := 4000 + 12000 * t + 3100 + 30) (by omega) (by omega) ?_
                    exact K_14 _ (due_bg hM hI.1.1 c_30).symm z_11 H locs hP hD hS ls (lv_sub hl [2, 3, 4, 5, 6, 7, 8, 9, 10, 11, 12, 13, 14, 15, 16, 17, 18, 19, 20, 1, 0] rfl)
                  · obtain ⟨j_31, hj_31, rfl, hs_j_31⟩ := nx_some hI enx c_29
                    refine lv_aload hx hb dL_law_834 (lv_at hl 7 rfl) ?_
                    refine lv_iload hx hb dL_law_836 (lv_at hl 13 rfl) ?_
                    refine va_aldA hx hb hKJ hP 20 1 rfl rfl (vp_in_nI (n := j_31) hj_31 (by omega)) (x := r j_31) (by rw [nI_clamp (n := j_31) (by omega)]; exact if_pos hj_31) dL_law_838 ?_
                    refine lv_iconst (v := (0 : Int32)) hx hb dL_law_839 (by decide) ?_
                    refine xr_rld hx hb hK1 hP (n := n) (r := r) (i := j_31) hj_31 (w9 := 0) (R' := fc b j_31 0) (by decide) (vinN (by decide) (by decide)) (hG j_31 hj_31 0 (by decide)) dL_law_840 ?_
                    refine lv_iconst (v := (1 : Int32)) hx hb dL_law_841 (by decide) ?_
                    refine lv_icmp_ne (tgt := 858) hx hb dL_law_842 (by decide) (fun c_32 => ?_) (fun c_32 => ?_)
                    · refine lv_iconst (v := (0 : Int32)) hx hb dL_law_858 (by decide) ?_
                      refine lv_iload hx hb dL_law_859 (lv_at hl 9 rfl) ?_
                      refine lv_iload hx hb dL_law_861 (lv_at hl 15 rfl) ?_
                      refine lv_isub hx hb dL_law_863 ?_
                      refine va_mmax hx hb (hml.trans hl.1.symm) hown (hts (.methodLink RL 90 Lib.Math.max.name) (by decide +kernel)) (hts (.static Lib.Math.max.name) (by decide +kernel)) (hts (.initialized "java/lang/Math") (by decide +kernel)) (hts (.code Lib.Math.max.name Lib.Math.max.code 2 (some .int)) (by decide +kernel)) (Nat.le_of_ble_eq_true rfl) (Nat.le_of_ble_eq_true rfl) (by show _ ≤ 600172; omega) (by show _ ≤ 7300668; omega) dL_law_864 ?_
                      refine W.eq (g2 := F0 m 867 ls [.int (imx (0 : Int32) ((b.1 1) - (r_X2_speed b (0 : Int32))))]) rfl ?_
                      refine lv_istore (lv' := [(25, .int (imx (0 : Int32) ((b.1 1) - (r_X2_speed b (0 : Int32))))), (24, .int (bgI b)), (0, .ref b0), (1, .ref h), (2, .ref ac), (3, .int (nI t)), (5, .int (nI n)), (6, .ref aw), (7, .int (b.1 0)), (8, .int (b.1 1)), (9, .int (b.1 3)), (10, .int (b.1 5)), (11, .int (b.1 6)), (12, .int (nI j_31)), (13, .int (r_X2_speed b (1 : Int32))), (14, .int (r_X2_speed b (0 : Int32))), (17, .ref ax), (18, .int kv), (19, .int wv), (22, .int (fo b 0)), (23, .int ((s_X0_goOneMinute b).1 1))]) hx hb dL_law_867 hl (by decide) rfl (fun ls hl => ?_)
                      refine W.widen (k := 400 + 2000 * t + 460 + 5) (n := 4000 + 12000 * t + 3100 + 30) (by omega) (by omega) ?_
                      exact K_14 _ (due_z hM hj_31 hI.1.1 enx c_30 c_32).symm z_11 H locs hP hD hS ls (lv_sub hl [2, 3, 4, 5, 6, 7, 8, 9, 10, 11, 12, 13, 14, 15, 16, 17, 18, 19, 20, 1, 0] rfl)
                    · refine lv_bipush (v := (60 : Int32)) hx hb dL_law_845 (by decide) ?_
                      refine lv_iload hx hb dL_law_847 (lv_at hl 9 rfl) ?_
                      refine lv_iload hx hb dL_law_849 (lv_at hl 14 rfl) ?_
                      refine lv_iadd hx hb dL_law_851 ?_
                      refine va_mmin hx hb (hml.trans hl.1.symm) hown (hts (.methodLink RL 85 Lib.Math.min.name) (by decide +kernel)) (hts (.static Lib.Math.min.name) (by decide +kernel)) (hts (.initialized "java/lang/Math") (by decide +kernel)) (hts (.code Lib.Math.min.name Lib.Math.min.code 2 (some .int)) (by decide +kernel)) (Nat.le_of_ble_eq_true rfl) (Nat.le_of_ble_eq_true rfl) (by show _ ≤ 600172; omega) (by show _ ≤ 7300668; omega) dL_law_852 ?_
                      refine W.eq (g2 := F0 m 855 ls [.int (imn (60 : Int32) ((b.1 1) + (r_X2_speed b (1 : Int32))))]) rfl ?_
                      refine lv_goto (tgt := 867) hx hb dL_law_855 (by decide) ?_
                      refine lv_istore (lv' := [(25, .int (imn (60 : Int32) ((b.1 1) + (r_X2_speed b (1 : Int32))))), (24, .int (bgI b)), (0, .ref b0), (1, .ref h), (2, .ref ac), (3, .int (nI t)), (5, .int (nI n)), (6, .ref aw), (7, .int (b.1 0)), (8, .int (b.1 1)), (9, .int (b.1 3)), (10, .int (b.1 5)), (11, .int (b.1 6)), (12, .int (nI j_31)), (13, .int (r_X2_speed b (1 : Int32))), (14, .int (r_X2_speed b (0 : Int32))), (17, .ref ax), (18, .int kv), (19, .int wv), (22, .int (fo b 0)), (23, .int ((s_X0_goOneMinute b).1 1))]) hx hb dL_law_867 hl (by decide) rfl (fun ls hl => ?_)
                      refine W.widen (k := 400 + 2000 * t + 460 + 5) (n := 4000 + 12000 * t + 3100 + 30) (by omega) (by omega) ?_
                      exact K_14 _ (due_y hM hj_31 hI.1.1 enx c_30 c_32).symm z_11 H locs hP hD hS ls (lv_sub hl [2, 3, 4, 5, 6, 7, 8, 9, 10, 11, 12, 13, 14, 15, 16, 17, 18, 19, 20, 1, 0] rfl)
              · exact absurd (done_1 hM) c_13
  refine lv_if_lt (tgt := 751) hx hb dL_law_729 (by decide) (fun c_33 => ?_) (fun c_33 => ?_)
  · refine lv_iconst (v := (0 : Int32)) hx hb dL_law_751 (by decide) ?_
    refine W.widen (k := 400 + 2000 * t + 460 + 2) (n := 4000 + 12000 * t + 3100 + 12) (by omega) (by omega) ?_
    exact K_3 (0 : Int32) (bg_n enx c_33).symm z_2 H locs hP hD hS ls (lv_sub hl [18, 17, 16, 15, 14, 13, 12, 11, 10, 9, 8, 7, 6, 5, 4, 3, 2, 1, 0] rfl)
  · obtain ⟨j_34, hj_34, rfl, hs_j_34⟩ := nx_some hI enx c_33
    refine lv_iload hx hb dL_law_732 (lv_at hl 11 rfl) ?_
    refine lv_bipush (v := (60 : Int32)) hx hb dL_law_734 (by decide) ?_
    refine lv_aload hx hb dL_law_736 (lv_at hl 13 rfl) ?_
    refine lv_iload hx hb dL_law_738 (lv_at hl 7 rfl) ?_
    refine va_aldA hx hb hKJ hP 20 1 rfl rfl (vp_in_nI (n := j_34) hj_34 (by omega)) (x := r j_34) (by rw [nI_clamp (n := j_34) (by omega)]; exact if_pos hj_34) dL_law_740 ?_
    refine lv_iconst (v := (0 : Int32)) hx hb dL_law_741 (by decide) ?_
    refine xr_rld hx hb hK1 hP (n := n) (r := r) (i := j_34) hj_34 (w9 := 0) (R' := fc b j_34 0) (by decide) (vinN (by decide) (by decide)) (hG j_34 hj_34 0 (by decide)) dL_law_742 ?_
    refine lv_imul hx hb dL_law_743 ?_
    refine lv_icmp_ne (tgt := 751) hx hb dL_law_744 (by decide) (fun c_35 => ?_) (fun c_35 => ?_)
    · refine lv_iconst (v := (0 : Int32)) hx hb dL_law_751 (by decide) ?_
      refine W.widen (k := 400 + 2000 * t + 460 + 2) (n := 4000 + 12000 * t + 3100 + 12) (by omega) (by omega) ?_
      exact K_3 (0 : Int32) (bg_z (by omega) enx c_35).symm z_2 H locs hP hD hS ls (lv_sub hl [18, 17, 16, 15, 14, 13, 12, 11, 10, 9, 8, 7, 6, 5, 4, 3, 2, 1, 0] rfl)
    · refine lv_iconst (v := (1 : Int32)) hx hb dL_law_747 (by decide) ?_
      refine lv_goto (tgt := 752) hx hb dL_law_748 (by decide) ?_
      refine W.widen (k := 400 + 2000 * t + 460 + 2) (n := 4000 + 12000 * t + 3100 + 12) (by omega) (by omega) ?_
      exact K_3 (1 : Int32) (bg_y (by omega) enx c_35).symm z_2 H locs hP hD hS ls (lv_sub hl [18, 17, 16, 15, 14, 13, 12, 11, 10, 9, 8, 7, 6, 5, 4, 3, 2, 1, 0] rfl)
