set_option maxHeartbeats 4000000 in
set_option maxRecDepth 100000 in
theorem lw_D (l : Launch) (hlt : l.stackTraces = false) {p : Program} {e : Env} {s : State} {m : MethodId} {below : List Frame} {meth : Method} {c : Code} {D : va_G} {I : ClassId} {h ac : Nat} {qb qt : Nat → Nat} {b0 L : Nat} {sc : Nat → Int32} {Q : State → Prop} (hL : L ≤ 260) (C0 : lwC p s m c b0 L sc D I) {t : Nat} (ht : t < 60) {cf : Nat → Int32} {n : Nat} {b : XBr} {v : Int32} (hI : Iv n b) (hm : (b.1 0).toInt ≤ 3200 + (t : Int)) {aw : Nat} {r : Nat → Nat} {J : ClassId} {G : Nat → Nat → Int32} (hKJ : va_K D vwCl [(I, .int), (J, .array .int)] s) (hG : ∀ i, i < n → ∀ x, x < 7 → G (r i) x = fc b i x) {ax : Nat} {nx kv wv : Int32} {tf : Nat → Int32} (enx : nx = r_X0_servedNext b) {b' : XBr} (hM : Mn n b b') (hI1 : Iv n b') (hm1 : (b'.1 0).toInt ≤ 3201 + (t : Int)) (hwf : ∀ i, i < n → nI i = kv → ¬ wv ≤ 0 → (wv = 1 ↔ fc b' i 2 = 2)) (K : ∀ (z : XBr), ∀ (H : Heap) (locs : List Loc), va_P D vwCl (WX I h qb qt (b') z ++ ([cA I ac 8 cf, cW J aw n r, cA I ax 4 tf] ++ rW I n r G)) H → va_D (fun q : Nat => s.heap.size ≤ q) (WX I h qb qt (b') z ++ ([cA I ac 8 cf, cW J aw n r, cA I ax 4 tf] ++ rW I n r G)) → va_S (fun q : Nat => s.heap.size ≤ q) s.heap H locs → ∀ ls, lv_has ls 33 [(27, .int (cn1 b' n)), (5, .int (nI n)), (3, .int (nI t)), (2, .ref ac), (1, .ref h), (0, .ref b0)] → W p l e room_1 s m #[Value.ref b0] below meth c H locs (400 + 2000 * t + 840) (4000 + 12000 * t + 5500) Q (F0 m 1294 ls [])) : ∀ (rr i : Nat) (z : XBr), rr + i = n → ∀ (H : Heap) (locs : List Loc), va_P D vwCl (WX I h qb qt (b') z ++ ([cA I ac 8 cf, cW J aw n r, cA I ax 4 tf] ++ rW I n r G)) H → va_D (fun q : Nat => s.heap.size ≤ q) (WX I h qb qt (b') z ++ ([cA I ac 8 cf, cW J aw n r, cA I ax 4 tf] ++ rW I n r G)) → va_S (fun q : Nat => s.heap.size ≤ q) s.heap H locs → ∀ ls, lv_has ls 33 [(28, .int (nI i)), (27, .int (cn1 b' i)), (24, .int (bgI b)), (23, .int (b'.1 1)), (19, .int wv), (18, .int kv), (12, .int nx), (11, .int (b.1 6)), (7, .int (b.1 0)), (6, .ref aw), (5, .int (nI n)), (3, .int (nI t)), (2, .ref ac), (1, .ref h), (0, .ref b0)] → W p l e room_1 s m #[Value.ref b0] below meth c H locs (400 + 2000 * t + 500 + 8 * i) (4000 + 12000 * t + 3500 + 48 * i) Q (F0 m 966 ls []) := by
  obtain ⟨hx, hb, hml, hown, hts, hX, hbl, hK1, hN, hXX, hover⟩ := C0
  have hA : ∀ q : Nat, s.heap.size ≤ q → (fun q : Nat => s.heap.size ≤ q) q := fun _ h => h
  have hbA : ¬ (fun q : Nat => s.heap.size ≤ q) b0 := Nat.not_le.mpr hbl
  have n40 := hI.1.1
  intro rr
  induction rr with
  | zero =>
    intro i z hk H locs hP hD hS ls hl
    have hin : i = n := by omega
    subst hin
    refine lv_iload hx hb dL_law_966 (lv_at hl 0 rfl) ?_
    refine lv_iload hx hb dL_law_968 (lv_at hl 10 rfl) ?_
    refine lv_icmp_ge (tgt := 1294) hx hb dL_law_970 (by decide) (fun c_1 => ?_) (fun c_1 => ?_)
    · refine W.widen (k := 400 + 2000 * t + 840) (n := 4000 + 12000 * t + 5500) (by omega) (by omega) ?_
      exact K z H locs hP hD hS ls (lv_sub hl [1, 10, 11, 12, 13, 14] rfl)
    · exact absurd (nI_le (a := i) (b := i) (by omega) (by omega)) c_1
  | succ rr ih =>
    intro i z hk H locs hP hD hS ls hl
    have hi : i < n := by omega
    refine lv_iload hx hb dL_law_966 (lv_at hl 0 rfl) ?_
    refine lv_iload hx hb dL_law_968 (lv_at hl 10 rfl) ?_
    refine lv_icmp_ge (tgt := 1294) hx hb dL_law_970 (by decide) (fun c_1 => ?_) (fun c_1 => ?_)
    · exact absurd c_1 (nI_ge (a := i) (b := n) (by omega) (by omega))
    · refine lv_aload_n hx hb dL_law_973 rfl (lv_at hl 13 rfl) ?_
      refine lv_iload hx hb dL_law_974 (lv_at hl 0 rfl) ?_
      refine lv_iconst (v := (2 : Int32)) hx hb dL_law_976 (by decide) ?_
      refine xr_calliE (wc := WX I h qb qt (b') z) (Rv := (fc (b') i 2)) hP hD hS hA (va_runV (As := [.int (nI i), .int (2 : Int32)]) (rest := []) ⟨hx, hb, hml, hown, hts⟩ (met_of_xMX (c_X2_traveller l hlt D I h qb qt H.size (b') z (nI i) (2 : Int32) hI1.nB) (tr_x hI1 hi (w := 2) (by decide)) (nm1 _) (tr_r hI1 hi (w := 2) (by decide))) (cwV 2 hts gL_law_X2_traveller rfl rfl rfl (by decide +kernel) ⟨Nat.le_of_ble_eq_true rfl, Nat.le_of_ble_eq_true rfl⟩) (xr_preVX (wc := WX I h qb qt (b') z) (ci := 2) hN hXX hS hA hP hK1 hD rfl rfl) rfl rfl hl.1 rfl (lv_room (Nat.le_of_ble_eq_true rfl)) dL_law_977 ⟨by show _ ≤ 600172; omega, by show _ ≤ 7300668; omega⟩) (fun z_2 H locs hP hD hS => ?_)
      have hP : va_P D vwCl (WX I h qb qt (b') z_2 ++ ([cA I ac 8 cf, cW J aw n r, cA I ax 4 tf] ++ rW I n r G)) H := hP
      have hD : va_D (fun q : Nat => s.heap.size ≤ q) (WX I h qb qt (b') z_2 ++ ([cA I ac 8 cf, cW J aw n r, cA I ax 4 tf] ++ rW I n r G)) := hD
      refine lv_istore (lv' := [(29, .int (fc (b') i 2)), (28, .int (nI i)), (27, .int (cn1 b' i)), (24, .int (bgI b)), (23, .int (b'.1 1)), (19, .int wv), (18, .int kv), (12, .int nx), (11, .int (b.1 6)), (7, .int (b.1 0)), (6, .ref aw), (5, .int (nI n)), (3, .int (nI t)), (2, .ref ac), (1, .ref h), (0, .ref b0)]) hx hb dL_law_980 hl (by decide) rfl (fun ls hl => ?_)
      refine lv_aload_n hx hb dL_law_982 rfl (lv_at hl 14 rfl) ?_
      refine lv_iload hx hb dL_law_983 (lv_at hl 1 rfl) ?_
      refine lv_iconst (v := (5 : Int32)) hx hb dL_law_985 (by decide) ?_
      refine xr_calliE (wc := WX I h qb qt (b') z_2) (Rv := (fc (b') i 5)) hP hD hS hA (va_runV (As := [.int (nI i), .int (5 : Int32)]) (rest := []) ⟨hx, hb, hml, hown, hts⟩ (met_of_xMX (c_X2_traveller l hlt D I h qb qt H.size (b') z_2 (nI i) (5 : Int32) hI1.nB) (tr_x hI1 hi (w := 5) (by decide)) (nm1 _) (tr_r hI1 hi (w := 5) (by decide))) (cwV 2 hts gL_law_X2_traveller rfl rfl rfl (by decide +kernel) ⟨Nat.le_of_ble_eq_true rfl, Nat.le_of_ble_eq_true rfl⟩) (xr_preVX (wc := WX I h qb qt (b') z_2) (ci := 2) hN hXX hS hA hP hK1 hD rfl rfl) rfl rfl hl.1 rfl (lv_room (Nat.le_of_ble_eq_true rfl)) dL_law_986 ⟨by show _ ≤ 600172; omega, by show _ ≤ 7300668; omega⟩) (fun z_3 H locs hP hD hS => ?_)
      have hP : va_P D vwCl (WX I h qb qt (b') z_3 ++ ([cA I ac 8 cf, cW J aw n r, cA I ax 4 tf] ++ rW I n r G)) H := hP
      have hD : va_D (fun q : Nat => s.heap.size ≤ q) (WX I h qb qt (b') z_3 ++ ([cA I ac 8 cf, cW J aw n r, cA I ax 4 tf] ++ rW I n r G)) := hD
      refine lv_istore (lv' := [(30, .int (fc (b') i 5)), (29, .int (fc (b') i 2)), (28, .int (nI i)), (27, .int (cn1 b' i)), (24, .int (bgI b)), (23, .int (b'.1 1)), (19, .int wv), (18, .int kv), (12, .int nx), (11, .int (b.1 6)), (7, .int (b.1 0)), (6, .ref aw), (5, .int (nI n)), (3, .int (nI t)), (2, .ref ac), (1, .ref h), (0, .ref b0)]) hx hb dL_law_989 hl (by decide) rfl (fun ls hl => ?_)
      refine lv_iload hx hb dL_law_991 (lv_at hl 3 rfl) ?_
      refine lv_iload hx hb dL_law_993 (lv_at hl 1 rfl) ?_
      refine lv_iconst (v := (1 : Int32)) hx hb dL_law_995 (by decide) ?_
      have K_4 : ∀ (v_p : Int32), (if fc b' i 2 = 1 then (1 : Int32) else 0) = v_p → ∀ (z_5 : XBr) (H : Heap) (locs : List Loc), va_P D vwCl (WX I h qb qt (b') z_5 ++ ([cA I ac 8 cf, cW J aw n r, cA I ax 4 tf] ++ rW I n r G)) H → va_D (fun q : Nat => s.heap.size ≤ q) (WX I h qb qt (b') z_5 ++ ([cA I ac 8 cf, cW J aw n r, cA I ax 4 tf] ++ rW I n r G)) → va_S (fun q : Nat => s.heap.size ≤ q) s.heap H locs → ∀ ls, lv_has ls 33 [(0, .ref b0), (1, .ref h), (2, .ref ac), (3, .int (nI t)), (5, .int (nI n)), (6, .ref aw), (7, .int (b.1 0)), (11, .int (b.1 6)), (12, .int nx), (18, .int kv), (19, .int wv), (23, .int (b'.1 1)), (24, .int (bgI b)), (27, .int (cn1 b' i)), (28, .int (nI i)), (29, .int (fc (b') i 2)), (30, .int (fc (b') i 5))] → W p l e room_1 s m #[Value.ref b0] below meth c H locs (400 + 2000 * t + 500 + 8 * i + 2) (4000 + 12000 * t + 3500 + 48 * i + 12) Q (F0 m 1004 ls [.int v_p, .int (cn1 b' i)]) := by
        intro v_p hv_p z_5 H locs hP hD hS ls hl
        subst hv_p
        refine lv_iadd hx hb dL_law_1004 ?_
        refine lv_istore (lv' := [(27, .int ((cn1 b' i) + (if fc b' i 2 = 1 then (1 : Int32) else 0))), (0, .ref b0), (1, .ref h), (2, .ref ac), (3, .int (nI t)), (5, .int (nI n)), (6, .ref aw), (7, .int (b.1 0)), (11, .int (b.1 6)), (12, .int nx), (18, .int kv), (19, .int wv), (23, .int (b'.1 1)), (24, .int (bgI b)), (28, .int (nI i)), (29, .int (fc (b') i 2)), (30, .int (fc (b') i 5))]) hx hb dL_law_1005 hl (by decide) rfl (fun ls hl => ?_)
        have hl : lv_has ls 33 [(27, .int (cn1 b' (i + 1))), (0, .ref b0), (1, .ref h), (2, .ref ac), (3, .int (nI t)), (5, .int (nI n)), (6, .ref aw), (7, .int (b.1 0)), (11, .int (b.1 6)), (12, .int nx), (18, .int kv), (19, .int wv), (23, .int (b'.1 1)), (24, .int (bgI b)), (28, .int (nI i)), (29, .int (fc (b') i 2)), (30, .int (fc (b') i 5))] := hl
        refine lv_iload hx hb dL_law_1007 (lv_at hl 14 rfl) ?_
        refine lv_iload hx hb dL_law_1009 (lv_at hl 8 rfl) ?_
        have K_6 : ∀ (v_o : Int32), (gsI b i) = v_o → ∀ (z_7 : XBr) (H : Heap) (locs : List Loc), va_P D vwCl (WX I h qb qt (b') z_7 ++ ([cA I ac 8 cf, cW J aw n r, cA I ax 4 tf] ++ rW I n r G)) H → va_D (fun q : Nat => s.heap.size ≤ q) (WX I h qb qt (b') z_7 ++ ([cA I ac 8 cf, cW J aw n r, cA I ax 4 tf] ++ rW I n r G)) → va_S (fun q : Nat => s.heap.size ≤ q) s.heap H locs → ∀ ls, lv_has ls 33 [(0, .ref b0), (1, .ref h), (2, .ref ac), (3, .int (nI t)), (5, .int (nI n)), (6, .ref aw), (7, .int (b.1 0)), (11, .int (b.1 6)), (12, .int nx), (18, .int kv), (19, .int wv), (23, .int (b'.1 1)), (24, .int (bgI b)), (27, .int (cn1 b' (i + 1))), (28, .int (nI i)), (29, .int (fc (b') i 2)), (30, .int (fc (b') i 5))] → W p l e room_1 s m #[Value.ref b0] below meth c H locs (400 + 2000 * t + 500 + 8 * i + 2) (4000 + 12000 * t + 3500 + 48 * i + 12) Q (F0 m 1031 ls [.int v_o]) := by
          intro v_o hv_o z_7 H locs hP hD hS ls hl
          subst hv_o
          refine lv_istore (lv' := [(31, .int (gsI b i)), (0, .ref b0), (1, .ref h), (2, .ref ac), (3, .int (nI t)), (5, .int (nI n)), (6, .ref aw), (7, .int (b.1 0)), (11, .int (b.1 6)), (12, .int nx), (18, .int kv), (19, .int wv), (23, .int (b'.1 1)), (24, .int (bgI b)), (27, .int (cn1 b' (i + 1))), (28, .int (nI i)), (29, .int (fc (b') i 2)), (30, .int (fc (b') i 5))]) hx hb dL_law_1031 hl (by decide) rfl (fun ls hl => ?_)
          refine lv_iload hx hb dL_law_1033 (lv_at hl 15 rfl) ?_
          refine lv_iload hx hb dL_law_1035 (lv_at hl 8 rfl) ?_
          have K_8 : ∀ (v_h : Int32), (hdI b i) = v_h → ∀ (z_9 : XBr) (H : Heap) (locs : List Loc), va_P D vwCl (WX I h qb qt (b') z_9 ++ ([cA I ac 8 cf, cW J aw n r, cA I ax 4 tf] ++ rW I n r G)) H → va_D (fun q : Nat => s.heap.size ≤ q) (WX I h qb qt (b') z_9 ++ ([cA I ac 8 cf, cW J aw n r, cA I ax 4 tf] ++ rW I n r G)) → va_S (fun q : Nat => s.heap.size ≤ q) s.heap H locs → ∀ ls, lv_has ls 33 [(0, .ref b0), (1, .ref h), (2, .ref ac), (3, .int (nI t)), (5, .int (nI n)), (6, .ref aw), (7, .int (b.1 0)), (11, .int (b.1 6)), (12, .int nx), (18, .int kv), (19, .int wv), (23, .int (b'.1 1)), (24, .int (bgI b)), (27, .int (cn1 b' (i + 1))), (28, .int (nI i)), (29, .int (fc (b') i 2)), (30, .int (fc (b') i 5)), (31, .int (gsI b i))] → W p l e room_1 s m #[Value.ref b0] below meth c H locs (400 + 2000 * t + 500 + 8 * i + 2) (4000 + 12000 * t + 3500 + 48 * i + 12) Q (F0 m 1057 ls [.int v_h]) := by
            intro v_h hv_h z_9 H locs hP hD hS ls hl
            subst hv_h
            refine lv_istore (lv' := [(32, .int (hdI b i)), (0, .ref b0), (1, .ref h), (2, .ref ac), (3, .int (nI t)), (5, .int (nI n)), (6, .ref aw), (7, .int (b.1 0)), (11, .int (b.1 6)), (12, .int nx), (18, .int kv), (19, .int wv), (23, .int (b'.1 1)), (24, .int (bgI b)), (27, .int (cn1 b' (i + 1))), (28, .int (nI i)), (29, .int (fc (b') i 2)), (30, .int (fc (b') i 5)), (31, .int (gsI b i))]) hx hb dL_law_1057 hl (by decide) rfl (fun ls hl => ?_)
            refine lv_aload_n hx hb dL_law_1059 rfl (lv_at hl 2 rfl) ?_
            refine lv_iload hx hb dL_law_1060 (lv_at hl 15 rfl) ?_
            refine lv_iconst (v := (4 : Int32)) hx hb dL_law_1062 (by decide) ?_
            refine xr_calliE (wc := WX I h qb qt (b') z_9) (Rv := (fc (b') i 4)) hP hD hS hA (va_runV (As := [.int (nI i), .int (4 : Int32)]) (rest := []) ⟨hx, hb, hml, hown, hts⟩ (met_of_xMX (c_X2_traveller l hlt D I h qb qt H.size (b') z_9 (nI i) (4 : Int32) hI1.nB) (tr_x hI1 hi (w := 4) (by decide)) (nm1 _) (tr_r hI1 hi (w := 4) (by decide))) (cwV 2 hts gL_law_X2_traveller rfl rfl rfl (by decide +kernel) ⟨Nat.le_of_ble_eq_true rfl, Nat.le_of_ble_eq_true rfl⟩) (xr_preVX (wc := WX I h qb qt (b') z_9) (ci := 2) hN hXX hS hA hP hK1 hD rfl rfl) rfl rfl hl.1 rfl (lv_room (Nat.le_of_ble_eq_true rfl)) dL_law_1063 ⟨by show _ ≤ 600172; omega, by show _ ≤ 7300668; omega⟩) (fun z_10 H locs hP hD hS => ?_)
            have hP : va_P D vwCl (WX I h qb qt (b') z_10 ++ ([cA I ac 8 cf, cW J aw n r, cA I ax 4 tf] ++ rW I n r G)) H := hP
            have hD : va_D (fun q : Nat => s.heap.size ≤ q) (WX I h qb qt (b') z_10 ++ ([cA I ac 8 cf, cW J aw n r, cA I ax 4 tf] ++ rW I n r G)) := hD
            refine lv_aload hx hb dL_law_1066 (lv_at hl 6 rfl) ?_
            refine lv_iload hx hb dL_law_1068 (lv_at hl 15 rfl) ?_
            refine va_aldA hx hb hKJ hP 20 1 rfl rfl (vp_in_nI (n := i) hi (by omega)) (x := r i) (by rw [nI_clamp (n := i) (by omega)]; exact if_pos hi) dL_law_1070 ?_
            refine lv_iconst (v := (4 : Int32)) hx hb dL_law_1071 (by decide) ?_
            refine xr_rld hx hb hK1 hP (n := n) (r := r) (i := i) hi (w9 := 4) (R' := fc b i 4) (by decide) (vinN (by decide) (by decide)) (hG i hi 4 (by decide)) dL_law_1072 ?_
            refine lv_iload hx hb dL_law_1073 (lv_at hl 16 rfl) ?_
            have K_11 : ∀ (v_w : Int32), (if fc b' i 2 = 0 then (1 : Int32) else 0) = v_w → ∀ (z_12 : XBr) (H : Heap) (locs : List Loc), va_P D vwCl (WX I h qb qt (b') z_12 ++ ([cA I ac 8 cf, cW J aw n r, cA I ax 4 tf] ++ rW I n r G)) H → va_D (fun q : Nat => s.heap.size ≤ q) (WX I h qb qt (b') z_12 ++ ([cA I ac 8 cf, cW J aw n r, cA I ax 4 tf] ++ rW I n r G)) → va_S (fun q : Nat => s.heap.size ≤ q) s.heap H locs → ∀ ls, lv_has ls 33 [(0, .ref b0), (1, .ref h), (2, .ref ac), (3, .int (nI t)), (5, .int (nI n)), (6, .ref aw), (7, .int (b.1 0)), (11, .int (b.1 6)), (12, .int nx), (18, .int kv), (19, .int wv), (23, .int (b'.1 1)), (24, .int (bgI b)), (27, .int (cn1 b' (i + 1))), (28, .int (nI i)), (29, .int (fc (b') i 2)), (30, .int (fc (b') i 5)), (31, .int (gsI b i)), (32, .int (hdI b i))] → W p l e room_1 s m #[Value.ref b0] below meth c H locs (400 + 2000 * t + 500 + 8 * i + 3) (4000 + 12000 * t + 3500 + 48 * i + 18) Q (F0 m 1083 ls [.int v_w, .int (fc b i 4), .int (fc (b') i 4)]) := by
              intro v_w hv_w z_12 H locs hP hD hS ls hl
              subst hv_w
              refine lv_iadd hx hb dL_law_1083 ?_
              refine lv_icmp_ne (tgt := 1138) hx hb dL_law_1084 (by decide) (fun c_13 => ?_) (fun c_13 => ?_)
              · exact absurd (wait_f hI hM hi) c_13
              · refine lv_aload_n hx hb dL_law_1087 rfl (lv_at hl 1 rfl) ?_
                refine lv_iload hx hb dL_law_1088 (lv_at hl 14 rfl) ?_
                refine lv_iconst (v := (0 : Int32)) hx hb dL_law_1090 (by decide) ?_
                refine xr_calliE (wc := WX I h qb qt (b') z_12) (Rv := (fc (b') i 0)) hP hD hS hA (va_runV (As := [.int (nI i), .int (0 : Int32)]) (rest := []) ⟨hx, hb, hml, hown, hts⟩ (met_of_xMX (c_X2_traveller l hlt D I h qb qt H.size (b') z_12 (nI i) (0 : Int32) hI1.nB) (tr_x hI1 hi (w := 0) (by decide)) (nm1 _) (tr_r hI1 hi (w := 0) (by decide))) (cwV 2 hts gL_law_X2_traveller rfl rfl rfl (by decide +kernel) ⟨Nat.le_of_ble_eq_true rfl, Nat.le_of_ble_eq_true rfl⟩) (xr_preVX (wc := WX I h qb qt (b') z_12) (ci := 2) hN hXX hS hA hP hK1 hD rfl rfl) rfl rfl hl.1 rfl (lv_room (Nat.le_of_ble_eq_true rfl)) dL_law_1091 ⟨by show _ ≤ 600172; omega, by show _ ≤ 7300668; omega⟩) (fun z_14 H locs hP hD hS => ?_)
                have hP : va_P D vwCl (WX I h qb qt (b') z_14 ++ ([cA I ac 8 cf, cW J aw n r, cA I ax 4 tf] ++ rW I n r G)) H := hP
                have hD : va_D (fun q : Nat => s.heap.size ≤ q) (WX I h qb qt (b') z_14 ++ ([cA I ac 8 cf, cW J aw n r, cA I ax 4 tf] ++ rW I n r G)) := hD
                refine lv_aload hx hb dL_law_1094 (lv_at hl 5 rfl) ?_
                refine lv_iload hx hb dL_law_1096 (lv_at hl 14 rfl) ?_
                refine va_aldA hx hb hKJ hP 20 1 rfl rfl (vp_in_nI (n := i) hi (by omega)) (x := r i) (by rw [nI_clamp (n := i) (by omega)]; exact if_pos hi) dL_law_1098 ?_
                refine lv_iconst (v := (0 : Int32)) hx hb dL_law_1099 (by decide) ?_
                refine xr_rld hx hb hK1 hP (n := n) (r := r) (i := i) hi (w9 := 0) (R' := fc b i 0) (by decide) (vinN (by decide) (by decide)) (hG i hi 0 (by decide)) dL_law_1100 ?_
                refine lv_icmp_ne (tgt := 1138) hx hb dL_law_1101 (by decide) (fun c_15 => ?_) (fun c_15 => ?_)
                · exact absurd (same_f hM).1 c_15
                · refine lv_aload_n hx hb dL_law_1104 rfl (lv_at hl 1 rfl) ?_
                  refine lv_iload hx hb dL_law_1105 (lv_at hl 14 rfl) ?_
                  refine lv_iconst (v := (1 : Int32)) hx hb dL_law_1107 (by decide) ?_
                  refine xr_calliE (wc := WX I h qb qt (b') z_14) (Rv := (fc (b') i 1)) hP hD hS hA (va_runV (As := [.int (nI i), .int (1 : Int32)]) (rest := []) ⟨hx, hb, hml, hown, hts⟩ (met_of_xMX (c_X2_traveller l hlt D I h qb qt H.size (b') z_14 (nI i) (1 : Int32) hI1.nB) (tr_x hI1 hi (w := 1) (by decide)) (nm1 _) (tr_r hI1 hi (w := 1) (by decide))) (cwV 2 hts gL_law_X2_traveller rfl rfl rfl (by decide +kernel) ⟨Nat.le_of_ble_eq_true rfl, Nat.le_of_ble_eq_true rfl⟩) (xr_preVX (wc := WX I h qb qt (b') z_14) (ci := 2) hN hXX hS hA hP hK1 hD rfl rfl) rfl rfl hl.1 rfl (lv_room (Nat.le_of_ble_eq_true rfl)) dL_law_1108 ⟨by show _ ≤ 600172; omega, by show _ ≤ 7300668; omega⟩) (fun z_16 H locs hP hD hS => ?_)
                  have hP : va_P D vwCl (WX I h qb qt (b') z_16 ++ ([cA I ac 8 cf, cW J aw n r, cA I ax 4 tf] ++ rW I n r G)) H := hP
                  have hD : va_D (fun q : Nat => s.heap.size ≤ q) (WX I h qb qt (b') z_16 ++ ([cA I ac 8 cf, cW J aw n r, cA I ax 4 tf] ++ rW I n r G)) := hD
                  refine lv_aload hx hb dL_law_1111 (lv_at hl 5 rfl) ?_
                  refine lv_iload hx hb dL_law_1113 (lv_at hl 14 rfl) ?_
                  refine va_aldA hx hb hKJ hP 20 1 rfl rfl (vp_in_nI (n := i) hi (by omega)) (x := r i) (by rw [nI_clamp (n := i) (by omega)]; exact if_pos hi) dL_law_1115 ?_
                  refine lv_iconst (v := (1 : Int32)) hx hb dL_law_1116 (by decide) ?_
                  refine xr_rld hx hb hK1 hP (n := n) (r := r) (i := i) hi (w9 := 1) (R' := fc b i 1) (by decide) (vinN (by decide) (by decide)) (hG i hi 1 (by decide)) dL_law_1117 ?_
                  refine lv_icmp_ne (tgt := 1138) hx hb dL_law_1118 (by decide) (fun c_17 => ?_) (fun c_17 => ?_)
                  · exact absurd (same_f hM).2.1 c_17
                  · refine lv_aload_n hx hb dL_law_1121 rfl (lv_at hl 1 rfl) ?_
                    refine lv_iload hx hb dL_law_1122 (lv_at hl 14 rfl) ?_
                    refine lv_iconst (v := (3 : Int32)) hx hb dL_law_1124 (by decide) ?_
                    refine xr_calliE (wc := WX I h qb qt (b') z_16) (Rv := (fc (b') i 3)) hP hD hS hA (va_runV (As := [.int (nI i), .int (3 : Int32)]) (rest := []) ⟨hx, hb, hml, hown, hts⟩ (met_of_xMX (c_X2_traveller l hlt D I h qb qt H.size (b') z_16 (nI i) (3 : Int32) hI1.nB) (tr_x hI1 hi (w := 3) (by decide)) (nm1 _) (tr_r hI1 hi (w := 3) (by decide))) (cwV 2 hts gL_law_X2_traveller rfl rfl rfl (by decide +kernel) ⟨Nat.le_of_ble_eq_true rfl, Nat.le_of_ble_eq_true rfl⟩) (xr_preVX (wc := WX I h qb qt (b') z_16) (ci := 2) hN hXX hS hA hP hK1 hD rfl rfl) rfl rfl hl.1 rfl (lv_room (Nat.le_of_ble_eq_true rfl)) dL_law_1125 ⟨by show _ ≤ 600172; omega, by show _ ≤ 7300668; omega⟩) (fun z_18 H locs hP hD hS => ?_)
                    have hP : va_P D vwCl (WX I h qb qt (b') z_18 ++ ([cA I ac 8 cf, cW J aw n r, cA I ax 4 tf] ++ rW I n r G)) H := hP
                    have hD : va_D (fun q : Nat => s.heap.size ≤ q) (WX I h qb qt (b') z_18 ++ ([cA I ac 8 cf, cW J aw n r, cA I ax 4 tf] ++ rW I n r G)) := hD
                    refine lv_aload hx hb dL_law_1128 (lv_at hl 5 rfl) ?_
                    refine lv_iload hx hb dL_law_1130 (lv_at hl 14 rfl) ?_
                    refine va_aldA hx hb hKJ hP 20 1 rfl rfl (vp_in_nI (n := i) hi (by omega)) (x := r i) (by rw [nI_clamp (n := i) (by omega)]; exact if_pos hi) dL_law_1132 ?_
                    refine lv_iconst (v := (3 : Int32)) hx hb dL_law_1133 (by decide) ?_
                    refine xr_rld hx hb hK1 hP (n := n) (r := r) (i := i) hi (w9 := 3) (R' := fc b i 3) (by decide) (vinN (by decide) (by decide)) (hG i hi 3 (by decide)) dL_law_1134 ?_
                    refine lv_icmp_eq (tgt := 1140) hx hb dL_law_1135 (by decide) (fun c_19 => ?_) (fun c_19 => ?_)
                    · refine lv_iload hx hb dL_law_1140 (lv_at hl 17 rfl) ?_
                      have K_20 : ∀ (z_21 : XBr) (H : Heap) (locs : List Loc), va_P D vwCl (WX I h qb qt (b') z_21 ++ ([cA I ac 8 cf, cW J aw n r, cA I ax 4 tf] ++ rW I n r G)) H → va_D (fun q : Nat => s.heap.size ≤ q) (WX I h qb qt (b') z_21 ++ ([cA I ac 8 cf, cW J aw n r, cA I ax 4 tf] ++ rW I n r G)) → va_S (fun q : Nat => s.heap.size ≤ q) s.heap H locs → ∀ ls, lv_has ls 33 [(0, .ref b0), (1, .ref h), (2, .ref ac), (3, .int (nI t)), (5, .int (nI n)), (6, .ref aw), (7, .int (b.1 0)), (11, .int (b.1 6)), (12, .int nx), (18, .int kv), (19, .int wv), (23, .int (b'.1 1)), (24, .int (bgI b)), (27, .int (cn1 b' (i + 1))), (28, .int (nI i)), (29, .int (fc (b') i 2)), (30, .int (fc (b') i 5)), (31, .int (gsI b i)), (32, .int (hdI b i))] → W p l e room_1 s m #[Value.ref b0] below meth c H locs (400 + 2000 * t + 500 + 8 * i + 7) (4000 + 12000 * t + 3500 + 48 * i + 42) Q (F0 m 1249 ls []) := by
                        intro  z_21 H locs hP hD hS ls hl
                        refine lv_iload hx hb dL_law_1249 (lv_at hl 14 rfl) ?_
                        refine lv_iload hx hb dL_law_1251 (lv_at hl 9 rfl) ?_
                        refine lv_icmp_ne (tgt := 1288) hx hb dL_law_1253 (by decide) (fun c_22 => ?_) (fun c_22 => ?_)
                        · refine lv_iinc (v := (nI (i + 1))) (lv' := [(28, .int (nI (i + 1))), (0, .ref b0), (1, .ref h), (2, .ref ac), (3, .int (nI t)), (5, .int (nI n)), (6, .ref aw), (7, .int (b.1 0)), (11, .int (b.1 6)), (12, .int nx), (18, .int kv), (19, .int wv), (23, .int (b'.1 1)), (24, .int (bgI b)), (27, .int (cn1 b' (i + 1))), (29, .int (fc (b') i 2)), (30, .int (fc (b') i 5)), (31, .int (gsI b i)), (32, .int (hdI b i))]) hx hb dL_law_1288 hl (k := 14) rfl (nI_succ i).symm (by decide) rfl (fun ls hl => ?_)
                          refine lv_goto (tgt := 966) hx hb dL_law_1291 (by decide) ?_
                          refine W.widen (k := 400 + 2000 * t + 500 + 8 * (i + 1)) (n := 4000 + 12000 * t + 3500 + 48 * (i + 1)) (by omega) (by omega) ?_
                          exact ih (i + 1) z_21 (by omega) H locs hP hD hS ls (lv_sub hl [0, 14, 13, 12, 11, 10, 9, 8, 7, 6, 5, 4, 3, 2, 1] rfl)
                        · refine lv_iload hx hb dL_law_1256 (lv_at hl 10 rfl) ?_
                          refine lv_if_le (tgt := 1288) hx hb dL_law_1258 (by decide) (fun c_23 => ?_) (fun c_23 => ?_)
                          · refine lv_iinc (v := (nI (i + 1))) (lv' := [(28, .int (nI (i + 1))), (0, .ref b0), (1, .ref h), (2, .ref ac), (3, .int (nI t)), (5, .int (nI n)), (6, .ref aw), (7, .int (b.1 0)), (11, .int (b.1 6)), (12, .int nx), (18, .int kv), (19, .int wv), (23, .int (b'.1 1)), (24, .int (bgI b)), (27, .int (cn1 b' (i + 1))), (29, .int (fc (b') i 2)), (30, .int (fc (b') i 5)), (31, .int (gsI b i)), (32, .int (hdI b i))]) hx hb dL_law_1288 hl (k := 14) rfl (nI_succ i).symm (by decide) rfl (fun ls hl => ?_)
                            refine lv_goto (tgt := 966) hx hb dL_law_1291 (by decide) ?_
                            refine W.widen (k := 400 + 2000 * t + 500 + 8 * (i + 1)) (n := 4000 + 12000 * t + 3500 + 48 * (i + 1)) (by omega) (by omega) ?_
                            exact ih (i + 1) z_21 (by omega) H locs hP hD hS ls (lv_sub hl [0, 14, 13, 12, 11, 10, 9, 8, 7, 6, 5, 4, 3, 2, 1] rfl)
                          · refine lv_iload hx hb dL_law_1261 (lv_at hl 10 rfl) ?_
                            refine lv_iconst (v := (1 : Int32)) hx hb dL_law_1263 (by decide) ?_
                            refine lv_icmp_ne (tgt := 1271) hx hb dL_law_1264 (by decide) (fun c_24 => ?_) (fun c_24 => ?_)
                            · refine lv_iconst (v := (0 : Int32)) hx hb dL_law_1271 (by decide) ?_
                              refine lv_iload hx hb dL_law_1272 (lv_at hl 15 rfl) ?_
                              refine lv_iconst (v := (2 : Int32)) hx hb dL_law_1274 (by decide) ?_
                              refine lv_icmp_ne (tgt := 1282) hx hb dL_law_1275 (by decide) (fun c_25 => ?_) (fun c_25 => ?_)
                              · refine lv_iconst (v := (0 : Int32)) hx hb dL_law_1282 (by decide) ?_
                                refine lv_icmp_eq (tgt := 1288) hx hb dL_law_1283 (by decide) (fun c_26 => ?_) (fun c_26 => ?_)
                                · refine lv_iinc (v := (nI (i + 1))) (lv' := [(28, .int (nI (i + 1))), (0, .ref b0), (1, .ref h), (2, .ref ac), (3, .int (nI t)), (5, .int (nI n)), (6, .ref aw), (7, .int (b.1 0)), (11, .int (b.1 6)), (12, .int nx), (18, .int kv), (19, .int wv), (23, .int (b'.1 1)), (24, .int (bgI b)), (27, .int (cn1 b' (i + 1))), (29, .int (fc (b') i 2)), (30, .int (fc (b') i 5)), (31, .int (gsI b i)), (32, .int (hdI b i))]) hx hb dL_law_1288 hl (k := 14) rfl (nI_succ i).symm (by decide) rfl (fun ls hl => ?_)
                                  refine lv_goto (tgt := 966) hx hb dL_law_1291 (by decide) ?_
                                  refine W.widen (k := 400 + 2000 * t + 500 + 8 * (i + 1)) (n := 4000 + 12000 * t + 3500 + 48 * (i + 1)) (by omega) (by omega) ?_
                                  exact ih (i + 1) z_21 (by omega) H locs hP hD hS ls (lv_sub hl [0, 14, 13, 12, 11, 10, 9, 8, 7, 6, 5, 4, 3, 2, 1] rfl)
                                · exact absurd c_26 (by decide)
                              · exact absurd ((hwf i hi c_22 c_23).mpr c_25) c_24
                            · refine lv_iconst (v := (1 : Int32)) hx hb dL_law_1267 (by decide) ?_
                              refine lv_goto (tgt := 1272) hx hb dL_law_1268 (by decide) ?_
                              refine lv_iload hx hb dL_law_1272 (lv_at hl 15 rfl) ?_
                              refine lv_iconst (v := (2 : Int32)) hx hb dL_law_1274 (by decide) ?_
                              refine lv_icmp_ne (tgt := 1282) hx hb dL_law_1275 (by decide) (fun c_27 => ?_) (fun c_27 => ?_)
                              · exact absurd ((hwf i hi c_22 c_23).mp c_24) c_27
                              · refine lv_iconst (v := (1 : Int32)) hx hb dL_law_1278 (by decide) ?_
                                refine lv_goto (tgt := 1283) hx hb dL_law_1279 (by decide) ?_
                                refine lv_icmp_eq (tgt := 1288) hx hb dL_law_1283 (by decide) (fun c_28 => ?_) (fun c_28 => ?_)
                                · refine lv_iinc (v := (nI (i + 1))) (lv' := [(28, .int (nI (i + 1))), (0, .ref b0), (1, .ref h), (2, .ref ac), (3, .int (nI t)), (5, .int (nI n)), (6, .ref aw), (7, .int (b.1 0)), (11, .int (b.1 6)), (12, .int nx), (18, .int kv), (19, .int wv), (23, .int (b'.1 1)), (24, .int (bgI b)), (27, .int (cn1 b' (i + 1))), (29, .int (fc (b') i 2)), (30, .int (fc (b') i 5)), (31, .int (gsI b i)), (32, .int (hdI b i))]) hx hb dL_law_1288 hl (k := 14) rfl (nI_succ i).symm (by decide) rfl (fun ls hl => ?_)
                                  refine lv_goto (tgt := 966) hx hb dL_law_1291 (by decide) ?_
                                  refine W.widen (k := 400 + 2000 * t + 500 + 8 * (i + 1)) (n := 4000 + 12000 * t + 3500 + 48 * (i + 1)) (by omega) (by omega) ?_
                                  exact ih (i + 1) z_21 (by omega) H locs hP hD hS ls (lv_sub hl [0, 14, 13, 12, 11, 10, 9, 8, 7, 6, 5, 4, 3, 2, 1] rfl)
                                · exact absurd c_28 (by decide)
                      refine lv_if_eq (tgt := 1211) hx hb dL_law_1142 (by decide) (fun c_29 => ?_) (fun c_29 => ?_)
                      · refine lv_iload hx hb dL_law_1211 (lv_at hl 15 rfl) ?_
                        refine lv_aload hx hb dL_law_1213 (lv_at hl 5 rfl) ?_
                        refine lv_iload hx hb dL_law_1215 (lv_at hl 14 rfl) ?_
                        refine va_aldA hx hb hKJ hP 20 1 rfl rfl (vp_in_nI (n := i) hi (by omega)) (x := r i) (by rw [nI_clamp (n := i) (by omega)]; exact if_pos hi) dL_law_1217 ?_
                        refine lv_iconst (v := (2 : Int32)) hx hb dL_law_1218 (by decide) ?_
                        refine xr_rld hx hb hK1 hP (n := n) (r := r) (i := i) hi (w9 := 2) (R' := fc b i 2) (by decide) (vinN (by decide) (by decide)) (hG i hi 2 (by decide)) dL_law_1219 ?_
                        refine lv_icmp_ne (tgt := 1247) hx hb dL_law_1220 (by decide) (fun c_30 => ?_) (fun c_30 => ?_)
                        · exact absurd ((gs_f hI hM hi).2 c_29).1 c_30
                        · refine lv_iload hx hb dL_law_1223 (lv_at hl 16 rfl) ?_
                          refine lv_if_ne (tgt := 1247) hx hb dL_law_1225 (by decide) (fun c_31 => ?_) (fun c_31 => ?_)
                          · exact absurd ((gs_f hI hM hi).2 c_29).2.1 c_31
                          · refine lv_aload_n hx hb dL_law_1228 rfl (lv_at hl 1 rfl) ?_
                            refine lv_iload hx hb dL_law_1229 (lv_at hl 14 rfl) ?_
                            refine lv_bipush (v := (6 : Int32)) hx hb dL_law_1231 (by decide) ?_
                            refine xr_calliE (wc := WX I h qb qt (b') z_18) (Rv := (fc (b') i 6)) hP hD hS hA (va_runV (As := [.int (nI i), .int (6 : Int32)]) (rest := []) ⟨hx, hb, hml, hown, hts⟩ (met_of_xMX (c_X2_traveller l hlt D I h qb qt H.size (b') z_18 (nI i) (6 : Int32) hI1.nB) (tr_x hI1 hi (w := 6) (by decide)) (nm1 _) (tr_r hI1 hi (w := 6) (by decide))) (cwV 2 hts gL_law_X2_traveller rfl rfl rfl (by decide +kernel) ⟨Nat.le_of_ble_eq_true rfl, Nat.le_of_ble_eq_true rfl⟩) (xr_preVX (wc := WX I h qb qt (b') z_18) (ci := 2) hN hXX hS hA hP hK1 hD rfl rfl) rfl rfl hl.1 rfl (lv_room (Nat.le_of_ble_eq_true rfl)) dL_law_1233 ⟨by show _ ≤ 600172; omega, by show _ ≤ 7300668; omega⟩) (fun z_32 H locs hP hD hS => ?_)
                            have hP : va_P D vwCl (WX I h qb qt (b') z_32 ++ ([cA I ac 8 cf, cW J aw n r, cA I ax 4 tf] ++ rW I n r G)) H := hP
                            have hD : va_D (fun q : Nat => s.heap.size ≤ q) (WX I h qb qt (b') z_32 ++ ([cA I ac 8 cf, cW J aw n r, cA I ax 4 tf] ++ rW I n r G)) := hD
                            refine lv_aload hx hb dL_law_1236 (lv_at hl 5 rfl) ?_
                            refine lv_iload hx hb dL_law_1238 (lv_at hl 14 rfl) ?_
                            refine va_aldA hx hb hKJ hP 20 1 rfl rfl (vp_in_nI (n := i) hi (by omega)) (x := r i) (by rw [nI_clamp (n := i) (by omega)]; exact if_pos hi) dL_law_1240 ?_
                            refine lv_bipush (v := (6 : Int32)) hx hb dL_law_1241 (by decide) ?_
                            refine xr_rld hx hb hK1 hP (n := n) (r := r) (i := i) hi (w9 := 6) (R' := fc b i 6) (by decide) (vinN (by decide) (by decide)) (hG i hi 6 (by decide)) dL_law_1243 ?_
                            refine lv_icmp_eq (tgt := 1249) hx hb dL_law_1244 (by decide) (fun c_33 => ?_) (fun c_33 => ?_)
                            · refine W.widen (k := 400 + 2000 * t + 500 + 8 * i + 7) (n := 4000 + 12000 * t + 3500 + 48 * i + 42) (by omega) (by omega) ?_
                              exact K_20  z_32 H locs hP hD hS ls (lv_sub hl [0, 1, 2, 3, 4, 5, 6, 7, 8, 9, 10, 11, 12, 13, 14, 15, 16, 17, 18] rfl)
                            · exact absurd ((gs_f hI hM hi).2 c_29).2.2 c_33
                      · refine lv_iload hx hb dL_law_1145 (lv_at hl 15 rfl) ?_
                        refine lv_iload hx hb dL_law_1147 (lv_at hl 18 rfl) ?_
                        refine lv_iconst (v := (1 : Int32)) hx hb dL_law_1149 (by decide) ?_
                        have K_34 : ∀ (v_s : Int32), (if hdI b i = 1 then (2 : Int32) else 1) = v_s → ∀ (z_35 : XBr) (H : Heap) (locs : List Loc), va_P D vwCl (WX I h qb qt (b') z_35 ++ ([cA I ac 8 cf, cW J aw n r, cA I ax 4 tf] ++ rW I n r G)) H → va_D (fun q : Nat => s.heap.size ≤ q) (WX I h qb qt (b') z_35 ++ ([cA I ac 8 cf, cW J aw n r, cA I ax 4 tf] ++ rW I n r G)) → va_S (fun q : Nat => s.heap.size ≤ q) s.heap H locs → ∀ ls, lv_has ls 33 [(0, .ref b0), (1, .ref h), (2, .ref ac), (3, .int (nI t)), (5, .int (nI n)), (6, .ref aw), (7, .int (b.1 0)), (11, .int (b.1 6)), (12, .int nx), (18, .int kv), (19, .int wv), (23, .int (b'.1 1)), (24, .int (bgI b)), (27, .int (cn1 b' (i + 1))), (28, .int (nI i)), (29, .int (fc (b') i 2)), (30, .int (fc (b') i 5)), (31, .int (gsI b i)), (32, .int (hdI b i))] → W p l e room_1 s m #[Value.ref b0] below meth c H locs (400 + 2000 * t + 500 + 8 * i + 6) (4000 + 12000 * t + 3500 + 48 * i + 36) Q (F0 m 1158 ls [.int v_s, .int (fc (b') i 2)]) := by
                          intro v_s hv_s z_35 H locs hP hD hS ls hl
                          subst hv_s
                          refine lv_icmp_ne (tgt := 1247) hx hb dL_law_1158 (by decide) (fun c_36 => ?_) (fun c_36 => ?_)
                          · exact absurd ((gs_f hI hM hi).1 c_29).1 c_36
                          · refine lv_iload hx hb dL_law_1161 (lv_at hl 16 rfl) ?_
                            refine lv_iload hx hb dL_law_1163 (lv_at hl 18 rfl) ?_
                            refine lv_iconst (v := (1 : Int32)) hx hb dL_law_1165 (by decide) ?_
                            refine lv_isub hx hb dL_law_1166 ?_
                            refine lv_icmp_ne (tgt := 1247) hx hb dL_law_1167 (by decide) (fun c_37 => ?_) (fun c_37 => ?_)
                            · exact absurd ((gs_f hI hM hi).1 c_29).2.1 c_37
                            · refine lv_aload_n hx hb dL_law_1170 rfl (lv_at hl 1 rfl) ?_
                              refine lv_iload hx hb dL_law_1171 (lv_at hl 14 rfl) ?_
                              refine lv_bipush (v := (6 : Int32)) hx hb dL_law_1173 (by decide) ?_
                              refine xr_calliE (wc := WX I h qb qt (b') z_35) (Rv := (fc (b') i 6)) hP hD hS hA (va_runV (As := [.int (nI i), .int (6 : Int32)]) (rest := []) ⟨hx, hb, hml, hown, hts⟩ (met_of_xMX (c_X2_traveller l hlt D I h qb qt H.size (b') z_35 (nI i) (6 : Int32) hI1.nB) (tr_x hI1 hi (w := 6) (by decide)) (nm1 _) (tr_r hI1 hi (w := 6) (by decide))) (cwV 2 hts gL_law_X2_traveller rfl rfl rfl (by decide +kernel) ⟨Nat.le_of_ble_eq_true rfl, Nat.le_of_ble_eq_true rfl⟩) (xr_preVX (wc := WX I h qb qt (b') z_35) (ci := 2) hN hXX hS hA hP hK1 hD rfl rfl) rfl rfl hl.1 rfl (lv_room (Nat.le_of_ble_eq_true rfl)) dL_law_1175 ⟨by show _ ≤ 600172; omega, by show _ ≤ 7300668; omega⟩) (fun z_38 H locs hP hD hS => ?_)
                              have hP : va_P D vwCl (WX I h qb qt (b') z_38 ++ ([cA I ac 8 cf, cW J aw n r, cA I ax 4 tf] ++ rW I n r G)) H := hP
                              have hD : va_D (fun q : Nat => s.heap.size ≤ q) (WX I h qb qt (b') z_38 ++ ([cA I ac 8 cf, cW J aw n r, cA I ax 4 tf] ++ rW I n r G)) := hD
                              refine lv_iload hx hb dL_law_1178 (lv_at hl 18 rfl) ?_
                              refine lv_iconst (v := (1 : Int32)) hx hb dL_law_1180 (by decide) ?_
                              have K_39 : ∀ (v_m : Int32), (if hdI b i = 1 then b.1 0 else -1) = v_m → ∀ (z_40 : XBr) (H : Heap) (locs : List Loc), va_P D vwCl (WX I h qb qt (b') z_40 ++ ([cA I ac 8 cf, cW J aw n r, cA I ax 4 tf] ++ rW I n r G)) H → va_D (fun q : Nat => s.heap.size ≤ q) (WX I h qb qt (b') z_40 ++ ([cA I ac 8 cf, cW J aw n r, cA I ax 4 tf] ++ rW I n r G)) → va_S (fun q : Nat => s.heap.size ≤ q) s.heap H locs → ∀ ls, lv_has ls 33 [(0, .ref b0), (1, .ref h), (2, .ref ac), (3, .int (nI t)), (5, .int (nI n)), (6, .ref aw), (7, .int (b.1 0)), (11, .int (b.1 6)), (12, .int nx), (18, .int kv), (19, .int wv), (23, .int (b'.1 1)), (24, .int (bgI b)), (27, .int (cn1 b' (i + 1))), (28, .int (nI i)), (29, .int (fc (b') i 2)), (30, .int (fc (b') i 5)), (31, .int (gsI b i)), (32, .int (hdI b i))] → W p l e room_1 s m #[Value.ref b0] below meth c H locs (400 + 2000 * t + 500 + 8 * i + 7) (4000 + 12000 * t + 3500 + 48 * i + 42) Q (F0 m 1190 ls [.int v_m, .int (fc (b') i 6)]) := by
                                intro v_m hv_m z_40 H locs hP hD hS ls hl
                                subst hv_m
                                refine lv_icmp_ne (tgt := 1247) hx hb dL_law_1190 (by decide) (fun c_41 => ?_) (fun c_41 => ?_)
                                · exact absurd ((gs_f hI hM hi).1 c_29).2.2.1 c_41
                                · refine lv_iload hx hb dL_law_1193 (lv_at hl 11 rfl) ?_
                                  refine lv_bipush (v := (60 : Int32)) hx hb dL_law_1195 (by decide) ?_
                                  refine lv_aload hx hb dL_law_1197 (lv_at hl 5 rfl) ?_
                                  refine lv_iload hx hb dL_law_1199 (lv_at hl 14 rfl) ?_
                                  refine va_aldA hx hb hKJ hP 20 1 rfl rfl (vp_in_nI (n := i) hi (by omega)) (x := r i) (by rw [nI_clamp (n := i) (by omega)]; exact if_pos hi) dL_law_1201 ?_
                                  refine lv_iconst (v := (0 : Int32)) hx hb dL_law_1202 (by decide) ?_
                                  refine xr_rld hx hb hK1 hP (n := n) (r := r) (i := i) hi (w9 := 0) (R' := fc b i 0) (by decide) (vinN (by decide) (by decide)) (hG i hi 0 (by decide)) dL_law_1203 ?_
                                  refine lv_imul hx hb dL_law_1204 ?_
                                  refine lv_icmp_eq (tgt := 1249) hx hb dL_law_1205 (by decide) (fun c_42 => ?_) (fun c_42 => ?_)
                                  · refine W.widen (k := 400 + 2000 * t + 500 + 8 * i + 7) (n := 4000 + 12000 * t + 3500 + 48 * i + 42) (by omega) (by omega) ?_
                                    exact K_20  z_40 H locs hP hD hS ls (lv_sub hl [0, 1, 2, 3, 4, 5, 6, 7, 8, 9, 10, 11, 12, 13, 14, 15, 16, 17, 18] rfl)
                                  · exact absurd ((gs_f hI hM hi).1 c_29).2.2.2 c_42
                              refine lv_icmp_ne (tgt := 1189) hx hb dL_law_1181 (by decide) (fun c_43 => ?_) (fun c_43 => ?_)
                              · refine lv_iconst (v := (-1 : Int32)) hx hb dL_law_1189 (by decide) ?_
                                refine W.widen (k := 400 + 2000 * t + 500 + 8 * i + 7) (n := 4000 + 12000 * t + 3500 + 48 * i + 42) (by omega) (by omega) ?_
                                exact K_39 _ (if_neg c_43) z_38 H locs hP hD hS ls (lv_sub hl [0, 1, 2, 3, 4, 5, 6, 7, 8, 9, 10, 11, 12, 13, 14, 15, 16, 17, 18] rfl)
                              · refine lv_iload hx hb dL_law_1184 (lv_at hl 6 rfl) ?_
                                refine lv_goto (tgt := 1190) hx hb dL_law_1186 (by decide) ?_
                                refine W.widen (k := 400 + 2000 * t + 500 + 8 * i + 7) (n := 4000 + 12000 * t + 3500 + 48 * i + 42) (by omega) (by omega) ?_
                                exact K_39 _ (if_pos c_43) z_38 H locs hP hD hS ls (lv_sub hl [0, 1, 2, 3, 4, 5, 6, 7, 8, 9, 10, 11, 12, 13, 14, 15, 16, 17, 18] rfl)
                        refine lv_icmp_ne (tgt := 1157) hx hb dL_law_1150 (by decide) (fun c_44 => ?_) (fun c_44 => ?_)
                        · refine lv_iconst (v := (1 : Int32)) hx hb dL_law_1157 (by decide) ?_
                          refine W.widen (k := 400 + 2000 * t + 500 + 8 * i + 6) (n := 4000 + 12000 * t + 3500 + 48 * i + 36) (by omega) (by omega) ?_
                          exact K_34 _ (if_neg c_44) z_18 H locs hP hD hS ls (lv_sub hl [0, 1, 2, 3, 4, 5, 6, 7, 8, 9, 10, 11, 12, 13, 14, 15, 16, 17, 18] rfl)
                        · refine lv_iconst (v := (2 : Int32)) hx hb dL_law_1153 (by decide) ?_
                          refine lv_goto (tgt := 1158) hx hb dL_law_1154 (by decide) ?_
                          refine W.widen (k := 400 + 2000 * t + 500 + 8 * i + 6) (n := 4000 + 12000 * t + 3500 + 48 * i + 36) (by omega) (by omega) ?_
                          exact K_34 _ (if_pos c_44) z_18 H locs hP hD hS ls (lv_sub hl [0, 1, 2, 3, 4, 5, 6, 7, 8, 9, 10, 11, 12, 13, 14, 15, 16, 17, 18] rfl)
                    · exact absurd (same_f hM).2.2 c_19
            refine lv_if_ne (tgt := 1082) hx hb dL_law_1075 (by decide) (fun c_45 => ?_) (fun c_45 => ?_)
            · refine lv_iconst (v := (0 : Int32)) hx hb dL_law_1082 (by decide) ?_
              refine W.widen (k := 400 + 2000 * t + 500 + 8 * i + 3) (n := 4000 + 12000 * t + 3500 + 48 * i + 18) (by omega) (by omega) ?_
              exact K_11 _ (if_neg c_45) z_10 H locs hP hD hS ls (lv_sub hl [1, 2, 3, 4, 5, 6, 7, 8, 9, 10, 11, 12, 13, 14, 15, 16, 17, 18, 0] rfl)
            · refine lv_iconst (v := (1 : Int32)) hx hb dL_law_1078 (by decide) ?_
              refine lv_goto (tgt := 1083) hx hb dL_law_1079 (by decide) ?_
              refine W.widen (k := 400 + 2000 * t + 500 + 8 * i + 3) (n := 4000 + 12000 * t + 3500 + 48 * i + 18) (by omega) (by omega) ?_
              exact K_11 _ (if_pos c_45) z_10 H locs hP hD hS ls (lv_sub hl [1, 2, 3, 4, 5, 6, 7, 8, 9, 10, 11, 12, 13, 14, 15, 16, 17, 18, 0] rfl)
          refine lv_icmp_ne (tgt := 1050) hx hb dL_law_1037 (by decide) (fun c_46 => ?_) (fun c_46 => ?_)
          · refine lv_aload hx hb dL_law_1050 (lv_at hl 6 rfl) ?_
            refine lv_iload hx hb dL_law_1052 (lv_at hl 15 rfl) ?_
            refine va_aldA hx hb hKJ hP 20 1 rfl rfl (vp_in_nI (n := i) hi (by omega)) (x := r i) (by rw [nI_clamp (n := i) (by omega)]; exact if_pos hi) dL_law_1054 ?_
            refine lv_iconst (v := (1 : Int32)) hx hb dL_law_1055 (by decide) ?_
            refine xr_rld hx hb hK1 hP (n := n) (r := r) (i := i) hi (w9 := 1) (R' := fc b i 1) (by decide) (vinN (by decide) (by decide)) (hG i hi 1 (by decide)) dL_law_1056 ?_
            refine W.widen (k := 400 + 2000 * t + 500 + 8 * i + 2) (n := 4000 + 12000 * t + 3500 + 48 * i + 12) (by omega) (by omega) ?_
            exact K_8 _ (if_neg c_46) z_7 H locs hP hD hS ls (lv_sub hl [1, 2, 3, 4, 5, 6, 7, 8, 9, 10, 11, 12, 13, 14, 15, 16, 17, 0] rfl)
          · refine lv_aload hx hb dL_law_1040 (lv_at hl 6 rfl) ?_
            refine lv_iload hx hb dL_law_1042 (lv_at hl 15 rfl) ?_
            refine va_aldA hx hb hKJ hP 20 1 rfl rfl (vp_in_nI (n := i) hi (by omega)) (x := r i) (by rw [nI_clamp (n := i) (by omega)]; exact if_pos hi) dL_law_1044 ?_
            refine lv_iconst (v := (5 : Int32)) hx hb dL_law_1045 (by decide) ?_
            refine xr_rld hx hb hK1 hP (n := n) (r := r) (i := i) hi (w9 := 5) (R' := fc b i 5) (by decide) (vinN (by decide) (by decide)) (hG i hi 5 (by decide)) dL_law_1046 ?_
            refine lv_goto (tgt := 1057) hx hb dL_law_1047 (by decide) ?_
            refine W.widen (k := 400 + 2000 * t + 500 + 8 * i + 2) (n := 4000 + 12000 * t + 3500 + 48 * i + 12) (by omega) (by omega) ?_
            exact K_8 _ (if_pos c_46) z_7 H locs hP hD hS ls (lv_sub hl [1, 2, 3, 4, 5, 6, 7, 8, 9, 10, 11, 12, 13, 14, 15, 16, 17, 0] rfl)
        refine lv_icmp_eq (tgt := 1026) hx hb dL_law_1011 (by decide) (fun c_47 => ?_) (fun c_47 => ?_)
        · refine lv_iconst (v := (1 : Int32)) hx hb dL_law_1026 (by decide) ?_
          refine lv_goto (tgt := 1031) hx hb dL_law_1027 (by decide) ?_
          refine W.widen (k := 400 + 2000 * t + 500 + 8 * i + 2) (n := 4000 + 12000 * t + 3500 + 48 * i + 12) (by omega) (by omega) ?_
          exact K_6 _ (gsA c_47).symm z_5 H locs hP hD hS ls (lv_sub hl [1, 2, 3, 4, 5, 6, 7, 8, 9, 10, 11, 12, 13, 0, 14, 15, 16] rfl)
        · refine lv_iload hx hb dL_law_1014 (lv_at hl 13 rfl) ?_
          refine lv_if_eq (tgt := 1030) hx hb dL_law_1016 (by decide) (fun c_48 => ?_) (fun c_48 => ?_)
          · refine lv_iconst (v := (0 : Int32)) hx hb dL_law_1030 (by decide) ?_
            refine W.widen (k := 400 + 2000 * t + 500 + 8 * i + 2) (n := 4000 + 12000 * t + 3500 + 48 * i + 12) (by omega) (by omega) ?_
            exact K_6 _ (gsB c_47 c_48).symm z_5 H locs hP hD hS ls (lv_sub hl [1, 2, 3, 4, 5, 6, 7, 8, 9, 10, 11, 12, 13, 0, 14, 15, 16] rfl)
          · refine lv_iload hx hb dL_law_1019 (lv_at hl 14 rfl) ?_
            refine lv_iload hx hb dL_law_1021 (lv_at hl 9 rfl) ?_
            refine lv_icmp_ne (tgt := 1030) hx hb dL_law_1023 (by decide) (fun c_49 => ?_) (fun c_49 => ?_)
            · refine lv_iconst (v := (0 : Int32)) hx hb dL_law_1030 (by decide) ?_
              refine W.widen (k := 400 + 2000 * t + 500 + 8 * i + 2) (n := 4000 + 12000 * t + 3500 + 48 * i + 12) (by omega) (by omega) ?_
              exact K_6 _ (gsD c_47 c_48 enx c_49).symm z_5 H locs hP hD hS ls (lv_sub hl [1, 2, 3, 4, 5, 6, 7, 8, 9, 10, 11, 12, 13, 0, 14, 15, 16] rfl)
            · refine lv_iconst (v := (1 : Int32)) hx hb dL_law_1026 (by decide) ?_
              refine lv_goto (tgt := 1031) hx hb dL_law_1027 (by decide) ?_
              refine W.widen (k := 400 + 2000 * t + 500 + 8 * i + 2) (n := 4000 + 12000 * t + 3500 + 48 * i + 12) (by omega) (by omega) ?_
              exact K_6 _ (gsC c_47 c_48 enx c_49).symm z_5 H locs hP hD hS ls (lv_sub hl [1, 2, 3, 4, 5, 6, 7, 8, 9, 10, 11, 12, 13, 0, 14, 15, 16] rfl)
      refine lv_icmp_ne (tgt := 1003) hx hb dL_law_996 (by decide) (fun c_50 => ?_) (fun c_50 => ?_)
      · refine lv_iconst (v := (0 : Int32)) hx hb dL_law_1003 (by decide) ?_
        refine W.widen (k := 400 + 2000 * t + 500 + 8 * i + 2) (n := 4000 + 12000 * t + 3500 + 48 * i + 12) (by omega) (by omega) ?_
        exact K_4 _ (if_neg c_50) z_3 H locs hP hD hS ls (lv_sub hl [16, 15, 14, 13, 12, 11, 10, 9, 8, 7, 6, 5, 4, 3, 2, 1, 0] rfl)
      · refine lv_iconst (v := (1 : Int32)) hx hb dL_law_999 (by decide) ?_
        refine lv_goto (tgt := 1004) hx hb dL_law_1000 (by decide) ?_
        refine W.widen (k := 400 + 2000 * t + 500 + 8 * i + 2) (n := 4000 + 12000 * t + 3500 + 48 * i + 12) (by omega) (by omega) ?_
        exact K_4 _ (if_pos c_50) z_3 H locs hP hD hS ls (lv_sub hl [16, 15, 14, 13, 12, 11, 10, 9, 8, 7, 6, 5, 4, 3, 2, 1, 0] rfl)

set_option maxHeartbeats 2000000 in
set_option maxRecDepth 100000 in
theorem lw_E (l : Launch) (hlt : l.stackTraces = false) {p : Program} {e : Env} {s : State} {m : MethodId} {below : List Frame} {meth : Method} {c : Code} {D : va_G} {I : ClassId} {h ac : Nat} {qb qt : Nat → Nat} {b0 L : Nat} {sc : Nat → Int32} {Q : State → Prop} (hL : L ≤ 260) (C0 : lwC p s m c b0 L sc D I) {t : Nat} (ht : t < 60) {cf : Nat → Int32} {n : Nat} {b' : XBr} (hI1 : Iv n b') (hm1 : (b'.1 0).toInt ≤ 3201 + (t : Int)) {z : XBr} (K : ∀ (z : XBr), ∀ (H : Heap) (locs : List Loc), va_P D vwCl (WX I h qb qt (b') z ++ [cA I ac 8 cf]) H → va_D (fun q : Nat => s.heap.size ≤ q) (WX I h qb qt (b') z ++ [cA I ac 8 cf]) → va_S (fun q : Nat => s.heap.size ≤ q) s.heap H locs → ∀ ls, lv_has ls 33 [(3, .int (nI t)), (2, .ref ac), (1, .ref h), (0, .ref b0)] → W p l e room_1 s m #[Value.ref b0] below meth c H locs (400 + 2000 * t + 860) (4000 + 12000 * t + 5700) Q (F0 m 1345 ls [])) : ∀ (H : Heap) (locs : List Loc), va_P D vwCl (WX I h qb qt (b') z ++ [cA I ac 8 cf]) H → va_D (fun q : Nat => s.heap.size ≤ q) (WX I h qb qt (b') z ++ [cA I ac 8 cf]) → va_S (fun q : Nat => s.heap.size ≤ q) s.heap H locs → ∀ ls, lv_has ls 33 [(27, .int (cn1 b' n)), (5, .int (nI n)), (3, .int (nI t)), (2, .ref ac), (1, .ref h), (0, .ref b0)] → W p l e room_1 s m #[Value.ref b0] below meth c H locs (400 + 2000 * t + 840) (4000 + 12000 * t + 5500) Q (F0 m 1294 ls []) := by
  obtain ⟨hx, hb, hml, hown, hts, hX, hbl, hK1, hN, hXX, hover⟩ := C0
  have hA : ∀ q : Nat, s.heap.size ≤ q → (fun q : Nat => s.heap.size ≤ q) q := fun _ h => h
  have hbA : ¬ (fun q : Nat => s.heap.size ≤ q) b0 := Nat.not_le.mpr hbl
  have n40 := hI1.1.1
  intro H locs hP hD hS ls hl
  refine lv_iload hx hb dL_law_1294 (lv_at hl 0 rfl) ?_
  refine lv_iconst (v := (1 : Int32)) hx hb dL_law_1296 (by decide) ?_
  refine lv_icmp_gt (tgt := 1343) hx hb dL_law_1297 (by decide) (fun c_1 => ?_) (fun c_1 => ?_)
  · exact absurd c_1 (cn1_f hI1).1
  · refine lv_iload hx hb dL_law_1300 (lv_at hl 0 rfl) ?_
    refine lv_aload_n hx hb dL_law_1302 rfl (lv_at hl 4 rfl) ?_
    refine lv_bipush (v := (10 : Int32)) hx hb dL_law_1303 (by decide) ?_
    refine xr_calliE (wc := WX I h qb qt (b') z) (Rv := ((b').1 6)) hP hD hS hA (va_runV (As := [.int (10 : Int32)]) (rest := [.int (cn1 b' n)]) ⟨hx, hb, hml, hown, hts⟩ (met_of_xMX (c_X2_count l hlt D I h qb qt H.size (b') z (10 : Int32) ) (cx10 (b')) (nm1 _) (ct10 (b'))) (cwV 1 hts gL_law_X2_count rfl rfl rfl (by decide +kernel) ⟨Nat.le_of_ble_eq_true rfl, Nat.le_of_ble_eq_true rfl⟩) (xr_preVX (wc := WX I h qb qt (b') z) (ci := 2) hN hXX hS hA hP hK1 hD rfl rfl) rfl rfl hl.1 rfl (lv_room (Nat.le_of_ble_eq_true rfl)) dL_law_1305 ⟨by show _ ≤ 600172; omega, by show _ ≤ 7300668; omega⟩) (fun z_2 H locs hP hD hS => ?_)
    have hP : va_P D vwCl (WX I h qb qt (b') z_2 ++ [cA I ac 8 cf]) H := hP
    have hD : va_D (fun q : Nat => s.heap.size ≤ q) (WX I h qb qt (b') z_2 ++ [cA I ac 8 cf]) := hD
    refine lv_if_lt (tgt := 1315) hx hb dL_law_1308 (by decide) (fun c_3 => ?_) (fun c_3 => ?_)
    · refine lv_iconst (v := (0 : Int32)) hx hb dL_law_1315 (by decide) ?_
      refine lv_icmp_ne (tgt := 1343) hx hb dL_law_1316 (by decide) (fun c_4 => ?_) (fun c_4 => ?_)
      · exact absurd ((cn1_f hI1).2.trans (if_pos c_3)) c_4
      · refine lv_iload hx hb dL_law_1319 (lv_at hl 1 rfl) ?_
        refine lv_if_le (tgt := 1345) hx hb dL_law_1321 (by decide) (fun c_5 => ?_) (fun c_5 => ?_)
        · refine W.widen (k := 400 + 2000 * t + 860) (n := 4000 + 12000 * t + 5700) (by omega) (by omega) ?_
          exact K z_2 H locs hP hD hS ls (lv_sub hl [2, 3, 4, 5] rfl)
        · have hn0 : 0 < n := pos_le c_5
          refine lv_aload_n hx hb dL_law_1324 rfl (lv_at hl 4 rfl) ?_
          refine xr_calldR (wc := WX I h qb qt (b') z_2) (mean_f hI1 hn0).1 hP hD hS hA (va_runV (As := []) (rest := []) ⟨hx, hb, hml, hown, hts⟩ (c_X2_mean l D I h qb qt H.size (b') z_2  ) (cwV 0 hts gL_law_X2_mean rfl rfl rfl (by decide +kernel) ⟨Nat.le_of_ble_eq_true rfl, Nat.le_of_ble_eq_true rfl⟩) (xr_preV (wc := WX I h qb qt (b') z_2) (ci := 2) hN hP hK1 hD rfl rfl) rfl rfl hl.1 rfl (lv_room (Nat.le_of_ble_eq_true rfl)) dL_law_1325 ⟨by show _ ≤ 600172; omega, by show _ ≤ 7300668; omega⟩) (fun H locs hP hD hS => ?_)
          have hP : va_P D vwCl (WX I h qb qt (b') z_2 ++ [cA I ac 8 cf]) H := hP
          have hD : va_D (fun q : Nat => s.heap.size ≤ q) (WX I h qb qt (b') z_2 ++ [cA I ac 8 cf]) := hD
          refine lv_aload_n hx hb dL_law_1328 rfl (lv_at hl 4 rfl) ?_
          refine lv_bipush (v := (9 : Int32)) hx hb dL_law_1329 (by decide) ?_
          refine xr_calliE (wc := WX I h qb qt (b') z_2) (Rv := ((b').1 5)) hP hD hS hA (va_runV (As := [.int (9 : Int32)]) (rest := [.double (FP.ddiv (FP.i2d ((b').1 5)) (FP.i2d (nI n)))]) ⟨hx, hb, hml, hown, hts⟩ (met_of_xMX (c_X2_count l hlt D I h qb qt H.size (b') z_2 (9 : Int32) ) (cx9 (b')) (nm1 _) (ct9 (b'))) (cwV 1 hts gL_law_X2_count rfl rfl rfl (by decide +kernel) ⟨Nat.le_of_ble_eq_true rfl, Nat.le_of_ble_eq_true rfl⟩) (xr_preVX (wc := WX I h qb qt (b') z_2) (ci := 2) hN hXX hS hA hP hK1 hD rfl rfl) rfl rfl hl.1 rfl (lv_room (Nat.le_of_ble_eq_true rfl)) dL_law_1331 ⟨by show _ ≤ 600172; omega, by show _ ≤ 7300668; omega⟩) (fun z_7 H locs hP hD hS => ?_)
          have hP : va_P D vwCl (WX I h qb qt (b') z_7 ++ [cA I ac 8 cf]) H := hP
          have hD : va_D (fun q : Nat => s.heap.size ≤ q) (WX I h qb qt (b') z_7 ++ [cA I ac 8 cf]) := hD
          refine lv_i2d hx hb dL_law_1334 ?_
          refine lv_iload hx hb dL_law_1335 (lv_at hl 1 rfl) ?_
          refine lv_i2d hx hb dL_law_1337 ?_
          refine lv_ddiv hx hb dL_law_1338 (mean_f hI1 hn0).2 ?_
          refine lv_dcmp hx hb dL_law_1339 ?_
          refine lv_if_eq (tgt := 1345) hx hb dL_law_1340 (by decide) (fun c_8 => ?_) (fun c_8 => ?_)
          · refine W.widen (k := 400 + 2000 * t + 860) (n := 4000 + 12000 * t + 5700) (by omega) (by omega) ?_
            exact K z_7 H locs hP hD hS ls (lv_sub hl [2, 3, 4, 5] rfl)
          · exact absurd (mean_self (mean_f hI1 hn0).2) c_8
    · refine lv_iconst (v := (1 : Int32)) hx hb dL_law_1311 (by decide) ?_
      refine lv_goto (tgt := 1316) hx hb dL_law_1312 (by decide) ?_
      refine lv_icmp_ne (tgt := 1343) hx hb dL_law_1316 (by decide) (fun c_9 => ?_) (fun c_9 => ?_)
      · exact absurd ((cn1_f hI1).2.trans (if_neg c_3)) c_9
      · refine lv_iload hx hb dL_law_1319 (lv_at hl 1 rfl) ?_
        refine lv_if_le (tgt := 1345) hx hb dL_law_1321 (by decide) (fun c_10 => ?_) (fun c_10 => ?_)
        · refine W.widen (k := 400 + 2000 * t + 860) (n := 4000 + 12000 * t + 5700) (by omega) (by omega) ?_
          exact K z_2 H locs hP hD hS ls (lv_sub hl [2, 3, 4, 5] rfl)
        · have hn0 : 0 < n := pos_le c_10
          refine lv_aload_n hx hb dL_law_1324 rfl (lv_at hl 4 rfl) ?_
          refine xr_calldR (wc := WX I h qb qt (b') z_2) (mean_f hI1 hn0).1 hP hD hS hA (va_runV (As := []) (rest := []) ⟨hx, hb, hml, hown, hts⟩ (c_X2_mean l D I h qb qt H.size (b') z_2  ) (cwV 0 hts gL_law_X2_mean rfl rfl rfl (by decide +kernel) ⟨Nat.le_of_ble_eq_true rfl, Nat.le_of_ble_eq_true rfl⟩) (xr_preV (wc := WX I h qb qt (b') z_2) (ci := 2) hN hP hK1 hD rfl rfl) rfl rfl hl.1 rfl (lv_room (Nat.le_of_ble_eq_true rfl)) dL_law_1325 ⟨by show _ ≤ 600172; omega, by show _ ≤ 7300668; omega⟩) (fun H locs hP hD hS => ?_)
          have hP : va_P D vwCl (WX I h qb qt (b') z_2 ++ [cA I ac 8 cf]) H := hP
          have hD : va_D (fun q : Nat => s.heap.size ≤ q) (WX I h qb qt (b') z_2 ++ [cA I ac 8 cf]) := hD
          refine lv_aload_n hx hb dL_law_1328 rfl (lv_at hl 4 rfl) ?_
          refine lv_bipush (v := (9 : Int32)) hx hb dL_law_1329 (by decide) ?_
          refine xr_calliE (wc := WX I h qb qt (b') z_2) (Rv := ((b').1 5)) hP hD hS hA (va_runV (As := [.int (9 : Int32)]) (rest := [.double (FP.ddiv (FP.i2d ((b').1 5)) (FP.i2d (nI n)))]) ⟨hx, hb, hml, hown, hts⟩ (met_of_xMX (c_X2_count l hlt D I h qb qt H.size (b') z_2 (9 : Int32) ) (cx9 (b')) (nm1 _) (ct9 (b'))) (cwV 1 hts gL_law_X2_count rfl rfl rfl (by decide +kernel) ⟨Nat.le_of_ble_eq_true rfl, Nat.le_of_ble_eq_true rfl⟩) (xr_preVX (wc := WX I h qb qt (b') z_2) (ci := 2) hN hXX hS hA hP hK1 hD rfl rfl) rfl rfl hl.1 rfl (lv_room (Nat.le_of_ble_eq_true rfl)) dL_law_1331 ⟨by show _ ≤ 600172; omega, by show _ ≤ 7300668; omega⟩) (fun z_12 H locs hP hD hS => ?_)
          have hP : va_P D vwCl (WX I h qb qt (b') z_12 ++ [cA I ac 8 cf]) H := hP
          have hD : va_D (fun q : Nat => s.heap.size ≤ q) (WX I h qb qt (b') z_12 ++ [cA I ac 8 cf]) := hD
          refine lv_i2d hx hb dL_law_1334 ?_
          refine lv_iload hx hb dL_law_1335 (lv_at hl 1 rfl) ?_
          refine lv_i2d hx hb dL_law_1337 ?_
          refine lv_ddiv hx hb dL_law_1338 (mean_f hI1 hn0).2 ?_
          refine lv_dcmp hx hb dL_law_1339 ?_
          refine lv_if_eq (tgt := 1345) hx hb dL_law_1340 (by decide) (fun c_13 => ?_) (fun c_13 => ?_)
          · refine W.widen (k := 400 + 2000 * t + 860) (n := 4000 + 12000 * t + 5700) (by omega) (by omega) ?_
            exact K z_12 H locs hP hD hS ls (lv_sub hl [2, 3, 4, 5] rfl)
          · exact absurd (mean_self (mean_f hI1 hn0).2) c_13
