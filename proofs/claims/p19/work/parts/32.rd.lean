set_option maxHeartbeats 4000000 in
set_option maxRecDepth 100000 in
theorem lw_A (l : Launch) (hlt : l.stackTraces = false) {p : Program} {e : Env} {s : State} {m : MethodId} {below : List Frame} {meth : Method} {c : Code} {D : va_G} {I : ClassId} {h ac : Nat} {qb qt : Nat → Nat} {b0 L : Nat} {sc : Nat → Int32} {Q : State → Prop} (hL : L ≤ 260) (C0 : lwC p s m c b0 L sc D I) {t : Nat} (ht : t < 60) {cf : Nat → Int32} {n : Nat} {b : XBr} {v : Int32} (hI : Iv n b) (hm : (b.1 0).toInt ≤ 3200 + (t : Int)) {aw : Nat} {r : Nat → Nat} {J : ClassId} {G : Nat → Nat → Int32} (hKJ : va_K D vwCl [(I, .int), (J, .array .int)] s) (hG : ∀ i, i < n → ∀ x, x < 7 → G (r i) x = fc b i x) {z : XBr} (K : ∀ (ax : Nat) (z : XBr) (nx kv wv : Int32) (tf : Nat → Int32), nx = r_X0_servedNext b → (0 < n → ∃ j, j < n ∧ kv = nI j ∧ wv = r_X2_when b (nI j)) → (∀ w, w < 4 → tf w = fo b w) → ∀ (H : Heap) (locs : List Loc), va_P D vwCl (WX I h qb qt b z ++ ([cA I ac 8 cf, cW J aw n r, cA I ax 4 tf] ++ rW I n r G)) H → va_D (fun q : Nat => s.heap.size ≤ q) (WX I h qb qt b z ++ ([cA I ac 8 cf, cW J aw n r, cA I ax 4 tf] ++ rW I n r G)) → va_S (fun q : Nat => s.heap.size ≤ q) s.heap H locs → ∀ ls, lv_has ls 33 [(19, .int wv), (18, .int kv), (17, .ref ax), (15, .long (r_X2_digest b)), (14, .int (r_X2_speed b (0 : Int32))), (13, .int (r_X2_speed b (1 : Int32))), (12, .int nx), (11, .int (b.1 6)), (10, .int (b.1 5)), (9, .int (b.1 3)), (8, .int (b.1 1)), (7, .int (b.1 0)), (6, .ref aw), (5, .int (nI n)), (4, .int v), (3, .int (nI t)), (2, .ref ac), (1, .ref h), (0, .ref b0)] → W p l e room_1 s m #[Value.ref b0] below meth c H locs (400 + 2000 * t + 440) (4000 + 12000 * t + 2900) Q (F0 m 521 ls [])) : ∀ (H : Heap) (locs : List Loc), va_P D vwCl (WX I h qb qt b z ++ ([cA I ac 8 cf, cW J aw n r] ++ rW I n r G)) H → va_D (fun q : Nat => s.heap.size ≤ q) (WX I h qb qt b z ++ ([cA I ac 8 cf, cW J aw n r] ++ rW I n r G)) → va_S (fun q : Nat => s.heap.size ≤ q) s.heap H locs → ∀ ls, lv_has ls 33 [(6, .ref aw), (5, .int (nI n)), (4, .int v), (3, .int (nI t)), (2, .ref ac), (1, .ref h), (0, .ref b0)] → W p l e room_1 s m #[Value.ref b0] below meth c H locs (400 + 2000 * t + 400) (4000 + 12000 * t + 2500) Q (F0 m 387 ls []) := by
  obtain ⟨hx, hb, hml, hown, hts, hX, hbl, hK1, hN, hXX, hover⟩ := C0
  have hA : ∀ q : Nat, s.heap.size ≤ q → (fun q : Nat => s.heap.size ≤ q) q := fun _ h => h
  have hbA : ¬ (fun q : Nat => s.heap.size ≤ q) b0 := Nat.not_le.mpr hbl
  have n40 := hI.1.1
  intro H locs hP hD hS ls hl
  refine lv_aload_n hx hb dL_law_387 rfl (lv_at hl 5 rfl) ?_
  refine lv_iconst (v := (0 : Int32)) hx hb dL_law_388 (by decide) ?_
  refine xr_calliE (wc := WX I h qb qt b z) (Rv := (b.1 0)) hP hD hS hA (va_runV (As := [.int (0 : Int32)]) (rest := []) ⟨hx, hb, hml, hown, hts⟩ (met_of_xMX (c_X2_count l hlt D I h qb qt H.size b z (0 : Int32) ) (cx0 b) (nm1 _) (ct0 b)) (cwV 1 hts gL_law_X2_count rfl rfl rfl (by decide +kernel) ⟨Nat.le_of_ble_eq_true rfl, Nat.le_of_ble_eq_true rfl⟩) (xr_preVX (wc := WX I h qb qt b z) (ci := 2) hN hXX hS hA hP hK1 hD rfl rfl) rfl rfl hl.1 rfl (lv_room (Nat.le_of_ble_eq_true rfl)) dL_law_389 ⟨by show _ ≤ 600172; omega, by show _ ≤ 7300668; omega⟩) (fun z_1 H locs hP hD hS => ?_)
  have hP : va_P D vwCl (WX I h qb qt b z_1 ++ ([cA I ac 8 cf, cW J aw n r] ++ rW I n r G)) H := hP
  have hD : va_D (fun q : Nat => s.heap.size ≤ q) (WX I h qb qt b z_1 ++ ([cA I ac 8 cf, cW J aw n r] ++ rW I n r G)) := hD
  refine lv_istore (lv' := [(7, .int (b.1 0)), (6, .ref aw), (5, .int (nI n)), (4, .int v), (3, .int (nI t)), (2, .ref ac), (1, .ref h), (0, .ref b0)]) hx hb dL_law_392 hl (by decide) rfl (fun ls hl => ?_)
  refine lv_aload_n hx hb dL_law_394 rfl (lv_at hl 6 rfl) ?_
  refine lv_iconst (v := (1 : Int32)) hx hb dL_law_395 (by decide) ?_
  refine xr_calliE (wc := WX I h qb qt b z_1) (Rv := (b.1 1)) hP hD hS hA (va_runV (As := [.int (1 : Int32)]) (rest := []) ⟨hx, hb, hml, hown, hts⟩ (met_of_xMX (c_X2_count l hlt D I h qb qt H.size b z_1 (1 : Int32) ) (cx1 b) (nm1 _) (ct1 b)) (cwV 1 hts gL_law_X2_count rfl rfl rfl (by decide +kernel) ⟨Nat.le_of_ble_eq_true rfl, Nat.le_of_ble_eq_true rfl⟩) (xr_preVX (wc := WX I h qb qt b z_1) (ci := 2) hN hXX hS hA hP hK1 hD rfl rfl) rfl rfl hl.1 rfl (lv_room (Nat.le_of_ble_eq_true rfl)) dL_law_396 ⟨by show _ ≤ 600172; omega, by show _ ≤ 7300668; omega⟩) (fun z_2 H locs hP hD hS => ?_)
  have hP : va_P D vwCl (WX I h qb qt b z_2 ++ ([cA I ac 8 cf, cW J aw n r] ++ rW I n r G)) H := hP
  have hD : va_D (fun q : Nat => s.heap.size ≤ q) (WX I h qb qt b z_2 ++ ([cA I ac 8 cf, cW J aw n r] ++ rW I n r G)) := hD
  refine lv_istore (lv' := [(8, .int (b.1 1)), (7, .int (b.1 0)), (6, .ref aw), (5, .int (nI n)), (4, .int v), (3, .int (nI t)), (2, .ref ac), (1, .ref h), (0, .ref b0)]) hx hb dL_law_399 hl (by decide) rfl (fun ls hl => ?_)
  refine lv_aload_n hx hb dL_law_401 rfl (lv_at hl 7 rfl) ?_
  refine lv_iconst (v := (3 : Int32)) hx hb dL_law_402 (by decide) ?_
  refine xr_calliE (wc := WX I h qb qt b z_2) (Rv := (b.1 3)) hP hD hS hA (va_runV (As := [.int (3 : Int32)]) (rest := []) ⟨hx, hb, hml, hown, hts⟩ (met_of_xMX (c_X2_count l hlt D I h qb qt H.size b z_2 (3 : Int32) ) (cx3 b) (nm1 _) (ct3 b)) (cwV 1 hts gL_law_X2_count rfl rfl rfl (by decide +kernel) ⟨Nat.le_of_ble_eq_true rfl, Nat.le_of_ble_eq_true rfl⟩) (xr_preVX (wc := WX I h qb qt b z_2) (ci := 2) hN hXX hS hA hP hK1 hD rfl rfl) rfl rfl hl.1 rfl (lv_room (Nat.le_of_ble_eq_true rfl)) dL_law_403 ⟨by show _ ≤ 600172; omega, by show _ ≤ 7300668; omega⟩) (fun z_3 H locs hP hD hS => ?_)
  have hP : va_P D vwCl (WX I h qb qt b z_3 ++ ([cA I ac 8 cf, cW J aw n r] ++ rW I n r G)) H := hP
  have hD : va_D (fun q : Nat => s.heap.size ≤ q) (WX I h qb qt b z_3 ++ ([cA I ac 8 cf, cW J aw n r] ++ rW I n r G)) := hD
  refine lv_istore (lv' := [(9, .int (b.1 3)), (8, .int (b.1 1)), (7, .int (b.1 0)), (6, .ref aw), (5, .int (nI n)), (4, .int v), (3, .int (nI t)), (2, .ref ac), (1, .ref h), (0, .ref b0)]) hx hb dL_law_406 hl (by decide) rfl (fun ls hl => ?_)
  refine lv_aload_n hx hb dL_law_408 rfl (lv_at hl 8 rfl) ?_
  refine lv_bipush (v := (9 : Int32)) hx hb dL_law_409 (by decide) ?_
  refine xr_calliE (wc := WX I h qb qt b z_3) (Rv := (b.1 5)) hP hD hS hA (va_runV (As := [.int (9 : Int32)]) (rest := []) ⟨hx, hb, hml, hown, hts⟩ (met_of_xMX (c_X2_count l hlt D I h qb qt H.size b z_3 (9 : Int32) ) (cx9 b) (nm1 _) (ct9 b)) (cwV 1 hts gL_law_X2_count rfl rfl rfl (by decide +kernel) ⟨Nat.le_of_ble_eq_true rfl, Nat.le_of_ble_eq_true rfl⟩) (xr_preVX (wc := WX I h qb qt b z_3) (ci := 2) hN hXX hS hA hP hK1 hD rfl rfl) rfl rfl hl.1 rfl (lv_room (Nat.le_of_ble_eq_true rfl)) dL_law_411 ⟨by show _ ≤ 600172; omega, by show _ ≤ 7300668; omega⟩) (fun z_4 H locs hP hD hS => ?_)
  have hP : va_P D vwCl (WX I h qb qt b z_4 ++ ([cA I ac 8 cf, cW J aw n r] ++ rW I n r G)) H := hP
  have hD : va_D (fun q : Nat => s.heap.size ≤ q) (WX I h qb qt b z_4 ++ ([cA I ac 8 cf, cW J aw n r] ++ rW I n r G)) := hD
  refine lv_istore (lv' := [(10, .int (b.1 5)), (9, .int (b.1 3)), (8, .int (b.1 1)), (7, .int (b.1 0)), (6, .ref aw), (5, .int (nI n)), (4, .int v), (3, .int (nI t)), (2, .ref ac), (1, .ref h), (0, .ref b0)]) hx hb dL_law_414 hl (by decide) rfl (fun ls hl => ?_)
  refine lv_aload_n hx hb dL_law_416 rfl (lv_at hl 9 rfl) ?_
  refine lv_bipush (v := (10 : Int32)) hx hb dL_law_417 (by decide) ?_
  refine xr_calliE (wc := WX I h qb qt b z_4) (Rv := (b.1 6)) hP hD hS hA (va_runV (As := [.int (10 : Int32)]) (rest := []) ⟨hx, hb, hml, hown, hts⟩ (met_of_xMX (c_X2_count l hlt D I h qb qt H.size b z_4 (10 : Int32) ) (cx10 b) (nm1 _) (ct10 b)) (cwV 1 hts gL_law_X2_count rfl rfl rfl (by decide +kernel) ⟨Nat.le_of_ble_eq_true rfl, Nat.le_of_ble_eq_true rfl⟩) (xr_preVX (wc := WX I h qb qt b z_4) (ci := 2) hN hXX hS hA hP hK1 hD rfl rfl) rfl rfl hl.1 rfl (lv_room (Nat.le_of_ble_eq_true rfl)) dL_law_419 ⟨by show _ ≤ 600172; omega, by show _ ≤ 7300668; omega⟩) (fun z_5 H locs hP hD hS => ?_)
  have hP : va_P D vwCl (WX I h qb qt b z_5 ++ ([cA I ac 8 cf, cW J aw n r] ++ rW I n r G)) H := hP
  have hD : va_D (fun q : Nat => s.heap.size ≤ q) (WX I h qb qt b z_5 ++ ([cA I ac 8 cf, cW J aw n r] ++ rW I n r G)) := hD
  refine lv_istore (lv' := [(11, .int (b.1 6)), (10, .int (b.1 5)), (9, .int (b.1 3)), (8, .int (b.1 1)), (7, .int (b.1 0)), (6, .ref aw), (5, .int (nI n)), (4, .int v), (3, .int (nI t)), (2, .ref ac), (1, .ref h), (0, .ref b0)]) hx hb dL_law_422 hl (by decide) rfl (fun ls hl => ?_)
  refine lv_aload_n hx hb dL_law_424 rfl (lv_at hl 10 rfl) ?_
  refine lv_bipush (v := (11 : Int32)) hx hb dL_law_425 (by decide) ?_
  refine xr_calliE (wc := WX I h qb qt b z_5) (Rv := (r_X0_servedNext b)) hP hD hS hA (va_runV (As := [.int (11 : Int32)]) (rest := []) ⟨hx, hb, hml, hown, hts⟩ (met_of_xMX (c_X2_count l hlt D I h qb qt H.size b z_5 (11 : Int32) ) (cx11 b) (nm1 _) (ct11 b)) (cwV 1 hts gL_law_X2_count rfl rfl rfl (by decide +kernel) ⟨Nat.le_of_ble_eq_true rfl, Nat.le_of_ble_eq_true rfl⟩) (xr_preVX (wc := WX I h qb qt b z_5) (ci := 2) hN hXX hS hA hP hK1 hD rfl rfl) rfl rfl hl.1 rfl (lv_room (Nat.le_of_ble_eq_true rfl)) dL_law_427 ⟨by show _ ≤ 600172; omega, by show _ ≤ 7300668; omega⟩) (fun z_6 H locs hP hD hS => ?_)
  have hP : va_P D vwCl (WX I h qb qt b z_6 ++ ([cA I ac 8 cf, cW J aw n r] ++ rW I n r G)) H := hP
  have hD : va_D (fun q : Nat => s.heap.size ≤ q) (WX I h qb qt b z_6 ++ ([cA I ac 8 cf, cW J aw n r] ++ rW I n r G)) := hD
  refine lv_topi (fun v_7 ev_7 => ?_)
  refine lv_istore (lv' := [(12, .int v_7), (11, .int (b.1 6)), (10, .int (b.1 5)), (9, .int (b.1 3)), (8, .int (b.1 1)), (7, .int (b.1 0)), (6, .ref aw), (5, .int (nI n)), (4, .int v), (3, .int (nI t)), (2, .ref ac), (1, .ref h), (0, .ref b0)]) hx hb dL_law_430 hl (by decide) rfl (fun ls hl => ?_)
  refine lv_aload_n hx hb dL_law_432 rfl (lv_at hl 11 rfl) ?_
  refine lv_iconst (v := (1 : Int32)) hx hb dL_law_433 (by decide) ?_
  refine xr_calli (wc := WX I h qb qt b z_6) rfl hP hD hS hA (va_runV (As := [.int (1 : Int32)]) (rest := []) ⟨hx, hb, hml, hown, hts⟩ (c_X2_speed l D I h qb qt H.size b z_6 (1 : Int32) ) (cwV 1 hts gL_law_X2_speed rfl rfl rfl (by decide +kernel) ⟨Nat.le_of_ble_eq_true rfl, Nat.le_of_ble_eq_true rfl⟩) (xr_preV (wc := WX I h qb qt b z_6) (ci := 2) hN hP hK1 hD rfl rfl) rfl rfl hl.1 rfl (lv_room (Nat.le_of_ble_eq_true rfl)) dL_law_434 ⟨by show _ ≤ 600172; omega, by show _ ≤ 7300668; omega⟩) (fun H locs hP hD hS => ?_)
  have hP : va_P D vwCl (WX I h qb qt b z_6 ++ ([cA I ac 8 cf, cW J aw n r] ++ rW I n r G)) H := hP
  have hD : va_D (fun q : Nat => s.heap.size ≤ q) (WX I h qb qt b z_6 ++ ([cA I ac 8 cf, cW J aw n r] ++ rW I n r G)) := hD
  refine lv_istore (lv' := [(13, .int (r_X2_speed b (1 : Int32))), (12, .int v_7), (11, .int (b.1 6)), (10, .int (b.1 5)), (9, .int (b.1 3)), (8, .int (b.1 1)), (7, .int (b.1 0)), (6, .ref aw), (5, .int (nI n)), (4, .int v), (3, .int (nI t)), (2, .ref ac), (1, .ref h), (0, .ref b0)]) hx hb dL_law_437 hl (by decide) rfl (fun ls hl => ?_)
  refine lv_aload_n hx hb dL_law_439 rfl (lv_at hl 12 rfl) ?_
  refine lv_iconst (v := (0 : Int32)) hx hb dL_law_440 (by decide) ?_
  refine xr_calli (wc := WX I h qb qt b z_6) rfl hP hD hS hA (va_runV (As := [.int (0 : Int32)]) (rest := []) ⟨hx, hb, hml, hown, hts⟩ (c_X2_speed l D I h qb qt H.size b z_6 (0 : Int32) ) (cwV 1 hts gL_law_X2_speed rfl rfl rfl (by decide +kernel) ⟨Nat.le_of_ble_eq_true rfl, Nat.le_of_ble_eq_true rfl⟩) (xr_preV (wc := WX I h qb qt b z_6) (ci := 2) hN hP hK1 hD rfl rfl) rfl rfl hl.1 rfl (lv_room (Nat.le_of_ble_eq_true rfl)) dL_law_441 ⟨by show _ ≤ 600172; omega, by show _ ≤ 7300668; omega⟩) (fun H locs hP hD hS => ?_)
  have hP : va_P D vwCl (WX I h qb qt b z_6 ++ ([cA I ac 8 cf, cW J aw n r] ++ rW I n r G)) H := hP
  have hD : va_D (fun q : Nat => s.heap.size ≤ q) (WX I h qb qt b z_6 ++ ([cA I ac 8 cf, cW J aw n r] ++ rW I n r G)) := hD
  refine lv_istore (lv' := [(14, .int (r_X2_speed b (0 : Int32))), (13, .int (r_X2_speed b (1 : Int32))), (12, .int v_7), (11, .int (b.1 6)), (10, .int (b.1 5)), (9, .int (b.1 3)), (8, .int (b.1 1)), (7, .int (b.1 0)), (6, .ref aw), (5, .int (nI n)), (4, .int v), (3, .int (nI t)), (2, .ref ac), (1, .ref h), (0, .ref b0)]) hx hb dL_law_444 hl (by decide) rfl (fun ls hl => ?_)
  refine lv_aload_n hx hb dL_law_446 rfl (lv_at hl 13 rfl) ?_
  refine xr_calll (wc := WX I h qb qt b z_6) hP hD hS hA (va_runV (As := []) (rest := []) ⟨hx, hb, hml, hown, hts⟩ (c_X2_digest l D I h qb qt H.size b z_6  hI.nB) (cwV 0 hts gL_law_X2_digest rfl rfl rfl (by decide +kernel) ⟨Nat.le_of_ble_eq_true rfl, Nat.le_of_ble_eq_true rfl⟩) (xr_preV (wc := WX I h qb qt b z_6) (ci := 2) hN hP hK1 hD rfl rfl) rfl rfl hl.1 rfl (lv_room (Nat.le_of_ble_eq_true rfl)) dL_law_447 ⟨by show _ ≤ 600172; omega, by show _ ≤ 7300668; omega⟩) (fun H locs hP hD hS => ?_)
  have hP : va_P D vwCl (WX I h qb qt b z_6 ++ ([cA I ac 8 cf, cW J aw n r] ++ rW I n r G)) H := hP
  have hD : va_D (fun q : Nat => s.heap.size ≤ q) (WX I h qb qt b z_6 ++ ([cA I ac 8 cf, cW J aw n r] ++ rW I n r G)) := hD
  refine lv_lstore (lv' := [(15, .long (r_X2_digest b)), (14, .int (r_X2_speed b (0 : Int32))), (13, .int (r_X2_speed b (1 : Int32))), (12, .int v_7), (11, .int (b.1 6)), (10, .int (b.1 5)), (9, .int (b.1 3)), (8, .int (b.1 1)), (7, .int (b.1 0)), (6, .ref aw), (5, .int (nI n)), (4, .int v), (3, .int (nI t)), (2, .ref ac), (1, .ref h), (0, .ref b0)]) hx hb dL_law_450 hl (by decide) rfl (fun ls hl => ?_)
  refine lv_iconst (v := (4 : Int32)) hx hb dL_law_452 (by decide) ?_
  refine va_newa (atype := .int) (ty := .int) (a0 := (4, .inl (fun _ => 0))) hx hb (hts (.arrayClass .int) (by decide +kernel)) rfl hK1 hP hD hS hA (fun _ => rfl) (by decide) (by decide) (by decide) (by show _ ≤ 600172; omega) (by show _ ≤ 7300668; omega) dL_law_453 (fun ax cN H hK9 hP hD hS => ?_)
  have eN : cN = I := xk_cA hK9
  rw [eN] at hP hD
  have hP := xw_ins hP
  have hD := xw_insD hD
  have hP : va_P D vwCl (WX I h qb qt b z_6 ++ ([cA I ac 8 cf, cW J aw n r, cA I ax 4 (fun _ => 0)] ++ rW I n r G)) H := hP
  have hD : va_D (fun q : Nat => s.heap.size ≤ q) (WX I h qb qt b z_6 ++ ([cA I ac 8 cf, cW J aw n r, cA I ax 4 (fun _ => 0)] ++ rW I n r G)) := hD
  refine lv_astore (lv' := [(17, .ref ax), (15, .long (r_X2_digest b)), (14, .int (r_X2_speed b (0 : Int32))), (13, .int (r_X2_speed b (1 : Int32))), (12, .int v_7), (11, .int (b.1 6)), (10, .int (b.1 5)), (9, .int (b.1 3)), (8, .int (b.1 1)), (7, .int (b.1 0)), (6, .ref aw), (5, .int (nI n)), (4, .int v), (3, .int (nI t)), (2, .ref ac), (1, .ref h), (0, .ref b0)]) hx hb dL_law_455 hl (by decide) rfl (fun ls hl => ?_)
  refine lv_iconst (v := (0 : Int32)) hx hb dL_law_457 (by decide) ?_
  refine lv_istore (lv' := [(18, .int (0 : Int32)), (17, .ref ax), (15, .long (r_X2_digest b)), (14, .int (r_X2_speed b (0 : Int32))), (13, .int (r_X2_speed b (1 : Int32))), (12, .int v_7), (11, .int (b.1 6)), (10, .int (b.1 5)), (9, .int (b.1 3)), (8, .int (b.1 1)), (7, .int (b.1 0)), (6, .ref aw), (5, .int (nI n)), (4, .int v), (3, .int (nI t)), (2, .ref ac), (1, .ref h), (0, .ref b0)]) hx hb dL_law_458 hl (by decide) rfl (fun ls hl => ?_)
  refine lv_iload hx hb dL_law_460 (lv_at hl 0 rfl) ?_
  refine lv_iconst (v := (4 : Int32)) hx hb dL_law_462 (by decide) ?_
  refine lv_icmp_ge (tgt := 484) hx hb dL_law_463 (by decide) (fun c_11 => ?_) (fun c_11 => ?_)
  · exact absurd c_11 (by decide)
  · refine lv_aload hx hb dL_law_466 (lv_at hl 1 rfl) ?_
    refine lv_iload hx hb dL_law_468 (lv_at hl 0 rfl) ?_
    refine lv_aload_n hx hb dL_law_470 rfl (lv_at hl 16 rfl) ?_
    refine lv_iconst (v := (1 : Int32)) hx hb dL_law_471 (by decide) ?_
    refine lv_iload hx hb dL_law_472 (lv_at hl 0 rfl) ?_
    refine xr_calliE (wc := WX I h qb qt b z_6) (Rv := (fo b 0)) hP hD hS hA (va_runV (As := [.int (1 : Int32), .int (0 : Int32)]) (rest := [.int (0 : Int32), .ref ax]) ⟨hx, hb, hml, hown, hts⟩ (met_of_xMX (c_X2_foresee l hlt D I h qb qt H.size b z_6 (1 : Int32) (0 : Int32) hI.nB hI.m0 (by omega) hI.z) (fo_e b (w := 0) (by decide)).1 (nm2 _ _) (fo_e b (w := 0) (by decide)).2) (cwV 2 hts gL_law_X2_foresee rfl rfl rfl (by decide +kernel) ⟨Nat.le_of_ble_eq_true rfl, Nat.le_of_ble_eq_true rfl⟩) (xr_preVX (wc := WX I h qb qt b z_6) (ci := 2) hN hXX hS hA hP hK1 hD rfl rfl) rfl rfl hl.1 rfl (lv_room (Nat.le_of_ble_eq_true rfl)) dL_law_474 ⟨by show _ ≤ 600172; omega, by show _ ≤ 7300668; omega⟩) (fun z_12 H locs hP hD hS => ?_)
    have hP : va_P D vwCl (WX I h qb qt b z_12 ++ ([cA I ac 8 cf, cW J aw n r, cA I ax 4 (fun _ => 0)] ++ rW I n r G)) H := hP
    have hD : va_D (fun q : Nat => s.heap.size ≤ q) (WX I h qb qt b z_12 ++ ([cA I ac 8 cf, cW J aw n r, cA I ax 4 (fun _ => 0)] ++ rW I n r G)) := hD
    refine va_iast (f := (fun _ => 0)) hx hb hK1 hP hD hS 21 0 rfl rfl (vinN (by decide) (by decide)) dL_law_477 (fun H locs hP hD hS => ?_)
    rw [show ((0 : Int32)).toNatClampNeg = 0 from by decide] at hP hD
    have hP : va_P D vwCl (WX I h qb qt b z_12 ++ ([cA I ac 8 cf, cW J aw n r, cA I ax 4 (upd (fun _ => 0) 0 (fo b 0))] ++ rW I n r G)) H := hP
    have hD : va_D (fun q : Nat => s.heap.size ≤ q) (WX I h qb qt b z_12 ++ ([cA I ac 8 cf, cW J aw n r, cA I ax 4 (upd (fun _ => 0) 0 (fo b 0))] ++ rW I n r G)) := hD
    refine lv_iinc (v := (1 : Int32)) (lv' := [(18, .int (1 : Int32)), (17, .ref ax), (15, .long (r_X2_digest b)), (14, .int (r_X2_speed b (0 : Int32))), (13, .int (r_X2_speed b (1 : Int32))), (12, .int v_7), (11, .int (b.1 6)), (10, .int (b.1 5)), (9, .int (b.1 3)), (8, .int (b.1 1)), (7, .int (b.1 0)), (6, .ref aw), (5, .int (nI n)), (4, .int v), (3, .int (nI t)), (2, .ref ac), (1, .ref h), (0, .ref b0)]) hx hb dL_law_478 hl (k := 0) rfl (by first | rfl | decide) (by decide) rfl (fun ls hl => ?_)
    refine lv_goto (tgt := 460) hx hb dL_law_481 (by decide) ?_
    refine lv_iload hx hb dL_law_460 (lv_at hl 0 rfl) ?_
    refine lv_iconst (v := (4 : Int32)) hx hb dL_law_462 (by decide) ?_
    refine lv_icmp_ge (tgt := 484) hx hb dL_law_463 (by decide) (fun c_13 => ?_) (fun c_13 => ?_)
    · exact absurd c_13 (by decide)
    · refine lv_aload hx hb dL_law_466 (lv_at hl 1 rfl) ?_
      refine lv_iload hx hb dL_law_468 (lv_at hl 0 rfl) ?_
      refine lv_aload_n hx hb dL_law_470 rfl (lv_at hl 16 rfl) ?_
      refine lv_iconst (v := (1 : Int32)) hx hb dL_law_471 (by decide) ?_
      refine lv_iload hx hb dL_law_472 (lv_at hl 0 rfl) ?_
      refine xr_calliE (wc := WX I h qb qt b z_12) (Rv := (fo b 1)) hP hD hS hA (va_runV (As := [.int (1 : Int32), .int (1 : Int32)]) (rest := [.int (1 : Int32), .ref ax]) ⟨hx, hb, hml, hown, hts⟩ (met_of_xMX (c_X2_foresee l hlt D I h qb qt H.size b z_12 (1 : Int32) (1 : Int32) hI.nB hI.m0 (by omega) hI.z) (fo_e b (w := 1) (by decide)).1 (nm2 _ _) (fo_e b (w := 1) (by decide)).2) (cwV 2 hts gL_law_X2_foresee rfl rfl rfl (by decide +kernel) ⟨Nat.le_of_ble_eq_true rfl, Nat.le_of_ble_eq_true rfl⟩) (xr_preVX (wc := WX I h qb qt b z_12) (ci := 2) hN hXX hS hA hP hK1 hD rfl rfl) rfl rfl hl.1 rfl (lv_room (Nat.le_of_ble_eq_true rfl)) dL_law_474 ⟨by show _ ≤ 600172; omega, by show _ ≤ 7300668; omega⟩) (fun z_14 H locs hP hD hS => ?_)
      have hP : va_P D vwCl (WX I h qb qt b z_14 ++ ([cA I ac 8 cf, cW J aw n r, cA I ax 4 (upd (fun _ => 0) 0 (fo b 0))] ++ rW I n r G)) H := hP
      have hD : va_D (fun q : Nat => s.heap.size ≤ q) (WX I h qb qt b z_14 ++ ([cA I ac 8 cf, cW J aw n r, cA I ax 4 (upd (fun _ => 0) 0 (fo b 0))] ++ rW I n r G)) := hD
      refine va_iast (f := (upd (fun _ => 0) 0 (fo b 0))) hx hb hK1 hP hD hS 21 0 rfl rfl (vinN (by decide) (by decide)) dL_law_477 (fun H locs hP hD hS => ?_)
      rw [show ((1 : Int32)).toNatClampNeg = 1 from by decide] at hP hD
      have hP : va_P D vwCl (WX I h qb qt b z_14 ++ ([cA I ac 8 cf, cW J aw n r, cA I ax 4 (upd (upd (fun _ => 0) 0 (fo b 0)) 1 (fo b 1))] ++ rW I n r G)) H := hP
      have hD : va_D (fun q : Nat => s.heap.size ≤ q) (WX I h qb qt b z_14 ++ ([cA I ac 8 cf, cW J aw n r, cA I ax 4 (upd (upd (fun _ => 0) 0 (fo b 0)) 1 (fo b 1))] ++ rW I n r G)) := hD
      refine lv_iinc (v := (2 : Int32)) (lv' := [(18, .int (2 : Int32)), (17, .ref ax), (15, .long (r_X2_digest b)), (14, .int (r_X2_speed b (0 : Int32))), (13, .int (r_X2_speed b (1 : Int32))), (12, .int v_7), (11, .int (b.1 6)), (10, .int (b.1 5)), (9, .int (b.1 3)), (8, .int (b.1 1)), (7, .int (b.1 0)), (6, .ref aw), (5, .int (nI n)), (4, .int v), (3, .int (nI t)), (2, .ref ac), (1, .ref h), (0, .ref b0)]) hx hb dL_law_478 hl (k := 0) rfl (by first | rfl | decide) (by decide) rfl (fun ls hl => ?_)
      refine lv_goto (tgt := 460) hx hb dL_law_481 (by decide) ?_
      refine lv_iload hx hb dL_law_460 (lv_at hl 0 rfl) ?_
      refine lv_iconst (v := (4 : Int32)) hx hb dL_law_462 (by decide) ?_
      refine lv_icmp_ge (tgt := 484) hx hb dL_law_463 (by decide) (fun c_15 => ?_) (fun c_15 => ?_)
      · exact absurd c_15 (by decide)
      · refine lv_aload hx hb dL_law_466 (lv_at hl 1 rfl) ?_
        refine lv_iload hx hb dL_law_468 (lv_at hl 0 rfl) ?_
        refine lv_aload_n hx hb dL_law_470 rfl (lv_at hl 16 rfl) ?_
        refine lv_iconst (v := (1 : Int32)) hx hb dL_law_471 (by decide) ?_
        refine lv_iload hx hb dL_law_472 (lv_at hl 0 rfl) ?_
        refine xr_calliE (wc := WX I h qb qt b z_14) (Rv := (fo b 2)) hP hD hS hA (va_runV (As := [.int (1 : Int32), .int (2 : Int32)]) (rest := [.int (2 : Int32), .ref ax]) ⟨hx, hb, hml, hown, hts⟩ (met_of_xMX (c_X2_foresee l hlt D I h qb qt H.size b z_14 (1 : Int32) (2 : Int32) hI.nB hI.m0 (by omega) hI.z) (fo_e b (w := 2) (by decide)).1 (nm2 _ _) (fo_e b (w := 2) (by decide)).2) (cwV 2 hts gL_law_X2_foresee rfl rfl rfl (by decide +kernel) ⟨Nat.le_of_ble_eq_true rfl, Nat.le_of_ble_eq_true rfl⟩) (xr_preVX (wc := WX I h qb qt b z_14) (ci := 2) hN hXX hS hA hP hK1 hD rfl rfl) rfl rfl hl.1 rfl (lv_room (Nat.le_of_ble_eq_true rfl)) dL_law_474 ⟨by show _ ≤ 600172; omega, by show _ ≤ 7300668; omega⟩) (fun z_16 H locs hP hD hS => ?_)
        have hP : va_P D vwCl (WX I h qb qt b z_16 ++ ([cA I ac 8 cf, cW J aw n r, cA I ax 4 (upd (upd (fun _ => 0) 0 (fo b 0)) 1 (fo b 1))] ++ rW I n r G)) H := hP
        have hD : va_D (fun q : Nat => s.heap.size ≤ q) (WX I h qb qt b z_16 ++ ([cA I ac 8 cf, cW J aw n r, cA I ax 4 (upd (upd (fun _ => 0) 0 (fo b 0)) 1 (fo b 1))] ++ rW I n r G)) := hD
        refine va_iast (f := (upd (upd (fun _ => 0) 0 (fo b 0)) 1 (fo b 1))) hx hb hK1 hP hD hS 21 0 rfl rfl (vinN (by decide) (by decide)) dL_law_477 (fun H locs hP hD hS => ?_)
        rw [show ((2 : Int32)).toNatClampNeg = 2 from by decide] at hP hD
        have hP : va_P D vwCl (WX I h qb qt b z_16 ++ ([cA I ac 8 cf, cW J aw n r, cA I ax 4 (upd (upd (upd (fun _ => 0) 0 (fo b 0)) 1 (fo b 1)) 2 (fo b 2))] ++ rW I n r G)) H := hP
        have hD : va_D (fun q : Nat => s.heap.size ≤ q) (WX I h qb qt b z_16 ++ ([cA I ac 8 cf, cW J aw n r, cA I ax 4 (upd (upd (upd (fun _ => 0) 0 (fo b 0)) 1 (fo b 1)) 2 (fo b 2))] ++ rW I n r G)) := hD
        refine lv_iinc (v := (3 : Int32)) (lv' := [(18, .int (3 : Int32)), (17, .ref ax), (15, .long (r_X2_digest b)), (14, .int (r_X2_speed b (0 : Int32))), (13, .int (r_X2_speed b (1 : Int32))), (12, .int v_7), (11, .int (b.1 6)), (10, .int (b.1 5)), (9, .int (b.1 3)), (8, .int (b.1 1)), (7, .int (b.1 0)), (6, .ref aw), (5, .int (nI n)), (4, .int v), (3, .int (nI t)), (2, .ref ac), (1, .ref h), (0, .ref b0)]) hx hb dL_law_478 hl (k := 0) rfl (by first | rfl | decide) (by decide) rfl (fun ls hl => ?_)
        refine lv_goto (tgt := 460) hx hb dL_law_481 (by decide) ?_
        refine lv_iload hx hb dL_law_460 (lv_at hl 0 rfl) ?_
        refine lv_iconst (v := (4 : Int32)) hx hb dL_law_462 (by decide) ?_
        refine lv_icmp_ge (tgt := 484) hx hb dL_law_463 (by decide) (fun c_17 => ?_) (fun c_17 => ?_)
        · exact absurd c_17 (by decide)
        · refine lv_aload hx hb dL_law_466 (lv_at hl 1 rfl) ?_
          refine lv_iload hx hb dL_law_468 (lv_at hl 0 rfl) ?_
          refine lv_aload_n hx hb dL_law_470 rfl (lv_at hl 16 rfl) ?_
          refine lv_iconst (v := (1 : Int32)) hx hb dL_law_471 (by decide) ?_
          refine lv_iload hx hb dL_law_472 (lv_at hl 0 rfl) ?_
          refine xr_calliE (wc := WX I h qb qt b z_16) (Rv := (fo b 3)) hP hD hS hA (va_runV (As := [.int (1 : Int32), .int (3 : Int32)]) (rest := [.int (3 : Int32), .ref ax]) ⟨hx, hb, hml, hown, hts⟩ (met_of_xMX (c_X2_foresee l hlt D I h qb qt H.size b z_16 (1 : Int32) (3 : Int32) hI.nB hI.m0 (by omega) hI.z) (fo_e b (w := 3) (by decide)).1 (nm2 _ _) (fo_e b (w := 3) (by decide)).2) (cwV 2 hts gL_law_X2_foresee rfl rfl rfl (by decide +kernel) ⟨Nat.le_of_ble_eq_true rfl, Nat.le_of_ble_eq_true rfl⟩) (xr_preVX (wc := WX I h qb qt b z_16) (ci := 2) hN hXX hS hA hP hK1 hD rfl rfl) rfl rfl hl.1 rfl (lv_room (Nat.le_of_ble_eq_true rfl)) dL_law_474 ⟨by show _ ≤ 600172; omega, by show _ ≤ 7300668; omega⟩) (fun z_18 H locs hP hD hS => ?_)
          have hP : va_P D vwCl (WX I h qb qt b z_18 ++ ([cA I ac 8 cf, cW J aw n r, cA I ax 4 (upd (upd (upd (fun _ => 0) 0 (fo b 0)) 1 (fo b 1)) 2 (fo b 2))] ++ rW I n r G)) H := hP
          have hD : va_D (fun q : Nat => s.heap.size ≤ q) (WX I h qb qt b z_18 ++ ([cA I ac 8 cf, cW J aw n r, cA I ax 4 (upd (upd (upd (fun _ => 0) 0 (fo b 0)) 1 (fo b 1)) 2 (fo b 2))] ++ rW I n r G)) := hD
          refine va_iast (f := (upd (upd (upd (fun _ => 0) 0 (fo b 0)) 1 (fo b 1)) 2 (fo b 2))) hx hb hK1 hP hD hS 21 0 rfl rfl (vinN (by decide) (by decide)) dL_law_477 (fun H locs hP hD hS => ?_)
          rw [show ((3 : Int32)).toNatClampNeg = 3 from by decide] at hP hD
          have hP : va_P D vwCl (WX I h qb qt b z_18 ++ ([cA I ac 8 cf, cW J aw n r, cA I ax 4 (upd (upd (upd (upd (fun _ => 0) 0 (fo b 0)) 1 (fo b 1)) 2 (fo b 2)) 3 (fo b 3))] ++ rW I n r G)) H := hP
          have hD : va_D (fun q : Nat => s.heap.size ≤ q) (WX I h qb qt b z_18 ++ ([cA I ac 8 cf, cW J aw n r, cA I ax 4 (upd (upd (upd (upd (fun _ => 0) 0 (fo b 0)) 1 (fo b 1)) 2 (fo b 2)) 3 (fo b 3))] ++ rW I n r G)) := hD
          refine lv_iinc (v := (4 : Int32)) (lv' := [(18, .int (4 : Int32)), (17, .ref ax), (15, .long (r_X2_digest b)), (14, .int (r_X2_speed b (0 : Int32))), (13, .int (r_X2_speed b (1 : Int32))), (12, .int v_7), (11, .int (b.1 6)), (10, .int (b.1 5)), (9, .int (b.1 3)), (8, .int (b.1 1)), (7, .int (b.1 0)), (6, .ref aw), (5, .int (nI n)), (4, .int v), (3, .int (nI t)), (2, .ref ac), (1, .ref h), (0, .ref b0)]) hx hb dL_law_478 hl (k := 0) rfl (by first | rfl | decide) (by decide) rfl (fun ls hl => ?_)
          refine lv_goto (tgt := 460) hx hb dL_law_481 (by decide) ?_
          refine lv_iload hx hb dL_law_460 (lv_at hl 0 rfl) ?_
          refine lv_iconst (v := (4 : Int32)) hx hb dL_law_462 (by decide) ?_
          refine lv_icmp_ge (tgt := 484) hx hb dL_law_463 (by decide) (fun c_19 => ?_) (fun c_19 => ?_)
          · refine lv_iload hx hb dL_law_484 (lv_at hl 12 rfl) ?_
            refine lv_if_ne (tgt := 493) hx hb dL_law_486 (by decide) (fun c_20 => ?_) (fun c_20 => ?_)
            · have hn0 : 0 < n := pos_nI c_20
              refine lv_iload hx hb dL_law_493 (lv_at hl 13 rfl) ?_
              refine lv_iconst (v := (3 : Int32)) hx hb dL_law_495 (by decide) ?_
              refine lv_ishr hx hb dL_law_496 ?_
              refine lv_topi (fun v_21 ev_21 => ?_)
              refine lv_iload hx hb dL_law_497 (lv_at hl 12 rfl) ?_
              obtain ⟨j_22, hj_22, ej_22⟩ := below_nI v_21 (nI n) n rfl hn0 (by omega)
              refine xr_call0 ej_22 hP hD hS hA (va_runS (As := [.int v_21, .int (nI n)]) (rest := []) ⟨hx, hb, hml, hown, hts⟩ (c_L_below l D I H.size v_21 (nI n) (nI_ne0 hn0 (by omega))) (va_cwS 2 hts gL_law_L_below rfl rfl rfl (by decide +kernel) ⟨Nat.le_of_ble_eq_true rfl, Nat.le_of_ble_eq_true rfl⟩) (xr_pre0 hN hK1) rfl rfl hl.1 rfl (lv_room (Nat.le_of_ble_eq_true rfl)) dL_law_499 ⟨by show _ ≤ 600172; omega, by show _ ≤ 7300668; omega⟩) (fun H locs hP hD hS => ?_)
              refine lv_istore (lv' := [(18, .int (nI j_22)), (17, .ref ax), (15, .long (r_X2_digest b)), (14, .int (r_X2_speed b (0 : Int32))), (13, .int (r_X2_speed b (1 : Int32))), (12, .int v_7), (11, .int (b.1 6)), (10, .int (b.1 5)), (9, .int (b.1 3)), (8, .int (b.1 1)), (7, .int (b.1 0)), (6, .ref aw), (5, .int (nI n)), (4, .int v), (3, .int (nI t)), (2, .ref ac), (1, .ref h), (0, .ref b0)]) hx hb dL_law_502 hl (by decide) rfl (fun ls hl => ?_)
              refine lv_iload hx hb dL_law_504 (lv_at hl 12 rfl) ?_
              refine lv_if_ne (tgt := 513) hx hb dL_law_506 (by decide) (fun c_23 => ?_) (fun c_23 => ?_)
              · refine lv_aload_n hx hb dL_law_513 rfl (lv_at hl 16 rfl) ?_
                refine lv_iload hx hb dL_law_514 (lv_at hl 0 rfl) ?_
                refine xr_calliE (wc := WX I h qb qt b z_18) (Rv := (r_X2_when b (nI j_22))) hP hD hS hA (va_runV (As := [.int (nI j_22)]) (rest := []) ⟨hx, hb, hml, hown, hts⟩ (met_of_xMX (c_X2_when l hlt D I h qb qt H.size b z_18 (nI j_22) hI.nB hI.m0 (by omega) hI.z) (when_f hI hj_22 (by omega)).1 (nm1 _) rfl) (cwV 1 hts gL_law_X2_when rfl rfl rfl (by decide +kernel) ⟨Nat.le_of_ble_eq_true rfl, Nat.le_of_ble_eq_true rfl⟩) (xr_preVX (wc := WX I h qb qt b z_18) (ci := 2) hN hXX hS hA hP hK1 hD rfl rfl) rfl rfl hl.1 rfl (lv_room (Nat.le_of_ble_eq_true rfl)) dL_law_516 ⟨by show _ ≤ 600172; omega, by show _ ≤ 7300668; omega⟩) (fun z_24 H locs hP hD hS => ?_)
                have hP : va_P D vwCl (WX I h qb qt b z_24 ++ ([cA I ac 8 cf, cW J aw n r, cA I ax 4 (upd (upd (upd (upd (fun _ => 0) 0 (fo b 0)) 1 (fo b 1)) 2 (fo b 2)) 3 (fo b 3))] ++ rW I n r G)) H := hP
                have hD : va_D (fun q : Nat => s.heap.size ≤ q) (WX I h qb qt b z_24 ++ ([cA I ac 8 cf, cW J aw n r, cA I ax 4 (upd (upd (upd (upd (fun _ => 0) 0 (fo b 0)) 1 (fo b 1)) 2 (fo b 2)) 3 (fo b 3))] ++ rW I n r G)) := hD
                refine lv_istore (lv' := [(19, .int (r_X2_when b (nI j_22))), (18, .int (nI j_22)), (17, .ref ax), (15, .long (r_X2_digest b)), (14, .int (r_X2_speed b (0 : Int32))), (13, .int (r_X2_speed b (1 : Int32))), (12, .int v_7), (11, .int (b.1 6)), (10, .int (b.1 5)), (9, .int (b.1 3)), (8, .int (b.1 1)), (7, .int (b.1 0)), (6, .ref aw), (5, .int (nI n)), (4, .int v), (3, .int (nI t)), (2, .ref ac), (1, .ref h), (0, .ref b0)]) hx hb dL_law_519 hl (by decide) rfl (fun ls hl => ?_)
                refine W.widen (k := 400 + 2000 * t + 440) (n := 4000 + 12000 * t + 2900) (by omega) (by omega) ?_
                exact K ax z_24 v_7 (nI j_22) (r_X2_when b (nI j_22)) (upd (upd (upd (upd (fun _ => 0) 0 (fo b 0)) 1 (fo b 1)) 2 (fo b 2)) 3 (fo b 3)) ev_7 (fun _ => ⟨j_22, hj_22, rfl, rfl⟩) (tf4 b) H locs hP hD hS ls (lv_sub hl [0, 1, 2, 3, 4, 5, 6, 7, 8, 9, 10, 11, 12, 13, 14, 15, 16, 17, 18] rfl)
              · exact absurd c_23 c_20
            · refine lv_iconst (v := (0 : Int32)) hx hb dL_law_489 (by decide) ?_
              refine lv_goto (tgt := 502) hx hb dL_law_490 (by decide) ?_
              refine lv_istore (lv' := [(18, .int (0 : Int32)), (17, .ref ax), (15, .long (r_X2_digest b)), (14, .int (r_X2_speed b (0 : Int32))), (13, .int (r_X2_speed b (1 : Int32))), (12, .int v_7), (11, .int (b.1 6)), (10, .int (b.1 5)), (9, .int (b.1 3)), (8, .int (b.1 1)), (7, .int (b.1 0)), (6, .ref aw), (5, .int (nI n)), (4, .int v), (3, .int (nI t)), (2, .ref ac), (1, .ref h), (0, .ref b0)]) hx hb dL_law_502 hl (by decide) rfl (fun ls hl => ?_)
              refine lv_iload hx hb dL_law_504 (lv_at hl 12 rfl) ?_
              refine lv_if_ne (tgt := 513) hx hb dL_law_506 (by decide) (fun c_25 => ?_) (fun c_25 => ?_)
              · exact absurd c_20 c_25
              · refine lv_iconst (v := (-1 : Int32)) hx hb dL_law_509 (by decide) ?_
                refine lv_goto (tgt := 519) hx hb dL_law_510 (by decide) ?_
                refine lv_istore (lv' := [(19, .int (-1 : Int32)), (18, .int (0 : Int32)), (17, .ref ax), (15, .long (r_X2_digest b)), (14, .int (r_X2_speed b (0 : Int32))), (13, .int (r_X2_speed b (1 : Int32))), (12, .int v_7), (11, .int (b.1 6)), (10, .int (b.1 5)), (9, .int (b.1 3)), (8, .int (b.1 1)), (7, .int (b.1 0)), (6, .ref aw), (5, .int (nI n)), (4, .int v), (3, .int (nI t)), (2, .ref ac), (1, .ref h), (0, .ref b0)]) hx hb dL_law_519 hl (by decide) rfl (fun ls hl => ?_)
                refine W.widen (k := 400 + 2000 * t + 440) (n := 4000 + 12000 * t + 2900) (by omega) (by omega) ?_
                exact K ax z_18 v_7 (0 : Int32) (-1 : Int32) (upd (upd (upd (upd (fun _ => 0) 0 (fo b 0)) 1 (fo b 1)) 2 (fo b 2)) 3 (fo b 3)) ev_7 (fun h9 => absurd (pos0_nI c_20) (by omega)) (tf4 b) H locs hP hD hS ls (lv_sub hl [0, 1, 2, 3, 4, 5, 6, 7, 8, 9, 10, 11, 12, 13, 14, 15, 16, 17, 18] rfl)
          · exact absurd c_19 (by decide)

set_option maxHeartbeats 4000000 in
set_option maxRecDepth 100000 in
theorem lw_B (l : Launch) (hlt : l.stackTraces = false) {p : Program} {e : Env} {s : State} {m : MethodId} {below : List Frame} {meth : Method} {c : Code} {D : va_G} {I : ClassId} {h ac : Nat} {qb qt : Nat → Nat} {b0 L : Nat} {sc : Nat → Int32} {Q : State → Prop} (hL : L ≤ 260) (C0 : lwC p s m c b0 L sc D I) {t : Nat} (ht : t < 60) {cf : Nat → Int32} {n : Nat} {b : XBr} {v : Int32} (hI : Iv n b) (hm : (b.1 0).toInt ≤ 3200 + (t : Int)) {aw : Nat} {r : Nat → Nat} {J : ClassId} {G : Nat → Nat → Int32} (hKJ : va_K D vwCl [(I, .int), (J, .array .int)] s) (hG : ∀ i, i < n → ∀ x, x < 7 → G (r i) x = fc b i x) {ax : Nat} {nx kv wv : Int32} {tf : Nat → Int32} (enx : nx = r_X0_servedNext b) (hkw : 0 < n → ∃ j, j < n ∧ kv = nI j ∧ wv = r_X2_when b (nI j)) (htf : ∀ w, w < 4 → tf w = fo b w) {z : XBr} (K : ∀ (z : XBr), ∀ (H : Heap) (locs : List Loc), va_P D vwCl (WX I h qb qt b z ++ ([cA I ac 8 cf, cW J aw n r, cA I ax 4 tf] ++ rW I n r G)) H → va_D (fun q : Nat => s.heap.size ≤ q) (WX I h qb qt b z ++ ([cA I ac 8 cf, cW J aw n r, cA I ax 4 tf] ++ rW I n r G)) → va_S (fun q : Nat => s.heap.size ≤ q) s.heap H locs → ∀ ls, lv_has ls 33 [(19, .int wv), (18, .int kv), (17, .ref ax), (14, .int (r_X2_speed b (0 : Int32))), (13, .int (r_X2_speed b (1 : Int32))), (12, .int nx), (11, .int (b.1 6)), (10, .int (b.1 5)), (9, .int (b.1 3)), (8, .int (b.1 1)), (7, .int (b.1 0)), (6, .ref aw), (5, .int (nI n)), (3, .int (nI t)), (2, .ref ac), (1, .ref h), (0, .ref b0)] → W p l e room_1 s m #[Value.ref b0] below meth c H locs (400 + 2000 * t + 460) (4000 + 12000 * t + 3100) Q (F0 m 713 ls [])) : ∀ (H : Heap) (locs : List Loc), va_P D vwCl (WX I h qb qt b z ++ ([cA I ac 8 cf, cW J aw n r, cA I ax 4 tf] ++ rW I n r G)) H → va_D (fun q : Nat => s.heap.size ≤ q) (WX I h qb qt b z ++ ([cA I ac 8 cf, cW J aw n r, cA I ax 4 tf] ++ rW I n r G)) → va_S (fun q : Nat => s.heap.size ≤ q) s.heap H locs → ∀ ls, lv_has ls 33 [(19, .int wv), (18, .int kv), (17, .ref ax), (15, .long (r_X2_digest b)), (14, .int (r_X2_speed b (0 : Int32))), (13, .int (r_X2_speed b (1 : Int32))), (12, .int nx), (11, .int (b.1 6)), (10, .int (b.1 5)), (9, .int (b.1 3)), (8, .int (b.1 1)), (7, .int (b.1 0)), (6, .ref aw), (5, .int (nI n)), (4, .int v), (3, .int (nI t)), (2, .ref ac), (1, .ref h), (0, .ref b0)] → W p l e room_1 s m #[Value.ref b0] below meth c H locs (400 + 2000 * t + 440) (4000 + 12000 * t + 2900) Q (F0 m 521 ls []) := by
  obtain ⟨hx, hb, hml, hown, hts, hX, hbl, hK1, hN, hXX, hover⟩ := C0
  have hA : ∀ q : Nat, s.heap.size ≤ q → (fun q : Nat => s.heap.size ≤ q) q := fun _ h => h
  have hbA : ¬ (fun q : Nat => s.heap.size ≤ q) b0 := Nat.not_le.mpr hbl
  have n40 := hI.1.1
  intro H locs hP hD hS ls hl
  refine lv_iload_n hx hb dL_law_521 rfl (lv_at hl 15 rfl) ?_
  refine lv_bipush (v := (6 : Int32)) hx hb dL_law_522 (by decide) ?_
  refine lv_irem hx hb dL_law_524 (by decide) ?_
  refine W.eq (congrArg (fun z => F0 m 525 ls (.int z :: [])) (rem_nI (k := t) (d := 6) (by decide) (by decide) (by omega))) ?_
  have K_1 : ∀ (v_c : Int32), (∃ j, j < 4 ∧ v_c = nI j) → ∀ (z_2 : XBr) (H : Heap) (locs : List Loc), va_P D vwCl (WX I h qb qt b z_2 ++ ([cA I ac 8 cf, cW J aw n r, cA I ax 4 tf] ++ rW I n r G)) H → va_D (fun q : Nat => s.heap.size ≤ q) (WX I h qb qt b z_2 ++ ([cA I ac 8 cf, cW J aw n r, cA I ax 4 tf] ++ rW I n r G)) → va_S (fun q : Nat => s.heap.size ≤ q) s.heap H locs → ∀ ls, lv_has ls 33 [(0, .ref b0), (1, .ref h), (2, .ref ac), (3, .int (nI t)), (4, .int v), (5, .int (nI n)), (6, .ref aw), (7, .int (b.1 0)), (8, .int (b.1 1)), (9, .int (b.1 3)), (10, .int (b.1 5)), (11, .int (b.1 6)), (12, .int nx), (13, .int (r_X2_speed b (1 : Int32))), (14, .int (r_X2_speed b (0 : Int32))), (15, .long (r_X2_digest b)), (17, .ref ax), (18, .int kv), (19, .int wv)] → W p l e room_1 s m #[Value.ref b0] below meth c H locs (400 + 2000 * t + 440 + 1) (4000 + 12000 * t + 2900 + 6) Q (F0 m 547 ls [.int v_c]) := by
    intro v_c hv_c z_2 H locs hP hD hS ls hl
    obtain ⟨j_c, hj_c, rfl⟩ := hv_c
    refine lv_istore (lv' := [(20, .int (nI j_c)), (0, .ref b0), (1, .ref h), (2, .ref ac), (3, .int (nI t)), (4, .int v), (5, .int (nI n)), (6, .ref aw), (7, .int (b.1 0)), (8, .int (b.1 1)), (9, .int (b.1 3)), (10, .int (b.1 5)), (11, .int (b.1 6)), (12, .int nx), (13, .int (r_X2_speed b (1 : Int32))), (14, .int (r_X2_speed b (0 : Int32))), (15, .long (r_X2_digest b)), (17, .ref ax), (18, .int kv), (19, .int wv)]) hx hb dL_law_547 hl (by decide) rfl (fun ls hl => ?_)
    refine lv_iload_n hx hb dL_law_549 rfl (lv_at hl 4 rfl) ?_
    refine lv_bipush (v := (12 : Int32)) hx hb dL_law_550 (by decide) ?_
    refine lv_irem hx hb dL_law_552 (by decide) ?_
    refine W.eq (congrArg (fun z => F0 m 553 ls (.int z :: [])) (rem_nI (k := t) (d := 12) (by decide) (by decide) (by omega))) ?_
    have K_3 : ∀ (v_p : Int32), (∃ j, j < 31 ∧ v_p = nI j) → ∀ (z_4 : XBr) (H : Heap) (locs : List Loc), va_P D vwCl (WX I h qb qt b z_4 ++ ([cA I ac 8 cf, cW J aw n r, cA I ax 4 tf] ++ rW I n r G)) H → va_D (fun q : Nat => s.heap.size ≤ q) (WX I h qb qt b z_4 ++ ([cA I ac 8 cf, cW J aw n r, cA I ax 4 tf] ++ rW I n r G)) → va_S (fun q : Nat => s.heap.size ≤ q) s.heap H locs → ∀ ls, lv_has ls 33 [(0, .ref b0), (1, .ref h), (2, .ref ac), (3, .int (nI t)), (4, .int v), (5, .int (nI n)), (6, .ref aw), (7, .int (b.1 0)), (8, .int (b.1 1)), (9, .int (b.1 3)), (10, .int (b.1 5)), (11, .int (b.1 6)), (12, .int nx), (13, .int (r_X2_speed b (1 : Int32))), (14, .int (r_X2_speed b (0 : Int32))), (15, .long (r_X2_digest b)), (17, .ref ax), (18, .int kv), (19, .int wv), (20, .int (nI j_c))] → W p l e room_1 s m #[Value.ref b0] below meth c H locs (400 + 2000 * t + 440 + 2) (4000 + 12000 * t + 2900 + 12) Q (F0 m 575 ls [.int v_p]) := by
      intro v_p hv_p z_4 H locs hP hD hS ls hl
      obtain ⟨j_p, hj_p, rfl⟩ := hv_p
      refine lv_istore (lv' := [(21, .int (nI j_p)), (0, .ref b0), (1, .ref h), (2, .ref ac), (3, .int (nI t)), (4, .int v), (5, .int (nI n)), (6, .ref aw), (7, .int (b.1 0)), (8, .int (b.1 1)), (9, .int (b.1 3)), (10, .int (b.1 5)), (11, .int (b.1 6)), (12, .int nx), (13, .int (r_X2_speed b (1 : Int32))), (14, .int (r_X2_speed b (0 : Int32))), (15, .long (r_X2_digest b)), (17, .ref ax), (18, .int kv), (19, .int wv), (20, .int (nI j_c))]) hx hb dL_law_575 hl (by decide) rfl (fun ls hl => ?_)
      refine lv_aload_n hx hb dL_law_577 rfl (lv_at hl 2 rfl) ?_
      refine xr_calll (wc := WX I h qb qt b z_4) hP hD hS hA (va_runV (As := []) (rest := []) ⟨hx, hb, hml, hown, hts⟩ (c_X2_digest l D I h qb qt H.size b z_4  hI.nB) (cwV 0 hts gL_law_X2_digest rfl rfl rfl (by decide +kernel) ⟨Nat.le_of_ble_eq_true rfl, Nat.le_of_ble_eq_true rfl⟩) (xr_preV (wc := WX I h qb qt b z_4) (ci := 2) hN hP hK1 hD rfl rfl) rfl rfl hl.1 rfl (lv_room (Nat.le_of_ble_eq_true rfl)) dL_law_578 ⟨by show _ ≤ 600172; omega, by show _ ≤ 7300668; omega⟩) (fun H locs hP hD hS => ?_)
      have hP : va_P D vwCl (WX I h qb qt b z_4 ++ ([cA I ac 8 cf, cW J aw n r, cA I ax 4 tf] ++ rW I n r G)) H := hP
      have hD : va_D (fun q : Nat => s.heap.size ≤ q) (WX I h qb qt b z_4 ++ ([cA I ac 8 cf, cW J aw n r, cA I ax 4 tf] ++ rW I n r G)) := hD
      refine lv_lload hx hb dL_law_581 (lv_at hl 16 rfl) ?_
      refine W.lcmp hx hb dL_law_583 ?_
      refine lv_if_ne (tgt := 711) hx hb dL_law_584 (by decide) (fun c_6 => ?_) (fun c_6 => ?_)
      · exact absurd (lg_self _) c_6
      · refine lv_iload hx hb dL_law_587 (lv_at hl 20 rfl) ?_
        refine lv_if_lt (tgt := 711) hx hb dL_law_589 (by decide) (fun c_7 => ?_) (fun c_7 => ?_)
        · exact absurd c_7 (nI_lt0 (by omega))
        · refine lv_iload hx hb dL_law_592 (lv_at hl 20 rfl) ?_
          refine lv_iconst (v := (3 : Int32)) hx hb dL_law_594 (by decide) ?_
          refine lv_icmp_gt (tgt := 711) hx hb dL_law_595 (by decide) (fun c_8 => ?_) (fun c_8 => ?_)
          · exact absurd c_8 (nI_gt (j := j_c) (a := 3) (by omega) (by decide))
          · refine lv_iload hx hb dL_law_598 (lv_at hl 0 rfl) ?_
            refine lv_if_lt (tgt := 711) hx hb dL_law_600 (by decide) (fun c_9 => ?_) (fun c_9 => ?_)
            · exact absurd c_9 (nI_lt0 (by omega))
            · refine lv_iload hx hb dL_law_603 (lv_at hl 0 rfl) ?_
              refine lv_bipush (v := (30 : Int32)) hx hb dL_law_605 (by decide) ?_
              refine lv_icmp_gt (tgt := 711) hx hb dL_law_607 (by decide) (fun c_10 => ?_) (fun c_10 => ?_)
              · exact absurd c_10 (nI_gt (j := j_p) (a := 30) (by omega) (by decide))
              · refine lv_iload hx hb dL_law_610 (lv_at hl 14 rfl) ?_
                refine lv_iconst (v := (1 : Int32)) hx hb dL_law_612 (by decide) ?_
                refine lv_icmp_lt (tgt := 711) hx hb dL_law_613 (by decide) (fun c_11 => ?_) (fun c_11 => ?_)
                · exact absurd c_11 (sp_f hI).1.1
                · refine lv_iload hx hb dL_law_616 (lv_at hl 14 rfl) ?_
                  refine lv_bipush (v := (6 : Int32)) hx hb dL_law_618 (by decide) ?_
                  refine lv_icmp_gt (tgt := 711) hx hb dL_law_620 (by decide) (fun c_12 => ?_) (fun c_12 => ?_)
                  · exact absurd c_12 (sp_f hI).1.2
                  · refine lv_iload hx hb dL_law_623 (lv_at hl 15 rfl) ?_
                    refine lv_iconst (v := (1 : Int32)) hx hb dL_law_625 (by decide) ?_
                    refine lv_icmp_lt (tgt := 711) hx hb dL_law_626 (by decide) (fun c_13 => ?_) (fun c_13 => ?_)
                    · exact absurd c_13 (sp_f hI).2.1.1
                    · refine lv_iload hx hb dL_law_629 (lv_at hl 15 rfl) ?_
                      refine lv_bipush (v := (6 : Int32)) hx hb dL_law_631 (by decide) ?_
                      refine lv_icmp_gt (tgt := 711) hx hb dL_law_633 (by decide) (fun c_14 => ?_) (fun c_14 => ?_)
                      · exact absurd c_14 (sp_f hI).2.1.2
                      · refine lv_iload hx hb dL_law_636 (lv_at hl 12 rfl) ?_
                        have K_15 : ∀ (z_16 : XBr) (H : Heap) (locs : List Loc), va_P D vwCl (WX I h qb qt b z_16 ++ ([cA I ac 8 cf, cW J aw n r, cA I ax 4 tf] ++ rW I n r G)) H → va_D (fun q : Nat => s.heap.size ≤ q) (WX I h qb qt b z_16 ++ ([cA I ac 8 cf, cW J aw n r, cA I ax 4 tf] ++ rW I n r G)) → va_S (fun q : Nat => s.heap.size ≤ q) s.heap H locs → ∀ ls, lv_has ls 33 [(0, .ref b0), (1, .ref h), (2, .ref ac), (3, .int (nI t)), (4, .int v), (5, .int (nI n)), (6, .ref aw), (7, .int (b.1 0)), (8, .int (b.1 1)), (9, .int (b.1 3)), (10, .int (b.1 5)), (11, .int (b.1 6)), (12, .int nx), (13, .int (r_X2_speed b (1 : Int32))), (14, .int (r_X2_speed b (0 : Int32))), (15, .long (r_X2_digest b)), (17, .ref ax), (18, .int kv), (19, .int wv), (20, .int (nI j_c)), (21, .int (nI j_p))] → W p l e room_1 s m #[Value.ref b0] below meth c H locs (400 + 2000 * t + 440 + 2) (4000 + 12000 * t + 2900 + 12) Q (F0 m 646 ls []) := by
                          intro  z_16 H locs hP hD hS ls hl
                          refine lv_iload hx hb dL_law_646 (lv_at hl 12 rfl) ?_
                          have K_17 : ∀ (z_18 : XBr) (H : Heap) (locs : List Loc), va_P D vwCl (WX I h qb qt b z_18 ++ ([cA I ac 8 cf, cW J aw n r, cA I ax 4 tf] ++ rW I n r G)) H → va_D (fun q : Nat => s.heap.size ≤ q) (WX I h qb qt b z_18 ++ ([cA I ac 8 cf, cW J aw n r, cA I ax 4 tf] ++ rW I n r G)) → va_S (fun q : Nat => s.heap.size ≤ q) s.heap H locs → ∀ ls, lv_has ls 33 [(0, .ref b0), (1, .ref h), (2, .ref ac), (3, .int (nI t)), (4, .int v), (5, .int (nI n)), (6, .ref aw), (7, .int (b.1 0)), (8, .int (b.1 1)), (9, .int (b.1 3)), (10, .int (b.1 5)), (11, .int (b.1 6)), (12, .int nx), (13, .int (r_X2_speed b (1 : Int32))), (14, .int (r_X2_speed b (0 : Int32))), (15, .long (r_X2_digest b)), (17, .ref ax), (18, .int kv), (19, .int wv), (20, .int (nI j_c)), (21, .int (nI j_p))] → W p l e room_1 s m #[Value.ref b0] below meth c H locs (400 + 2000 * t + 440 + 2) (4000 + 12000 * t + 2900 + 12) Q (F0 m 661 ls []) := by
                            intro  z_18 H locs hP hD hS ls hl
                            refine lv_iload hx hb dL_law_661 (lv_at hl 5 rfl) ?_
                            refine lv_if_le (tgt := 713) hx hb dL_law_663 (by decide) (fun c_19 => ?_) (fun c_19 => ?_)
                            · refine W.widen (k := 400 + 2000 * t + 460) (n := 4000 + 12000 * t + 3100) (by omega) (by omega) ?_
                              exact K z_18 H locs hP hD hS ls (lv_sub hl [18, 17, 16, 14, 13, 12, 11, 10, 9, 8, 7, 6, 5, 3, 2, 1, 0] rfl)
                            · have hn0 : 0 < n := pos_le c_19
                              obtain ⟨j_20, hj_20, rfl, rfl⟩ := hkw hn0
                              obtain ⟨-, hw1, hw2, -⟩ := when_f hI hj_20 (by omega)
                              refine lv_iload hx hb dL_law_666 (lv_at hl 18 rfl) ?_
                              refine lv_if_ne (tgt := 675) hx hb dL_law_668 (by decide) (fun c_21 => ?_) (fun c_21 => ?_)
                              · refine lv_iconst (v := (0 : Int32)) hx hb dL_law_675 (by decide) ?_
                                refine lv_aload hx hb dL_law_676 (lv_at hl 6 rfl) ?_
                                refine lv_iload hx hb dL_law_678 (lv_at hl 17 rfl) ?_
                                refine va_aldA hx hb hKJ hP 20 1 rfl rfl (vp_in_nI (n := j_20) hj_20 (by omega)) (x := r j_20) (by rw [nI_clamp (n := j_20) (by omega)]; exact if_pos hj_20) dL_law_680 ?_
                                refine lv_iconst (v := (2 : Int32)) hx hb dL_law_681 (by decide) ?_
                                refine xr_rld hx hb hK1 hP (n := n) (r := r) (i := j_20) hj_20 (w9 := 2) (R' := fc b j_20 2) (by decide) (vinN (by decide) (by decide)) (hG j_20 hj_20 2 (by decide)) dL_law_682 ?_
                                refine lv_iconst (v := (2 : Int32)) hx hb dL_law_683 (by decide) ?_
                                refine lv_icmp_ne (tgt := 691) hx hb dL_law_684 (by decide) (fun c_22 => ?_) (fun c_22 => ?_)
                                · refine lv_iconst (v := (0 : Int32)) hx hb dL_law_691 (by decide) ?_
                                  refine lv_icmp_ne (tgt := 711) hx hb dL_law_692 (by decide) (fun c_23 => ?_) (fun c_23 => ?_)
                                  · exact absurd c_23 (by decide)
                                  · refine lv_iload hx hb dL_law_695 (lv_at hl 18 rfl) ?_
                                    refine lv_if_lt (tgt := 713) hx hb dL_law_697 (by decide) (fun c_24 => ?_) (fun c_24 => ?_)
                                    · refine W.widen (k := 400 + 2000 * t + 460) (n := 4000 + 12000 * t + 3100) (by omega) (by omega) ?_
                                      exact K z_18 H locs hP hD hS ls (lv_sub hl [18, 17, 16, 14, 13, 12, 11, 10, 9, 8, 7, 6, 5, 3, 2, 1, 0] rfl)
                                    · refine lv_aload hx hb dL_law_700 (lv_at hl 6 rfl) ?_
                                      refine lv_iload hx hb dL_law_702 (lv_at hl 17 rfl) ?_
                                      refine va_aldA hx hb hKJ hP 20 1 rfl rfl (vp_in_nI (n := j_20) hj_20 (by omega)) (x := r j_20) (by rw [nI_clamp (n := j_20) (by omega)]; exact if_pos hj_20) dL_law_704 ?_
                                      refine lv_iconst (v := (2 : Int32)) hx hb dL_law_705 (by decide) ?_
                                      refine xr_rld hx hb hK1 hP (n := n) (r := r) (i := j_20) hj_20 (w9 := 2) (R' := fc b j_20 2) (by decide) (vinN (by decide) (by decide)) (hG j_20 hj_20 2 (by decide)) dL_law_706 ?_
                                      refine lv_iconst (v := (3 : Int32)) hx hb dL_law_707 (by decide) ?_
                                      refine lv_icmp_ne (tgt := 713) hx hb dL_law_708 (by decide) (fun c_25 => ?_) (fun c_25 => ?_)
                                      · refine W.widen (k := 400 + 2000 * t + 460) (n := 4000 + 12000 * t + 3100) (by omega) (by omega) ?_
                                        exact K z_18 H locs hP hD hS ls (lv_sub hl [18, 17, 16, 14, 13, 12, 11, 10, 9, 8, 7, 6, 5, 3, 2, 1, 0] rfl)
                                      · exact absurd c_25 (hw2 c_24)
                                · exact absurd (hw1.mpr c_22) c_21
                              · refine lv_iconst (v := (1 : Int32)) hx hb dL_law_671 (by decide) ?_
                                refine lv_goto (tgt := 676) hx hb dL_law_672 (by decide) ?_
                                refine lv_aload hx hb dL_law_676 (lv_at hl 6 rfl) ?_
                                refine lv_iload hx hb dL_law_678 (lv_at hl 17 rfl) ?_
                                refine va_aldA hx hb hKJ hP 20 1 rfl rfl (vp_in_nI (n := j_20) hj_20 (by omega)) (x := r j_20) (by rw [nI_clamp (n := j_20) (by omega)]; exact if_pos hj_20) dL_law_680 ?_
                                refine lv_iconst (v := (2 : Int32)) hx hb dL_law_681 (by decide) ?_
                                refine xr_rld hx hb hK1 hP (n := n) (r := r) (i := j_20) hj_20 (w9 := 2) (R' := fc b j_20 2) (by decide) (vinN (by decide) (by decide)) (hG j_20 hj_20 2 (by decide)) dL_law_682 ?_
                                refine lv_iconst (v := (2 : Int32)) hx hb dL_law_683 (by decide) ?_
                                refine lv_icmp_ne (tgt := 691) hx hb dL_law_684 (by decide) (fun c_26 => ?_) (fun c_26 => ?_)
                                · exact absurd (hw1.mp c_21) c_26
                                · refine lv_iconst (v := (1 : Int32)) hx hb dL_law_687 (by decide) ?_
                                  refine lv_goto (tgt := 692) hx hb dL_law_688 (by decide) ?_
                                  refine lv_icmp_ne (tgt := 711) hx hb dL_law_692 (by decide) (fun c_27 => ?_) (fun c_27 => ?_)
                                  · exact absurd c_27 (by decide)
                                  · refine lv_iload hx hb dL_law_695 (lv_at hl 18 rfl) ?_
                                    refine lv_if_lt (tgt := 713) hx hb dL_law_697 (by decide) (fun c_28 => ?_) (fun c_28 => ?_)
                                    · refine W.widen (k := 400 + 2000 * t + 460) (n := 4000 + 12000 * t + 3100) (by omega) (by omega) ?_
                                      exact K z_18 H locs hP hD hS ls (lv_sub hl [18, 17, 16, 14, 13, 12, 11, 10, 9, 8, 7, 6, 5, 3, 2, 1, 0] rfl)
                                    · refine lv_aload hx hb dL_law_700 (lv_at hl 6 rfl) ?_
                                      refine lv_iload hx hb dL_law_702 (lv_at hl 17 rfl) ?_
                                      refine va_aldA hx hb hKJ hP 20 1 rfl rfl (vp_in_nI (n := j_20) hj_20 (by omega)) (x := r j_20) (by rw [nI_clamp (n := j_20) (by omega)]; exact if_pos hj_20) dL_law_704 ?_
                                      refine lv_iconst (v := (2 : Int32)) hx hb dL_law_705 (by decide) ?_
                                      refine xr_rld hx hb hK1 hP (n := n) (r := r) (i := j_20) hj_20 (w9 := 2) (R' := fc b j_20 2) (by decide) (vinN (by decide) (by decide)) (hG j_20 hj_20 2 (by decide)) dL_law_706 ?_
                                      refine lv_iconst (v := (3 : Int32)) hx hb dL_law_707 (by decide) ?_
                                      refine lv_icmp_ne (tgt := 713) hx hb dL_law_708 (by decide) (fun c_29 => ?_) (fun c_29 => ?_)
                                      · refine W.widen (k := 400 + 2000 * t + 460) (n := 4000 + 12000 * t + 3100) (by omega) (by omega) ?_
                                        exact K z_18 H locs hP hD hS ls (lv_sub hl [18, 17, 16, 14, 13, 12, 11, 10, 9, 8, 7, 6, 5, 3, 2, 1, 0] rfl)
                                      · exact absurd c_29 (hw2 c_28)
                          refine lv_if_lt (tgt := 661) hx hb dL_law_648 (by decide) (fun c_30 => ?_) (fun c_30 => ?_)
                          · refine W.widen (k := 400 + 2000 * t + 440 + 2) (n := 4000 + 12000 * t + 2900 + 12) (by omega) (by omega) ?_
                            exact K_17  z_16 H locs hP hD hS ls (lv_sub hl [0, 1, 2, 3, 4, 5, 6, 7, 8, 9, 10, 11, 12, 13, 14, 15, 16, 17, 18, 19, 20] rfl)
                          · obtain ⟨j_31, hj_31, rfl, hs_j_31⟩ := nx_some hI enx c_30
                            refine lv_aload hx hb dL_law_651 (lv_at hl 6 rfl) ?_
                            refine lv_iload hx hb dL_law_653 (lv_at hl 12 rfl) ?_
                            refine va_aldA hx hb hKJ hP 20 1 rfl rfl (vp_in_nI (n := j_31) hj_31 (by omega)) (x := r j_31) (by rw [nI_clamp (n := j_31) (by omega)]; exact if_pos hj_31) dL_law_655 ?_
                            refine lv_iconst (v := (2 : Int32)) hx hb dL_law_656 (by decide) ?_
                            refine xr_rld hx hb hK1 hP (n := n) (r := r) (i := j_31) hj_31 (w9 := 2) (R' := fc b j_31 2) (by decide) (vinN (by decide) (by decide)) (hG j_31 hj_31 2 (by decide)) dL_law_657 ?_
                            refine lv_if_ne (tgt := 711) hx hb dL_law_658 (by decide) (fun c_32 => ?_) (fun c_32 => ?_)
                            · exact absurd hs_j_31 c_32
                            · refine W.widen (k := 400 + 2000 * t + 440 + 2) (n := 4000 + 12000 * t + 2900 + 12) (by omega) (by omega) ?_
                              exact K_17  z_16 H locs hP hD hS ls (lv_sub hl [0, 1, 2, 3, 4, 5, 6, 7, 8, 9, 10, 11, 12, 13, 14, 15, 16, 17, 18, 19, 20] rfl)
                        refine lv_if_lt (tgt := 646) hx hb dL_law_638 (by decide) (fun c_33 => ?_) (fun c_33 => ?_)
                        · refine W.widen (k := 400 + 2000 * t + 440 + 2) (n := 4000 + 12000 * t + 2900 + 12) (by omega) (by omega) ?_
                          exact K_15  z_4 H locs hP hD hS ls (lv_sub hl [1, 2, 3, 4, 5, 6, 7, 8, 9, 10, 11, 12, 13, 14, 15, 16, 17, 18, 19, 20, 0] rfl)
                        · refine lv_iload hx hb dL_law_641 (lv_at hl 13 rfl) ?_
                          refine lv_if_ge (tgt := 711) hx hb dL_law_643 (by decide) (fun c_34 => ?_) (fun c_34 => ?_)
                          · exact absurd (enx ▸ c_34) (no_both hI c_33)
                          · refine W.widen (k := 400 + 2000 * t + 440 + 2) (n := 4000 + 12000 * t + 2900 + 12) (by omega) (by omega) ?_
                            exact K_15  z_4 H locs hP hD hS ls (lv_sub hl [1, 2, 3, 4, 5, 6, 7, 8, 9, 10, 11, 12, 13, 14, 15, 16, 17, 18, 19, 20, 0] rfl)
    refine lv_if_le (tgt := 560) hx hb dL_law_553 (by decide) (fun c_35 => ?_) (fun c_35 => ?_)
    · refine lv_aload_n hx hb dL_law_560 rfl (lv_at hl 2 rfl) ?_
      refine lv_iconst (v := (1 : Int32)) hx hb dL_law_561 (by decide) ?_
      refine lv_iload hx hb dL_law_562 (lv_at hl 5 rfl) ?_
      refine lv_iconst (v := (4 : Int32)) hx hb dL_law_564 (by decide) ?_
      refine lv_ishr hx hb dL_law_565 ?_
      refine lv_topi (fun v_36 ev_36 => ?_)
      refine lv_bipush (v := (60 : Int32)) hx hb dL_law_566 (by decide) ?_
      obtain ⟨j_37, hj_37, ej_37⟩ := below_nI v_36 (60 : Int32) 60 (by decide) (by omega) (by omega)
      refine xr_call0 ej_37 hP hD hS hA (va_runS (As := [.int v_36, .int (60 : Int32)]) (rest := [.int (1 : Int32), .ref h]) ⟨hx, hb, hml, hown, hts⟩ (c_L_below l D I H.size v_36 (60 : Int32) (by decide)) (va_cwS 2 hts gL_law_L_below rfl rfl rfl (by decide +kernel) ⟨Nat.le_of_ble_eq_true rfl, Nat.le_of_ble_eq_true rfl⟩) (xr_pre0 hN hK1) rfl rfl hl.1 rfl (lv_room (Nat.le_of_ble_eq_true rfl)) dL_law_568 ⟨by show _ ≤ 600172; omega, by show _ ≤ 7300668; omega⟩) (fun H locs hP hD hS => ?_)
      refine lv_iadd hx hb dL_law_571 ?_
      refine W.eq (congrArg (fun z => F0 m 572 ls (.int z :: [.ref h])) (nI_add 1 j_37)) ?_
      refine xr_calliE (wc := WX I h qb qt b z_2) (Rv := (r_X2_bestPoise b (nI (1 + j_37)))) hP hD hS hA (va_runV (As := [.int (nI (1 + j_37))]) (rest := []) ⟨hx, hb, hml, hown, hts⟩ (met_of_xMX (c_X2_bestPoise l hlt D I h qb qt H.size b z_2 (nI (1 + j_37)) hI.nB hI.m0 (by omega) hI.z) (bp_b b (m := 1 + j_37) (by omega) (by omega)).1 (nm1 _) rfl) (cwV 1 hts gL_law_X2_bestPoise rfl rfl rfl (by decide +kernel) ⟨Nat.le_of_ble_eq_true rfl, Nat.le_of_ble_eq_true rfl⟩) (xr_preVX (wc := WX I h qb qt b z_2) (ci := 2) hN hXX hS hA hP hK1 hD rfl rfl) rfl rfl hl.1 rfl (lv_room (Nat.le_of_ble_eq_true rfl)) dL_law_572 ⟨by show _ ≤ 600172; omega, by show _ ≤ 7300668; omega⟩) (fun z_38 H locs hP hD hS => ?_)
      have hP : va_P D vwCl (WX I h qb qt b z_38 ++ ([cA I ac 8 cf, cW J aw n r, cA I ax 4 tf] ++ rW I n r G)) H := hP
      have hD : va_D (fun q : Nat => s.heap.size ≤ q) (WX I h qb qt b z_38 ++ ([cA I ac 8 cf, cW J aw n r, cA I ax 4 tf] ++ rW I n r G)) := hD
      refine W.widen (k := 400 + 2000 * t + 440 + 2) (n := 4000 + 12000 * t + 2900 + 12) (by omega) (by omega) ?_
      exact K_3 _ (bp_b b (m := 1 + j_37) (by omega) (by omega)).2 z_38 H locs hP hD hS ls (lv_sub hl [1, 2, 3, 4, 5, 6, 7, 8, 9, 10, 11, 12, 13, 14, 15, 16, 17, 18, 19, 0] rfl)
    · refine lv_iconst (v := (0 : Int32)) hx hb dL_law_556 (by decide) ?_
      refine lv_goto (tgt := 575) hx hb dL_law_557 (by decide) ?_
      refine W.widen (k := 400 + 2000 * t + 440 + 2) (n := 4000 + 12000 * t + 2900 + 12) (by omega) (by omega) ?_
      exact K_3 (0 : Int32) ⟨0, by decide, rfl⟩ z_2 H locs hP hD hS ls (lv_sub hl [1, 2, 3, 4, 5, 6, 7, 8, 9, 10, 11, 12, 13, 14, 15, 16, 17, 18, 19, 0] rfl)
  refine lv_if_le (tgt := 532) hx hb dL_law_525 (by decide) (fun c_39 => ?_) (fun c_39 => ?_)
  · refine lv_aload_n hx hb dL_law_532 rfl (lv_at hl 17 rfl) ?_
    refine lv_iconst (v := (1 : Int32)) hx hb dL_law_533 (by decide) ?_
    refine lv_iload hx hb dL_law_534 (lv_at hl 14 rfl) ?_
    refine lv_iconst (v := (4 : Int32)) hx hb dL_law_536 (by decide) ?_
    refine lv_ishr hx hb dL_law_537 ?_
    refine lv_topi (fun v_40 ev_40 => ?_)
    refine lv_bipush (v := (60 : Int32)) hx hb dL_law_538 (by decide) ?_
    obtain ⟨j_41, hj_41, ej_41⟩ := below_nI v_40 (60 : Int32) 60 (by decide) (by omega) (by omega)
    refine xr_call0 ej_41 hP hD hS hA (va_runS (As := [.int v_40, .int (60 : Int32)]) (rest := [.int (1 : Int32), .ref h]) ⟨hx, hb, hml, hown, hts⟩ (c_L_below l D I H.size v_40 (60 : Int32) (by decide)) (va_cwS 2 hts gL_law_L_below rfl rfl rfl (by decide +kernel) ⟨Nat.le_of_ble_eq_true rfl, Nat.le_of_ble_eq_true rfl⟩) (xr_pre0 hN hK1) rfl rfl hl.1 rfl (lv_room (Nat.le_of_ble_eq_true rfl)) dL_law_540 ⟨by show _ ≤ 600172; omega, by show _ ≤ 7300668; omega⟩) (fun H locs hP hD hS => ?_)
    refine lv_iadd hx hb dL_law_543 ?_
    refine W.eq (congrArg (fun z => F0 m 544 ls (.int z :: [.ref h])) (nI_add 1 j_41)) ?_
    refine xr_calliE (wc := WX I h qb qt b z) (Rv := (r_X2_bestCode b (nI (1 + j_41)))) hP hD hS hA (va_runV (As := [.int (nI (1 + j_41))]) (rest := []) ⟨hx, hb, hml, hown, hts⟩ (met_of_xMX (c_X2_bestCode l hlt D I h qb qt H.size b z (nI (1 + j_41)) hI.nB hI.m0 (by omega) hI.z) (bc_b b (m := 1 + j_41) (by omega) (by omega)).1 (nm1 _) rfl) (cwV 1 hts gL_law_X2_bestCode rfl rfl rfl (by decide +kernel) ⟨Nat.le_of_ble_eq_true rfl, Nat.le_of_ble_eq_true rfl⟩) (xr_preVX (wc := WX I h qb qt b z) (ci := 2) hN hXX hS hA hP hK1 hD rfl rfl) rfl rfl hl.1 rfl (lv_room (Nat.le_of_ble_eq_true rfl)) dL_law_544 ⟨by show _ ≤ 600172; omega, by show _ ≤ 7300668; omega⟩) (fun z_42 H locs hP hD hS => ?_)
    have hP : va_P D vwCl (WX I h qb qt b z_42 ++ ([cA I ac 8 cf, cW J aw n r, cA I ax 4 tf] ++ rW I n r G)) H := hP
    have hD : va_D (fun q : Nat => s.heap.size ≤ q) (WX I h qb qt b z_42 ++ ([cA I ac 8 cf, cW J aw n r, cA I ax 4 tf] ++ rW I n r G)) := hD
    refine W.widen (k := 400 + 2000 * t + 440 + 1) (n := 4000 + 12000 * t + 2900 + 6) (by omega) (by omega) ?_
    exact K_1 _ (bc_b b (m := 1 + j_41) (by omega) (by omega)).2 z_42 H locs hP hD hS ls (lv_sub hl [18, 17, 16, 15, 14, 13, 12, 11, 10, 9, 8, 7, 6, 5, 4, 3, 2, 1, 0] rfl)
  · refine lv_iconst (v := (0 : Int32)) hx hb dL_law_528 (by decide) ?_
    refine lv_goto (tgt := 547) hx hb dL_law_529 (by decide) ?_
    refine W.widen (k := 400 + 2000 * t + 440 + 1) (n := 4000 + 12000 * t + 2900 + 6) (by omega) (by omega) ?_
    exact K_1 (0 : Int32) ⟨0, by decide, rfl⟩ z H locs hP hD hS ls (lv_sub hl [18, 17, 16, 15, 14, 13, 12, 11, 10, 9, 8, 7, 6, 5, 4, 3, 2, 1, 0] rfl)
