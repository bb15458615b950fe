set_option maxHeartbeats 2000000 in
set_option maxRecDepth 100000 in
theorem lw_row (l : Launch) (hlt : l.stackTraces = false) {p : Program} {e : Env} {s : State} {m : MethodId} {below : List Frame} {meth : Method} {c : Code} {D : va_G} {I : ClassId} {h ac : Nat} {qb qt : Nat → Nat} {b0 L : Nat} {sc : Nat → Int32} {Q : State → Prop} (hL : L ≤ 260) (C0 : lwC p s m c b0 L sc D I) {t : Nat} (ht : t < 60) {cf : Nat → Int32} {n : Nat} {b : XBr} {v : Int32} (hI : Iv n b) (hm : (b.1 0).toInt ≤ 3200 + (t : Int)) {aw : Nat} {r : Nat → Nat} {J : ClassId} (hinj : ∀ i j : Nat, i < n → j < n → r i = r j → i = j) (hKJ : va_K D vwCl [(I, .int), (J, .array .int)] s) {k : Nat} (hkn : k < n) (K : ∀ (z : XBr) (G : Nat → Nat → Int32), (∀ i, i < k + 1 → ∀ x, x < 7 → G (r i) x = fc b i x) → ∀ (H : Heap) (locs : List Loc), va_P D vwCl (WX I h qb qt b z ++ ([cA I ac 8 cf, cW J aw n r] ++ rW I n r G)) H → va_D (fun q : Nat => s.heap.size ≤ q) (WX I h qb qt b z ++ ([cA I ac 8 cf, cW J aw n r] ++ rW I n r G)) → va_S (fun q : Nat => s.heap.size ≤ q) s.heap H locs → ∀ ls, lv_has ls 33 [(7, .int (nI k)), (6, .ref aw), (5, .int (nI n)), (4, .int v), (3, .int (nI t)), (2, .ref ac), (1, .ref h), (0, .ref b0)] → W p l e room_1 s m #[Value.ref b0] below meth c H locs (400 + 2000 * t + 90 + 7 * (k + 1)) (4000 + 12000 * t + 700 + 42 * (k + 1)) Q (F0 m 381 ls [])) : ∀ (rr w : Nat) (z : XBr) (G : Nat → Nat → Int32), rr + w = 7 → (∀ i, i < k → ∀ x, x < 7 → G (r i) x = fc b i x) → (∀ x, x < w → G (r k) x = fc b k x) → ∀ (H : Heap) (locs : List Loc), va_P D vwCl (WX I h qb qt b z ++ ([cA I ac 8 cf, cW J aw n r] ++ rW I n r G)) H → va_D (fun q : Nat => s.heap.size ≤ q) (WX I h qb qt b z ++ ([cA I ac 8 cf, cW J aw n r] ++ rW I n r G)) → va_S (fun q : Nat => s.heap.size ≤ q) s.heap H locs → ∀ ls, lv_has ls 33 [(8, .int (nI w)), (7, .int (nI k)), (6, .ref aw), (5, .int (nI n)), (4, .int v), (3, .int (nI t)), (2, .ref ac), (1, .ref h), (0, .ref b0)] → W p l e room_1 s m #[Value.ref b0] below meth c H locs (400 + 2000 * t + 90 + 7 * k + w) (4000 + 12000 * t + 700 + 42 * k + 6 * w) Q (F0 m 352 ls []) := by
  obtain ⟨hx, hb, hml, hown, hts, hX, hbl, hK1, hN, hXX, hover⟩ := C0
  have hA : ∀ q : Nat, s.heap.size ≤ q → (fun q : Nat => s.heap.size ≤ q) q := fun _ h => h
  have hbA : ¬ (fun q : Nat => s.heap.size ≤ q) b0 := Nat.not_le.mpr hbl
  have n40 := hI.1.1
  intro rr
  induction rr with
  | zero =>
    intro w z G hw hG1 hG2 H locs hP hD hS ls hl
    refine lv_iload hx hb dL_law_352 (lv_at hl 0 rfl) ?_
    refine lv_bipush (v := (7 : Int32)) hx hb dL_law_354 (by decide) ?_
    refine lv_icmp_ge (tgt := 381) hx hb dL_law_356 (by decide) (fun c_1 => ?_) (fun c_1 => ?_)
    · refine W.widen (k := 400 + 2000 * t + 90 + 7 * (k + 1)) (n := 4000 + 12000 * t + 700 + 42 * (k + 1)) (by omega) (by omega) ?_
      exact K z G (rows_all hG1 (fun x hx => hG2 x (by omega))) H locs hP hD hS ls (lv_sub hl [1, 2, 3, 4, 5, 6, 7, 8] rfl)
    · exact absurd (nI_le (a := 7) (b := w) (by omega) (by omega)) c_1
  | succ rr ih =>
    intro w z G hw hG1 hG2 H locs hP hD hS ls hl
    refine lv_iload hx hb dL_law_352 (lv_at hl 0 rfl) ?_
    refine lv_bipush (v := (7 : Int32)) hx hb dL_law_354 (by decide) ?_
    refine lv_icmp_ge (tgt := 381) hx hb dL_law_356 (by decide) (fun c_1 => ?_) (fun c_1 => ?_)
    · exact absurd c_1 (nI_ge (a := w) (b := 7) (by omega) (by omega))
    · refine lv_aload hx hb dL_law_359 (lv_at hl 2 rfl) ?_
      refine lv_iload hx hb dL_law_361 (lv_at hl 1 rfl) ?_
      refine va_aldA hx hb hKJ hP 20 1 rfl rfl (vp_in_nI (n := k) hkn (by omega)) (x := r k) (by rw [nI_clamp (n := k) (by omega)]; exact if_pos hkn) dL_law_363 ?_
      refine lv_iload hx hb dL_law_364 (lv_at hl 0 rfl) ?_
      refine lv_aload_n hx hb dL_law_366 rfl (lv_at hl 7 rfl) ?_
      refine lv_iload hx hb dL_law_367 (lv_at hl 1 rfl) ?_
      refine lv_iload hx hb dL_law_369 (lv_at hl 0 rfl) ?_
      refine xr_calliE (wc := WX I h qb qt b z) (Rv := (fc b k w)) hP hD hS hA (va_runV (As := [.int (nI k), .int (nI w)]) (rest := [.int (nI w), .ref (r k)]) ⟨hx, hb, hml, hown, hts⟩ (met_of_xMX (c_X2_traveller l hlt D I h qb qt H.size b z (nI k) (nI w) hI.nB) (tr_x hI hkn (w := w) (by omega)) (nm1 _) (tr_r hI hkn (w := w) (by omega))) (cwV 2 hts gL_law_X2_traveller rfl rfl rfl (by decide +kernel) ⟨Nat.le_of_ble_eq_true rfl, Nat.le_of_ble_eq_true rfl⟩) (xr_preVX (wc := WX I h qb qt b z) (ci := 2) hN hXX hS hA hP hK1 hD rfl rfl) rfl rfl hl.1 rfl (lv_room (Nat.le_of_ble_eq_true rfl)) dL_law_371 ⟨by show _ ≤ 600172; omega, by show _ ≤ 7300668; omega⟩) (fun z_2 H locs hP hD hS => ?_)
      have hP : va_P D vwCl (WX I h qb qt b z_2 ++ ([cA I ac 8 cf, cW J aw n r] ++ rW I n r G)) H := hP
      have hD : va_D (fun q : Nat => s.heap.size ≤ q) (WX I h qb qt b z_2 ++ ([cA I ac 8 cf, cW J aw n r] ++ rW I n r G)) := hD
      refine xr_rst hx hb hK1 hP hD hS (n := n) (r := r) (i := k) hkn (w9 := w) (nI_clamp (by omega)) (vp_in_nI (n := w) (by omega) (by omega)) dL_law_374 (fun H locs hP hD hS => ?_)
      have hP : va_P D vwCl (WX I h qb qt b z_2 ++ ([cA I ac 8 cf, cW J aw n r] ++ rW I n r (xa G (r k) (upd (G (r k)) w (fc b k w))))) H := hP
      have hD : va_D (fun q : Nat => s.heap.size ≤ q) (WX I h qb qt b z_2 ++ ([cA I ac 8 cf, cW J aw n r] ++ rW I n r (xa G (r k) (upd (G (r k)) w (fc b k w))))) := hD
      refine lv_iinc (v := (nI (w + 1))) (lv' := [(8, .int (nI (w + 1))), (7, .int (nI k)), (6, .ref aw), (5, .int (nI n)), (4, .int v), (3, .int (nI t)), (2, .ref ac), (1, .ref h), (0, .ref b0)]) hx hb dL_law_375 hl (k := 0) rfl (nI_succ w).symm (by decide) rfl (fun ls hl => ?_)
      refine lv_goto (tgt := 352) hx hb dL_law_378 (by decide) ?_
      refine W.widen (k := 400 + 2000 * t + 90 + 7 * k + (w + 1)) (n := 4000 + 12000 * t + 700 + 42 * k + 6 * (w + 1)) (by omega) (by omega) ?_
      exact ih (w + 1) z_2 (xa G (r k) (upd (G (r k)) w (fc b k w))) (by omega) (rows_b hinj hkn hG1) (row_a hG2) H locs hP hD hS ls (lv_sub hl [0, 1, 2, 3, 4, 5, 6, 7, 8] rfl)

set_option maxHeartbeats 2000000 in
set_option maxRecDepth 100000 in
theorem lw_rows (l : Launch) (hlt : l.stackTraces = false) {p : Program} {e : Env} {s : State} {m : MethodId} {below : List Frame} {meth : Method} {c : Code} {D : va_G} {I : ClassId} {h ac : Nat} {qb qt : Nat → Nat} {b0 L : Nat} {sc : Nat → Int32} {Q : State → Prop} (hL : L ≤ 260) (C0 : lwC p s m c b0 L sc D I) {t : Nat} (ht : t < 60) {cf : Nat → Int32} {n : Nat} {b : XBr} {v : Int32} (hI : Iv n b) (hm : (b.1 0).toInt ≤ 3200 + (t : Int)) {aw : Nat} {r : Nat → Nat} {J : ClassId} (hinj : ∀ i j : Nat, i < n → j < n → r i = r j → i = j) (hKJ : va_K D vwCl [(I, .int), (J, .array .int)] s) (K : ∀ (z : XBr) (G : Nat → Nat → Int32), (∀ i, i < n → ∀ x, x < 7 → G (r i) x = fc b i x) → ∀ (H : Heap) (locs : List Loc), va_P D vwCl (WX I h qb qt b z ++ ([cA I ac 8 cf, cW J aw n r] ++ rW I n r G)) H → va_D (fun q : Nat => s.heap.size ≤ q) (WX I h qb qt b z ++ ([cA I ac 8 cf, cW J aw n r] ++ rW I n r G)) → va_S (fun q : Nat => s.heap.size ≤ q) s.heap H locs → ∀ ls, lv_has ls 33 [(6, .ref aw), (5, .int (nI n)), (4, .int v), (3, .int (nI t)), (2, .ref ac), (1, .ref h), (0, .ref b0)] → W p l e room_1 s m #[Value.ref b0] below meth c H locs (400 + 2000 * t + 400) (4000 + 12000 * t + 2500) Q (F0 m 387 ls [])) : ∀ (rr k : Nat) (z : XBr) (G : Nat → Nat → Int32), rr + k = n → (∀ i, i < k → ∀ x, x < 7 → G (r i) x = fc b i x) → ∀ (H : Heap) (locs : List Loc), va_P D vwCl (WX I h qb qt b z ++ ([cA I ac 8 cf, cW J aw n r] ++ rW I n r G)) H → va_D (fun q : Nat => s.heap.size ≤ q) (WX I h qb qt b z ++ ([cA I ac 8 cf, cW J aw n r] ++ rW I n r G)) → va_S (fun q : Nat => s.heap.size ≤ q) s.heap H locs → ∀ ls, lv_has ls 33 [(7, .int (nI k)), (6, .ref aw), (5, .int (nI n)), (4, .int v), (3, .int (nI t)), (2, .ref ac), (1, .ref h), (0, .ref b0)] → W p l e room_1 s m #[Value.ref b0] below meth c H locs (400 + 2000 * t + 90 + 7 * k) (4000 + 12000 * t + 700 + 42 * k) Q (F0 m 342 ls []) := by
  have C1 := C0
  obtain ⟨hx, hb, hml, hown, hts, hX, hbl, hK1, hN, hXX, hover⟩ := C0
  have hA : ∀ q : Nat, s.heap.size ≤ q → (fun q : Nat => s.heap.size ≤ q) q := fun _ h => h
  have hbA : ¬ (fun q : Nat => s.heap.size ≤ q) b0 := Nat.not_le.mpr hbl
  have n40 := hI.1.1
  intro rr
  induction rr with
  | zero =>
    intro k z G hk hG H locs hP hD hS ls hl
    have hkn : k = n := by omega
    refine lv_iload hx hb dL_law_342 (lv_at hl 0 rfl) ?_
    refine lv_iload hx hb dL_law_344 (lv_at hl 2 rfl) ?_
    refine lv_icmp_ge (tgt := 387) hx hb dL_law_346 (by decide) (fun c_1 => ?_) (fun c_1 => ?_)
    · refine W.widen (k := 400 + 2000 * t + 400) (n := 4000 + 12000 * t + 2500) (by omega) (by omega) ?_
      exact K z G (fun i hi => hG i (by omega)) H locs hP hD hS ls (lv_sub hl [1, 2, 3, 4, 5, 6, 7] rfl)
    · exact absurd (nI_le (a := n) (b := k) (by omega) (by omega)) c_1
  | succ rr ih =>
    intro k z G hk hG H locs hP hD hS ls hl
    have hkn : k < n := by omega
    refine lv_iload hx hb dL_law_342 (lv_at hl 0 rfl) ?_
    refine lv_iload hx hb dL_law_344 (lv_at hl 2 rfl) ?_
    refine lv_icmp_ge (tgt := 387) hx hb dL_law_346 (by decide) (fun c_1 => ?_) (fun c_1 => ?_)
    · exact absurd c_1 (nI_ge (a := k) (b := n) (by omega) (by omega))
    · refine lv_iconst (v := (0 : Int32)) hx hb dL_law_349 (by decide) ?_
      refine lv_istore (lv' := [(8, .int (0 : Int32)), (7, .int (nI k)), (6, .ref aw), (5, .int (nI n)), (4, .int v), (3, .int (nI t)), (2, .ref ac), (1, .ref h), (0, .ref b0)]) hx hb dL_law_350 hl (by decide) rfl (fun ls hl => ?_)
      refine W.widen (k := 400 + 2000 * t + 90 + 7 * k + 0) (n := 4000 + 12000 * t + 700 + 42 * k + 6 * 0) (by omega) (by omega) ?_
      refine lw_row l hlt hL C1 ht hI hm hinj hKJ hkn (fun z G hG H locs hP hD hS ls hl => ?_) 7 0 z G rfl hG (fun x hx => absurd hx (Nat.not_lt_zero x)) H locs hP hD hS ls (lv_sub hl [0, 1, 2, 3, 4, 5, 6, 7, 8] rfl)
      refine lv_iinc (v := (nI (k + 1))) (lv' := [(7, .int (nI (k + 1))), (6, .ref aw), (5, .int (nI n)), (4, .int v), (3, .int (nI t)), (2, .ref ac), (1, .ref h), (0, .ref b0)]) hx hb dL_law_381 hl (k := 0) rfl (nI_succ k).symm (by decide) rfl (fun ls hl => ?_)
      refine lv_goto (tgt := 342) hx hb dL_law_384 (by decide) ?_
      exact ih (k + 1) z G (by omega) hG H locs hP hD hS ls hl

set_option maxHeartbeats 2000000 in
set_option maxRecDepth 100000 in
theorem lw_fill (l : Launch) (hlt : l.stackTraces = false) {p : Program} {e : Env} {s : State} {m : MethodId} {below : List Frame} {meth : Method} {c : Code} {D : va_G} {I : ClassId} {h ac : Nat} {qb qt : Nat → Nat} {b0 L : Nat} {sc : Nat → Int32} {Q : State → Prop} (hL : L ≤ 260) (C0 : lwC p s m c b0 L sc D I) {t : Nat} (ht : t < 60) {cf : Nat → Int32} {n : Nat} {b : XBr} {v : Int32} (hI : Iv n b) (hm : (b.1 0).toInt ≤ 3200 + (t : Int)) {z : XBr} (K : ∀ (aw : Nat) (r : Nat → Nat) (J : ClassId) (z : XBr) (G : Nat → Nat → Int32), va_K D vwCl [(I, .int), (J, .array .int)] s → (∀ i, i < n → ∀ x, x < 7 → G (r i) x = fc b i x) → ∀ (H : Heap) (locs : List Loc), va_P D vwCl (WX I h qb qt b z ++ ([cA I ac 8 cf, cW J aw n r] ++ rW I n r G)) H → va_D (fun q : Nat => s.heap.size ≤ q) (WX I h qb qt b z ++ ([cA I ac 8 cf, cW J aw n r] ++ rW I n r G)) → va_S (fun q : Nat => s.heap.size ≤ q) s.heap H locs → ∀ ls, lv_has ls 33 [(6, .ref aw), (5, .int (nI n)), (4, .int v), (3, .int (nI t)), (2, .ref ac), (1, .ref h), (0, .ref b0)] → W p l e room_1 s m #[Value.ref b0] below meth c H locs (400 + 2000 * t + 400) (4000 + 12000 * t + 2500) Q (F0 m 387 ls [])) : ∀ (H : Heap) (locs : List Loc), va_P D vwCl (WX I h qb qt b z ++ [cA I ac 8 cf]) H → va_D (fun q : Nat => s.heap.size ≤ q) (WX I h qb qt b z ++ [cA I ac 8 cf]) → va_S (fun q : Nat => s.heap.size ≤ q) s.heap H locs → ∀ ls, lv_has ls 33 [(4, .int v), (3, .int (nI t)), (2, .ref ac), (1, .ref h), (0, .ref b0)] → W p l e room_1 s m #[Value.ref b0] below meth c H locs (400 + 2000 * t + 30) (4000 + 12000 * t + 200) Q (F0 m 322 ls []) := by
  have C1 := C0
  obtain ⟨hx, hb, hml, hown, hts, hX, hbl, hK1, hN, hXX, hover⟩ := C0
  have hA : ∀ q : Nat, s.heap.size ≤ q → (fun q : Nat => s.heap.size ≤ q) q := fun _ h => h
  have hbA : ¬ (fun q : Nat => s.heap.size ≤ q) b0 := Nat.not_le.mpr hbl
  have n40 := hI.1.1
  intro H locs hP hD hS ls hl
  refine lv_aload_n hx hb dL_law_322 rfl (lv_at hl 3 rfl) ?_
  refine lv_iconst (v := (5 : Int32)) hx hb dL_law_323 (by decide) ?_
  refine xr_calliE (wc := WX I h qb qt b z) (Rv := (nI n)) hP hD hS hA (va_runV (As := [.int (5 : Int32)]) (rest := []) ⟨hx, hb, hml, hown, hts⟩ (met_of_xMX (c_X2_count l hlt D I h qb qt H.size b z (5 : Int32) ) (cx5 b) (nm1 _) (ct5 hI)) (cwV 1 hts gL_law_X2_count rfl rfl rfl (by decide +kernel) ⟨Nat.le_of_ble_eq_true rfl, Nat.le_of_ble_eq_true rfl⟩) (xr_preVX (wc := WX I h qb qt b z) (ci := 2) hN hXX hS hA hP hK1 hD rfl rfl) rfl rfl hl.1 rfl (lv_room (Nat.le_of_ble_eq_true rfl)) dL_law_324 ⟨by show _ ≤ 600172; omega, by show _ ≤ 7300668; omega⟩) (fun z_1 H locs hP hD hS => ?_)
  have hP : va_P D vwCl (WX I h qb qt b z_1 ++ [cA I ac 8 cf]) H := hP
  have hD : va_D (fun q : Nat => s.heap.size ≤ q) (WX I h qb qt b z_1 ++ [cA I ac 8 cf]) := hD
  refine lv_istore (lv' := [(5, .int (nI n)), (4, .int v), (3, .int (nI t)), (2, .ref ac), (1, .ref h), (0, .ref b0)]) hx hb dL_law_327 hl (by decide) rfl (fun ls hl => ?_)
  refine lv_iload hx hb dL_law_329 (lv_at hl 0 rfl) ?_
  refine lv_bipush (v := (7 : Int32)) hx hb dL_law_331 (by decide) ?_
  refine xr_mna (X := WX I h qb qt b z_1) hx hb hown (hts (.classLink RL 63 "[[I") (by decide +kernel)) hover (hts (.arrayClass .int) (by decide +kernel)) hK1 hP hD hS hA hI.1.1 (by show _ ≤ 600172; omega) (by show _ ≤ 7300668; omega) dL_law_333 (fun aw r J H hinj hKJ hP hD hS => ?_)
  have hP : va_P D vwCl (WX I h qb qt b z_1 ++ ([cA I ac 8 cf, cW J aw n r] ++ rW I n r (fun _ _ => 0))) H := hP
  have hD : va_D (fun q : Nat => s.heap.size ≤ q) (WX I h qb qt b z_1 ++ ([cA I ac 8 cf, cW J aw n r] ++ rW I n r (fun _ _ => 0))) := hD
  refine lv_astore (lv' := [(6, .ref aw), (5, .int (nI n)), (4, .int v), (3, .int (nI t)), (2, .ref ac), (1, .ref h), (0, .ref b0)]) hx hb dL_law_337 hl (by decide) rfl (fun ls hl => ?_)
  refine lv_iconst (v := (0 : Int32)) hx hb dL_law_339 (by decide) ?_
  refine lv_istore (lv' := [(7, .int (0 : Int32)), (6, .ref aw), (5, .int (nI n)), (4, .int v), (3, .int (nI t)), (2, .ref ac), (1, .ref h), (0, .ref b0)]) hx hb dL_law_340 hl (by decide) rfl (fun ls hl => ?_)
  refine W.widen (k := 400 + 2000 * t + 90 + 7 * 0) (n := 4000 + 12000 * t + 700 + 42 * 0) (by omega) (by omega) ?_
  exact lw_rows l hlt hL C1 ht hI hm hinj hKJ (fun z G hG H locs hP hD hS ls hl => K aw r J z G hKJ hG H locs hP hD hS ls hl) n 0 z_1 (fun _ _ => 0) rfl (fun i hi => absurd hi (Nat.not_lt_zero i)) H locs hP hD hS ls (lv_sub hl [0, 1, 2, 3, 4, 5, 6, 7] rfl)
