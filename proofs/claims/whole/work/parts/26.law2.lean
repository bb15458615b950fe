set_option maxHeartbeats 2000000 in
set_option maxRecDepth 100000 in
theorem law_count (l : Launch) (hlt : l.stackTraces = false) {p : Program} {e : Env} {s : State} {m : MethodId} {below : List Frame} {meth : Method} {c : Code} {D : va_G} {I J : ClassId} {h ao : Nat} {qb qt qo qs qa : Nat → Nat} {b0 L : Nat} {sc : Nat → Int32} (hL : L ≤ 1536) (C0 : lw_At p s m meth c b0 L sc) (hK : va_K D vwCl [(I, .int), (J, .long)] s) (hN : xNw s) (hXX : xX (fun q : Nat => s.heap.size ≤ q) s s.heap) {k : Nat} (hk : 3 * k + 3 ≤ L) (b z : XBr) (o : MO) (a y : MS) (g : Nat → Int64) (hR : Rel b o a) (hmin : (b.1 0).toInt ≤ 240 * (k : Int)) (K : ∀ (b' z' : XBr) (o' : MO) (a' y' : MS) (g' : Nat → Int64), Rel b' o' a' → (b'.1 0).toInt ≤ 240 * ((k : Int) + 1) → ∀ (H : Heap) (locs : List Loc), va_P D vwCl ([cX h qb qt] ++ wB I qb (b') ++ wB I qt (z') ++ [cO J ao (g')] ++ wO I qo (qs 0) (qa 0) (o') ++ wS I qo qs (a') ++ wS I qo qa (y')) H → va_D (fun q : Nat => s.heap.size ≤ q) ([cX h qb qt] ++ wB I qb (b') ++ wB I qt (z') ++ [cO J ao (g')] ++ wO I qo (qs 0) (qa 0) (o') ++ wS I qo qs (a') ++ wS I qo qa (y')) → va_S (fun q : Nat => s.heap.size ≤ q) s.heap H locs → ∀ ls, lv_has ls 9 [(4, .int (nI (3 * k))), (0, .ref b0), (1, .ref h), (2, .ref (qo 0)), (3, .ref ao)] → W p l e room_1 s m #[Value.ref b0] below meth c H locs (40 + 300 * (k + 1)) (1100 + 2100 * (k + 1)) (lw_Z below #[Value.ref b0] s) (F0 m 961 ls [])) : ∀ (H : Heap) (locs : List Loc), va_P D vwCl ([cX h qb qt] ++ wB I qb b ++ wB I qt z ++ [cO J ao g] ++ wO I qo (qs 0) (qa 0) o ++ wS I qo qs a ++ wS I qo qa y) H → va_D (fun q : Nat => s.heap.size ≤ q) ([cX h qb qt] ++ wB I qb b ++ wB I qt z ++ [cO J ao g] ++ wO I qo (qs 0) (qa 0) o ++ wS I qo qs a ++ wS I qo qa y) → va_S (fun q : Nat => s.heap.size ≤ q) s.heap H locs → ∀ ls, lv_has ls 9 [(4, .int (nI (3 * k))), (0, .ref b0), (1, .ref h), (2, .ref (qo 0)), (3, .ref ao)] → W p l e room_1 s m #[Value.ref b0] below meth c H locs (40 + 300 * k) (1100 + 2100 * k) (lw_Z below #[Value.ref b0] s) (F0 m 517 ls []) := by
  obtain ⟨hx, hb, hr, hml, hown, hts0, hX, hbl, hlocks, hgv⟩ := C0
  have hts : ∀ w ∈ wsL_law, w.before #[Value.ref b0] s = true := fun w h => hts0 w (wsL_law_in w h)
  have hA : ∀ q : Nat, s.heap.size ≤ q → (fun q : Nat => s.heap.size ≤ q) q := fun _ h => h
  have hbA : ¬ (fun q : Nat => s.heap.size ≤ q) b0 := Nat.not_le.mpr hbl
  have hK1 : va_K D vwCl [(I, .int)] s := hK.sub [0] rfl
  have hm9 : (b.1 0).toInt < 1000000000 := by omega
  have hm8 : (b.1 0).toInt < 1000000 := by omega
  obtain ⟨a1, a2, a3, a4'⟩ := ag_count hR hm8 (sc (3 * k + 1))
  have a4 := Int.le_trans a4' (show (b.1 0).toInt + 240 ≤ 240 * ((k : Int) + 1) by omega)
  intro H locs hP hD hS ls hl
  refine lv_aload_n hx hb dL_law_517 rfl (lv_at hl 2 rfl) ?_
  refine lv_aload_n hx hb dL_law_518 rfl (lv_at hl 1 rfl) ?_
  refine lv_iload hx hb dL_law_519 (lv_at hl 0 rfl) ?_
  refine lv_iconst (v := (1 : Int32)) hx hb dL_law_521 (by decide) ?_
  refine lv_iadd hx hb dL_law_522 ?_
  refine W.eq (congrArg (fun z => F0 m 523 ls (.int z :: [.ref b0, .ref h])) (nI_add (3 * k) 1)) ?_
  refine va_sld hx hb hX hbl hbA hS (vp_in_nI (n := (3 * k + 1)) (by omega) (by omega)) dL_law_523 ?_
  refine W.eq (congrArg (fun z => F0 m 524 ls (.int (sc z) :: [.ref h])) (nI_clamp (n := (3 * k + 1)) (by omega))) ?_
  refine lv_aload_n hx hb dL_law_524 rfl (lv_at hl 4 rfl) ?_
  refine xk_callL ([cMO qo (qs 0) (qa 0) o.1, cA I (qo 1) 40 (o.2 0), cA I (qo 2) 40 (o.2 1), cA I (qo 3) 40 (o.2 2), cA I (qo 4) 8 (o.2 3), cMS qo qs a.1, cA I (qs 1) 40 (a.2 0), cA I (qs 2) 40 (a.2 1), cA I (qs 3) 40 (a.2 2), cA I (qs 4) 40 (a.2 3), cMS qo qa y.1, cA I (qa 1) 40 (y.2 0), cA I (qa 2) 40 (y.2 1), cA I (qa 3) 40 (y.2 2), cA I (qa 4) 40 (y.2 3)]) (fun v : XBr × (Nat → Int64) => [cX h qb qt] ++ wB I qb b ++ wB I qt v.1 ++ [cO J ao v.2] ++ wO I qo (qs 0) (qa 0) o ++ wS I qo qs a ++ wS I qo qa y) [0, 1, 2, 3, 4, 5, 6, 7, 8, 9, 10, 11, 12, 13, 14, 15, 16, 17, 18, 19] [20, 21, 22, 23, 24, 25, 26, 27, 28, 29, 30, 31, 32, 33, 34] [15, 16, 17, 18, 19, 20, 21, 22, 23, 24, 25, 26, 27, 28, 29, 30, 31, 32, 33, 34, 0, 1, 2, 3, 4, 5, 6, 7, 8, 9, 10, 11, 12, 13, 14] hP hD hS hA (vx_runSX (As := [.ref h, .int (sc (3 * k + 1)), .ref ao]) (rest := []) ⟨hx, hb, hml, hown, hts⟩ (c_L_count l hlt D I J h qb qt ao H.size b z g (sc (3 * k + 1)) ) (vx_cwSW 3 hts gL_law_L_count rfl rfl rfl (by decide +kernel) ⟨Nat.le_of_ble_eq_true rfl, Nat.le_of_ble_eq_true rfl⟩) (xk_preX (wc := [cX h qb qt] ++ wB I qb b ++ wB I qt z ++ [cO J ao g]) hN hXX hS hA hP hK hD [0, 1, 2, 3, 4, 5, 6, 7, 8, 9, 10, 11, 12, 13, 14, 15, 16, 17, 18, 19] rfl rfl) rfl rfl hl.1 rfl (lv_room (Nat.le_of_ble_eq_true rfl)) dL_law_525 ⟨by show _ ≤ 601024; omega, by show _ ≤ 7293034; omega⟩) rfl rfl rfl (by decide) rfl (fun _ => rfl) (fun z_1 H locs hk_1 hP hD hS => ?_)
  have hP : va_P D vwCl ([cX h qb qt] ++ wB I qb b ++ wB I qt z_1.1 ++ [cO J ao z_1.2] ++ wO I qo (qs 0) (qa 0) o ++ wS I qo qs a ++ wS I qo qa y) H := hP
  have hD : va_D (fun q : Nat => s.heap.size ≤ q) ([cX h qb qt] ++ wB I qb b ++ wB I qt z_1.1 ++ [cO J ao z_1.2] ++ wO I qo (qs 0) (qa 0) o ++ wS I qo qs a ++ wS I qo qa y) := hD
  refine lv_istore (lv' := [(5, .int (x_X2_count b (sc (3 * k + 1)))), (4, .int (nI (3 * k))), (0, .ref b0), (1, .ref h), (2, .ref (qo 0)), (3, .ref ao)]) hx hb dL_law_528 hl (by decide) rfl (fun ls hl => ?_)
  refine lv_aload_n hx hb dL_law_530 rfl (lv_at hl 4 rfl) ?_
  refine lv_aload_n hx hb dL_law_531 rfl (lv_at hl 2 rfl) ?_
  refine lv_iload hx hb dL_law_532 (lv_at hl 1 rfl) ?_
  refine lv_iconst (v := (1 : Int32)) hx hb dL_law_534 (by decide) ?_
  refine lv_iadd hx hb dL_law_535 ?_
  refine W.eq (congrArg (fun z => F0 m 536 ls (.int z :: [.ref b0, .ref (qo 0)])) (nI_add (3 * k) 1)) ?_
  refine va_sld hx hb hX hbl hbA hS (vp_in_nI (n := (3 * k + 1)) (by omega) (by omega)) dL_law_536 ?_
  refine W.eq (congrArg (fun z => F0 m 537 ls (.int (sc z) :: [.ref (qo 0)])) (nI_clamp (n := (3 * k + 1)) (by omega))) ?_
  refine xk_calli ([cX h qb qt, cXB qb b.1, cA I (qb 1) 8 b.2.1, cXT qb b.2.2.1, cA I (qb 3) 40 (b.2.2.2 0), cA I (qb 4) 40 (b.2.2.2 1), cA I (qb 5) 40 (b.2.2.2 2), cA I (qb 6) 40 (b.2.2.2 3), cA I (qb 7) 40 (b.2.2.2 4), cA I (qb 8) 40 (b.2.2.2 5), cXB qt z_1.1.1, cA I (qt 1) 8 z_1.1.2.1, cXT qt z_1.1.2.2.1, cA I (qt 3) 40 (z_1.1.2.2.2 0), cA I (qt 4) 40 (z_1.1.2.2.2 1), cA I (qt 5) 40 (z_1.1.2.2.2 2), cA I (qt 6) 40 (z_1.1.2.2.2 3), cA I (qt 7) 40 (z_1.1.2.2.2 4), cA I (qt 8) 40 (z_1.1.2.2.2 5), cO J ao z_1.2]) ([cX h qb qt] ++ wB I qb b ++ wB I qt z_1.1 ++ [cO J ao z_1.2] ++ wO I qo (qs 0) (qa 0) (s_X4_count o a (sc (3 * k + 1))) ++ wS I qo qs a ++ wS I qo qa y) [20, 21, 22, 23, 24, 25, 26, 27, 28, 29, 30, 31, 32, 33, 34] [0, 1, 2, 3, 4, 5, 6, 7, 8, 9, 10, 11, 12, 13, 14, 15, 16, 17, 18, 19] [0, 1, 2, 3, 4, 5, 6, 7, 8, 9, 10, 11, 12, 13, 14, 15, 16, 17, 18, 19, 20, 21, 22, 23, 24, 25, 26, 27, 28, 29, 30, 31, 32, 33, 34] hP hD hS hA (va_runV (As := [.int (sc (3 * k + 1))]) (rest := []) ⟨hx, hb, hml, hown, hts⟩ (c_X4_count l D I qo qs qa H.size o a y (sc (3 * k + 1)) hR.nO) (cwV 1 hts gL_law_X4_count rfl rfl rfl (by decide +kernel) ⟨Nat.le_of_ble_eq_true rfl, Nat.le_of_ble_eq_true rfl⟩) (xk_preV (wc := wO I qo (qs 0) (qa 0) o ++ wS I qo qs a ++ wS I qo qa y) (q0 := 20) (ci := 4) hN hP hK1 hD [20, 21, 22, 23, 24, 25, 26, 27, 28, 29, 30, 31, 32, 33, 34] rfl rfl rfl rfl) rfl rfl hl.1 rfl (lv_room (Nat.le_of_ble_eq_true rfl)) dL_law_537 ⟨by show _ ≤ 601024; omega, by show _ ≤ 7293034; omega⟩) rfl rfl rfl (by decide) rfl rfl (fun H locs hP hD hS => ?_)
  generalize hz_2 : s_X4_count o a (sc (3 * k + 1)) = z_2 at hP hD
  refine lv_istore (lv' := [(6, .int (r_X4_count o a (sc (3 * k + 1)))), (5, .int (x_X2_count b (sc (3 * k + 1)))), (4, .int (nI (3 * k))), (0, .ref b0), (1, .ref h), (2, .ref (qo 0)), (3, .ref ao)]) hx hb dL_law_540 hl (by decide) rfl (fun ls hl => ?_)
  refine lv_aload_n hx hb dL_law_542 rfl (lv_at hl 5 rfl) ?_
  refine xk_calli ([cX h qb qt, cXB qb b.1, cA I (qb 1) 8 b.2.1, cXT qb b.2.2.1, cA I (qb 3) 40 (b.2.2.2 0), cA I (qb 4) 40 (b.2.2.2 1), cA I (qb 5) 40 (b.2.2.2 2), cA I (qb 6) 40 (b.2.2.2 3), cA I (qb 7) 40 (b.2.2.2 4), cA I (qb 8) 40 (b.2.2.2 5), cXB qt z_1.1.1, cA I (qt 1) 8 z_1.1.2.1, cXT qt z_1.1.2.2.1, cA I (qt 3) 40 (z_1.1.2.2.2 0), cA I (qt 4) 40 (z_1.1.2.2.2 1), cA I (qt 5) 40 (z_1.1.2.2.2 2), cA I (qt 6) 40 (z_1.1.2.2.2 3), cA I (qt 7) 40 (z_1.1.2.2.2 4), cA I (qt 8) 40 (z_1.1.2.2.2 5), cO J ao z_1.2, cMS qo qs a.1, cA I (qs 1) 40 (a.2 0), cA I (qs 2) 40 (a.2 1), cA I (qs 3) 40 (a.2 2), cA I (qs 4) 40 (a.2 3), cMS qo qa y.1, cA I (qa 1) 40 (y.2 0), cA I (qa 2) 40 (y.2 1), cA I (qa 3) 40 (y.2 2), cA I (qa 4) 40 (y.2 3)]) ([cX h qb qt] ++ wB I qb b ++ wB I qt z_1.1 ++ [cO J ao z_1.2] ++ wO I qo (qs 0) (qa 0) z_2 ++ wS I qo qs a ++ wS I qo qa y) [20, 21, 22, 23, 24] [0, 1, 2, 3, 4, 5, 6, 7, 8, 9, 10, 11, 12, 13, 14, 15, 16, 17, 18, 19, 25, 26, 27, 28, 29, 30, 31, 32, 33, 34] [0, 1, 2, 3, 4, 5, 6, 7, 8, 9, 10, 11, 12, 13, 14, 15, 16, 17, 18, 19, 30, 31, 32, 33, 34, 20, 21, 22, 23, 24, 25, 26, 27, 28, 29] hP hD hS hA (va_runV (As := []) (rest := []) ⟨hx, hb, hml, hown, hts⟩ (c_X4_thrown l D I qo (qs 0) (qa 0) H.size z_2 ) (cwV 0 hts gL_law_X4_thrown rfl rfl rfl (by decide +kernel) ⟨Nat.le_of_ble_eq_true rfl, Nat.le_of_ble_eq_true rfl⟩) (xk_preV (wc := wO I qo (qs 0) (qa 0) z_2) (q0 := 20) (ci := 4) hN hP hK1 hD [20, 21, 22, 23, 24] rfl rfl rfl rfl) rfl rfl hl.1 rfl (lv_room (Nat.le_of_ble_eq_true rfl)) dL_law_543 ⟨by show _ ≤ 601024; omega, by show _ ≤ 7293034; omega⟩) rfl rfl rfl (by decide) rfl rfl (fun H locs hP hD hS => ?_)
  refine lv_iload hx hb dL_law_546 (lv_at hl 1 rfl) ?_
  refine lv_icmp_eq (tgt := 553) hx hb dL_law_548 (by decide) (fun c_1 => ?_) (fun c_1 => ?_)
  · refine lv_iload hx hb dL_law_553 (lv_at hl 1 rfl) ?_
    refine lv_if_ne (tgt := 570) hx hb dL_law_555 (by decide) (fun c_2 => ?_) (fun c_2 => ?_)
    · refine lv_goto (tgt := 961) hx hb dL_law_570 (by decide) ?_
      subst hz_2
      refine W.widen (k := 40 + 300 * (k + 1)) (n := 1100 + 2100 * (k + 1)) (by omega) (by omega) ?_
      exact K _ _ _ _ _ _ a3 a4 _ _ hP hD hS ls (lv_sub hl [2, 3, 4, 5, 6] rfl)
    · refine lv_aload_n hx hb dL_law_558 rfl (lv_at hl 6 rfl) ?_
      refine lv_iconst (v := (0 : Int32)) hx hb dL_law_559 (by decide) ?_
      refine va_lald (f := z_1.2) hx hb hK hP 19 1 rfl rfl (vinN (n := 1) (by decide) (by decide)) dL_law_560 ?_
      refine W.eq (congrArg (fun z => F0 m 561 ls (.long (z_1.2 z) :: [])) (show (0 : Int32).toNatClampNeg = 0 by decide)) ?_
      refine lv_iload hx hb dL_law_561 (lv_at hl 0 rfl) ?_
      refine lv_i2l (v := (r_X4_count o a (sc (3 * k + 1))).toInt64) hx hb dL_law_563 rfl ?_
      refine W.lcmp hx hb dL_law_564 ?_
      refine lv_if_eq (tgt := 570) hx hb dL_law_565 (by decide) (fun c_3 => ?_) (fun c_3 => ?_)
      · refine lv_goto (tgt := 961) hx hb dL_law_570 (by decide) ?_
        subst hz_2
        refine W.widen (k := 40 + 300 * (k + 1)) (n := 1100 + 2100 * (k + 1)) (by omega) (by omega) ?_
        exact K _ _ _ _ _ _ a3 a4 _ _ hP hD hS ls (lv_sub hl [2, 3, 4, 5, 6] rfl)
      · exact absurd (by rw [hk_1 c_2, a2 c_2]; exact lg_self _) c_3
  · exact absurd (by subst hz_2; exact a1.symm) c_1

set_option maxHeartbeats 2000000 in
set_option maxRecDepth 100000 in
theorem law_speed (l : Launch) (hlt : l.stackTraces = false) {p : Program} {e : Env} {s : State} {m : MethodId} {below : List Frame} {meth : Method} {c : Code} {D : va_G} {I J : ClassId} {h ao : Nat} {qb qt qo qs qa : Nat → Nat} {b0 L : Nat} {sc : Nat → Int32} (hL : L ≤ 1536) (C0 : lw_At p s m meth c b0 L sc) (hK : va_K D vwCl [(I, .int), (J, .long)] s) (hN : xNw s) (hXX : xX (fun q : Nat => s.heap.size ≤ q) s s.heap) {k : Nat} (hk : 3 * k + 3 ≤ L) (b z : XBr) (o : MO) (a y : MS) (g : Nat → Int64) (hR : Rel b o a) (hmin : (b.1 0).toInt ≤ 240 * (k : Int)) (K : ∀ (b' z' : XBr) (o' : MO) (a' y' : MS) (g' : Nat → Int64), Rel b' o' a' → (b'.1 0).toInt ≤ 240 * ((k : Int) + 1) → ∀ (H : Heap) (locs : List Loc), va_P D vwCl ([cX h qb qt] ++ wB I qb (b') ++ wB I qt (z') ++ [cO J ao (g')] ++ wO I qo (qs 0) (qa 0) (o') ++ wS I qo qs (a') ++ wS I qo qa (y')) H → va_D (fun q : Nat => s.heap.size ≤ q) ([cX h qb qt] ++ wB I qb (b') ++ wB I qt (z') ++ [cO J ao (g')] ++ wO I qo (qs 0) (qa 0) (o') ++ wS I qo qs (a') ++ wS I qo qa (y')) → va_S (fun q : Nat => s.heap.size ≤ q) s.heap H locs → ∀ ls, lv_has ls 9 [(4, .int (nI (3 * k))), (0, .ref b0), (1, .ref h), (2, .ref (qo 0)), (3, .ref ao)] → W p l e room_1 s m #[Value.ref b0] below meth c H locs (40 + 300 * (k + 1)) (1100 + 2100 * (k + 1)) (lw_Z below #[Value.ref b0] s) (F0 m 961 ls [])) : ∀ (H : Heap) (locs : List Loc), va_P D vwCl ([cX h qb qt] ++ wB I qb b ++ wB I qt z ++ [cO J ao g] ++ wO I qo (qs 0) (qa 0) o ++ wS I qo qs a ++ wS I qo qa y) H → va_D (fun q : Nat => s.heap.size ≤ q) ([cX h qb qt] ++ wB I qb b ++ wB I qt z ++ [cO J ao g] ++ wO I qo (qs 0) (qa 0) o ++ wS I qo qs a ++ wS I qo qa y) → va_S (fun q : Nat => s.heap.size ≤ q) s.heap H locs → ∀ ls, lv_has ls 9 [(4, .int (nI (3 * k))), (0, .ref b0), (1, .ref h), (2, .ref (qo 0)), (3, .ref ao)] → W p l e room_1 s m #[Value.ref b0] below meth c H locs (40 + 300 * k) (1100 + 2100 * k) (lw_Z below #[Value.ref b0] s) (F0 m 573 ls []) := by
  obtain ⟨hx, hb, hr, hml, hown, hts0, hX, hbl, hlocks, hgv⟩ := C0
  have hts : ∀ w ∈ wsL_law, w.before #[Value.ref b0] s = true := fun w h => hts0 w (wsL_law_in w h)
  have hA : ∀ q : Nat, s.heap.size ≤ q → (fun q : Nat => s.heap.size ≤ q) q := fun _ h => h
  have hbA : ¬ (fun q : Nat => s.heap.size ≤ q) b0 := Nat.not_le.mpr hbl
  have hK1 : va_K D vwCl [(I, .int)] s := hK.sub [0] rfl
  have hm9 : (b.1 0).toInt < 1000000000 := by omega
  have hm8 : (b.1 0).toInt < 1000000 := by omega
  intro H locs hP hD hS ls hl
  refine lv_aload_n hx hb dL_law_573 rfl (lv_at hl 2 rfl) ?_
  refine lv_aload_n hx hb dL_law_574 rfl (lv_at hl 1 rfl) ?_
  refine lv_iload hx hb dL_law_575 (lv_at hl 0 rfl) ?_
  refine lv_iconst (v := (1 : Int32)) hx hb dL_law_577 (by decide) ?_
  refine lv_iadd hx hb dL_law_578 ?_
  refine W.eq (congrArg (fun z => F0 m 579 ls (.int z :: [.ref b0, .ref h])) (nI_add (3 * k) 1)) ?_
  refine va_sld hx hb hX hbl hbA hS (vp_in_nI (n := (3 * k + 1)) (by omega) (by omega)) dL_law_579 ?_
  refine W.eq (congrArg (fun z => F0 m 580 ls (.int (sc z) :: [.ref h])) (nI_clamp (n := (3 * k + 1)) (by omega))) ?_
  refine lv_if_eq (tgt := 587) hx hb dL_law_580 (by decide) (fun c_1 => ?_) (fun c_1 => ?_)
  · refine lv_iconst (v := (0 : Int32)) hx hb dL_law_587 (by decide) ?_
    obtain ⟨a2, a3⟩ := ag_speed hR (0 : Int32)
    have a4 : (b.1 0).toInt ≤ 240 * ((k : Int) + 1) := by omega
    refine xk_calli ([cO J ao g, cMO qo (qs 0) (qa 0) o.1, cA I (qo 1) 40 (o.2 0), cA I (qo 2) 40 (o.2 1), cA I (qo 3) 40 (o.2 2), cA I (qo 4) 8 (o.2 3), cMS qo qs a.1, cA I (qs 1) 40 (a.2 0), cA I (qs 2) 40 (a.2 1), cA I (qs 3) 40 (a.2 2), cA I (qs 4) 40 (a.2 3), cMS qo qa y.1, cA I (qa 1) 40 (y.2 0), cA I (qa 2) 40 (y.2 1), cA I (qa 3) 40 (y.2 2), cA I (qa 4) 40 (y.2 3)]) ([cX h qb qt] ++ wB I qb b ++ wB I qt z ++ [cO J ao g] ++ wO I qo (qs 0) (qa 0) o ++ wS I qo qs a ++ wS I qo qa y) [0, 1, 2, 3, 4, 5, 6, 7, 8, 9, 10, 11, 12, 13, 14, 15, 16, 17, 18] [19, 20, 21, 22, 23, 24, 25, 26, 27, 28, 29, 30, 31, 32, 33, 34] [16, 17, 18, 19, 20, 21, 22, 23, 24, 25, 26, 27, 28, 29, 30, 31, 32, 33, 34, 0, 1, 2, 3, 4, 5, 6, 7, 8, 9, 10, 11, 12, 13, 14, 15] hP hD hS hA (va_runV (As := [.int (0 : Int32)]) (rest := []) ⟨hx, hb, hml, hown, hts⟩ (c_X2_speed l D I h qb qt H.size b z (0 : Int32) ) (cwV 1 hts gL_law_X2_speed rfl rfl rfl (by decide +kernel) ⟨Nat.le_of_ble_eq_true rfl, Nat.le_of_ble_eq_true rfl⟩) (xk_preV (wc := [cX h qb qt] ++ wB I qb b ++ wB I qt z) (q0 := 0) (ci := 2) hN hP hK1 hD [0, 1, 2, 3, 4, 5, 6, 7, 8, 9, 10, 11, 12, 13, 14, 15, 16, 17, 18] rfl rfl rfl rfl) rfl rfl hl.1 rfl (lv_room (Nat.le_of_ble_eq_true rfl)) dL_law_588 ⟨by show _ ≤ 601024; omega, by show _ ≤ 7293034; omega⟩) rfl rfl rfl (by decide) rfl rfl (fun H locs hP hD hS => ?_)
    refine lv_aload_n hx hb dL_law_591 rfl (lv_at hl 3 rfl) ?_
    refine lv_aload_n hx hb dL_law_592 rfl (lv_at hl 1 rfl) ?_
    refine lv_iload hx hb dL_law_593 (lv_at hl 0 rfl) ?_
    refine lv_iconst (v := (1 : Int32)) hx hb dL_law_595 (by decide) ?_
    refine lv_iadd hx hb dL_law_596 ?_
    refine W.eq (congrArg (fun z => F0 m 597 ls (.int z :: [.ref b0, .ref (qo 0), .int (r_X2_speed b (0 : Int32))])) (nI_add (3 * k) 1)) ?_
    refine va_sld hx hb hX hbl hbA hS (vp_in_nI (n := (3 * k + 1)) (by omega) (by omega)) dL_law_597 ?_
    refine W.eq (congrArg (fun z => F0 m 598 ls (.int (sc z) :: [.ref (qo 0), .int (r_X2_speed b (0 : Int32))])) (nI_clamp (n := (3 * k + 1)) (by omega))) ?_
    refine lv_if_eq (tgt := 605) hx hb dL_law_598 (by decide) (fun c_2 => ?_) (fun c_2 => ?_)
    · refine lv_iconst (v := (0 : Int32)) hx hb dL_law_605 (by decide) ?_
      refine xk_calli ([cX h qb qt, cXB qb b.1, cA I (qb 1) 8 b.2.1, cXT qb b.2.2.1, cA I (qb 3) 40 (b.2.2.2 0), cA I (qb 4) 40 (b.2.2.2 1), cA I (qb 5) 40 (b.2.2.2 2), cA I (qb 6) 40 (b.2.2.2 3), cA I (qb 7) 40 (b.2.2.2 4), cA I (qb 8) 40 (b.2.2.2 5), cXB qt z.1, cA I (qt 1) 8 z.2.1, cXT qt z.2.2.1, cA I (qt 3) 40 (z.2.2.2 0), cA I (qt 4) 40 (z.2.2.2 1), cA I (qt 5) 40 (z.2.2.2 2), cA I (qt 6) 40 (z.2.2.2 3), cA I (qt 7) 40 (z.2.2.2 4), cA I (qt 8) 40 (z.2.2.2 5), cO J ao g]) ([cX h qb qt] ++ wB I qb b ++ wB I qt z ++ [cO J ao g] ++ wO I qo (qs 0) (qa 0) (s_X4_speed o a (0 : Int32)) ++ wS I qo qs a ++ wS I qo qa y) [20, 21, 22, 23, 24, 25, 26, 27, 28, 29, 30, 31, 32, 33, 34] [0, 1, 2, 3, 4, 5, 6, 7, 8, 9, 10, 11, 12, 13, 14, 15, 16, 17, 18, 19] [0, 1, 2, 3, 4, 5, 6, 7, 8, 9, 10, 11, 12, 13, 14, 15, 16, 17, 18, 19, 20, 21, 22, 23, 24, 25, 26, 27, 28, 29, 30, 31, 32, 33, 34] hP hD hS hA (va_runV (As := [.int (0 : Int32)]) (rest := [.int (r_X2_speed b (0 : Int32))]) ⟨hx, hb, hml, hown, hts⟩ (c_X4_speed l D I qo qs qa H.size o a y (0 : Int32) ) (cwV 1 hts gL_law_X4_speed rfl rfl rfl (by decide +kernel) ⟨Nat.le_of_ble_eq_true rfl, Nat.le_of_ble_eq_true rfl⟩) (xk_preV (wc := wO I qo (qs 0) (qa 0) o ++ wS I qo qs a ++ wS I qo qa y) (q0 := 20) (ci := 4) hN hP hK1 hD [20, 21, 22, 23, 24, 25, 26, 27, 28, 29, 30, 31, 32, 33, 34] rfl rfl rfl rfl) rfl rfl hl.1 rfl (lv_room (Nat.le_of_ble_eq_true rfl)) dL_law_606 ⟨by show _ ≤ 601024; omega, by show _ ≤ 7293034; omega⟩) rfl rfl rfl (by decide) rfl rfl (fun H locs hP hD hS => ?_)
      generalize hz_1 : s_X4_speed o a (0 : Int32) = z_1 at hP hD
      refine lv_icmp_eq (tgt := 961) hx hb dL_law_609 (by decide) (fun c_3 => ?_) (fun c_3 => ?_)
      · subst hz_1
        refine W.widen (k := 40 + 300 * (k + 1)) (n := 1100 + 2100 * (k + 1)) (by omega) (by omega) ?_
        exact K _ _ _ _ _ _ a3 a4 _ _ hP hD hS ls (lv_sub hl [0, 1, 2, 3, 4] rfl)
      · exact absurd a2 c_3
    · exact absurd c_1 c_2
  · refine lv_iconst (v := (1 : Int32)) hx hb dL_law_583 (by decide) ?_
    refine lv_goto (tgt := 588) hx hb dL_law_584 (by decide) ?_
    obtain ⟨a2, a3⟩ := ag_speed hR (1 : Int32)
    have a4 : (b.1 0).toInt ≤ 240 * ((k : Int) + 1) := by omega
    refine xk_calli ([cO J ao g, cMO qo (qs 0) (qa 0) o.1, cA I (qo 1) 40 (o.2 0), cA I (qo 2) 40 (o.2 1), cA I (qo 3) 40 (o.2 2), cA I (qo 4) 8 (o.2 3), cMS qo qs a.1, cA I (qs 1) 40 (a.2 0), cA I (qs 2) 40 (a.2 1), cA I (qs 3) 40 (a.2 2), cA I (qs 4) 40 (a.2 3), cMS qo qa y.1, cA I (qa 1) 40 (y.2 0), cA I (qa 2) 40 (y.2 1), cA I (qa 3) 40 (y.2 2), cA I (qa 4) 40 (y.2 3)]) ([cX h qb qt] ++ wB I qb b ++ wB I qt z ++ [cO J ao g] ++ wO I qo (qs 0) (qa 0) o ++ wS I qo qs a ++ wS I qo qa y) [0, 1, 2, 3, 4, 5, 6, 7, 8, 9, 10, 11, 12, 13, 14, 15, 16, 17, 18] [19, 20, 21, 22, 23, 24, 25, 26, 27, 28, 29, 30, 31, 32, 33, 34] [16, 17, 18, 19, 20, 21, 22, 23, 24, 25, 26, 27, 28, 29, 30, 31, 32, 33, 34, 0, 1, 2, 3, 4, 5, 6, 7, 8, 9, 10, 11, 12, 13, 14, 15] hP hD hS hA (va_runV (As := [.int (1 : Int32)]) (rest := []) ⟨hx, hb, hml, hown, hts⟩ (c_X2_speed l D I h qb qt H.size b z (1 : Int32) ) (cwV 1 hts gL_law_X2_speed rfl rfl rfl (by decide +kernel) ⟨Nat.le_of_ble_eq_true rfl, Nat.le_of_ble_eq_true rfl⟩) (xk_preV (wc := [cX h qb qt] ++ wB I qb b ++ wB I qt z) (q0 := 0) (ci := 2) hN hP hK1 hD [0, 1, 2, 3, 4, 5, 6, 7, 8, 9, 10, 11, 12, 13, 14, 15, 16, 17, 18] rfl rfl rfl rfl) rfl rfl hl.1 rfl (lv_room (Nat.le_of_ble_eq_true rfl)) dL_law_588 ⟨by show _ ≤ 601024; omega, by show _ ≤ 7293034; omega⟩) rfl rfl rfl (by decide) rfl rfl (fun H locs hP hD hS => ?_)
    refine lv_aload_n hx hb dL_law_591 rfl (lv_at hl 3 rfl) ?_
    refine lv_aload_n hx hb dL_law_592 rfl (lv_at hl 1 rfl) ?_
    refine lv_iload hx hb dL_law_593 (lv_at hl 0 rfl) ?_
    refine lv_iconst (v := (1 : Int32)) hx hb dL_law_595 (by decide) ?_
    refine lv_iadd hx hb dL_law_596 ?_
    refine W.eq (congrArg (fun z => F0 m 597 ls (.int z :: [.ref b0, .ref (qo 0), .int (r_X2_speed b (1 : Int32))])) (nI_add (3 * k) 1)) ?_
    refine va_sld hx hb hX hbl hbA hS (vp_in_nI (n := (3 * k + 1)) (by omega) (by omega)) dL_law_597 ?_
    refine W.eq (congrArg (fun z => F0 m 598 ls (.int (sc z) :: [.ref (qo 0), .int (r_X2_speed b (1 : Int32))])) (nI_clamp (n := (3 * k + 1)) (by omega))) ?_
    refine lv_if_eq (tgt := 605) hx hb dL_law_598 (by decide) (fun c_4 => ?_) (fun c_4 => ?_)
    · exact absurd c_4 c_1
    · refine lv_iconst (v := (1 : Int32)) hx hb dL_law_601 (by decide) ?_
      refine lv_goto (tgt := 606) hx hb dL_law_602 (by decide) ?_
      refine xk_calli ([cX h qb qt, cXB qb b.1, cA I (qb 1) 8 b.2.1, cXT qb b.2.2.1, cA I (qb 3) 40 (b.2.2.2 0), cA I (qb 4) 40 (b.2.2.2 1), cA I (qb 5) 40 (b.2.2.2 2), cA I (qb 6) 40 (b.2.2.2 3), cA I (qb 7) 40 (b.2.2.2 4), cA I (qb 8) 40 (b.2.2.2 5), cXB qt z.1, cA I (qt 1) 8 z.2.1, cXT qt z.2.2.1, cA I (qt 3) 40 (z.2.2.2 0), cA I (qt 4) 40 (z.2.2.2 1), cA I (qt 5) 40 (z.2.2.2 2), cA I (qt 6) 40 (z.2.2.2 3), cA I (qt 7) 40 (z.2.2.2 4), cA I (qt 8) 40 (z.2.2.2 5), cO J ao g]) ([cX h qb qt] ++ wB I qb b ++ wB I qt z ++ [cO J ao g] ++ wO I qo (qs 0) (qa 0) (s_X4_speed o a (1 : Int32)) ++ wS I qo qs a ++ wS I qo qa y) [20, 21, 22, 23, 24, 25, 26, 27, 28, 29, 30, 31, 32, 33, 34] [0, 1, 2, 3, 4, 5, 6, 7, 8, 9, 10, 11, 12, 13, 14, 15, 16, 17, 18, 19] [0, 1, 2, 3, 4, 5, 6, 7, 8, 9, 10, 11, 12, 13, 14, 15, 16, 17, 18, 19, 20, 21, 22, 23, 24, 25, 26, 27, 28, 29, 30, 31, 32, 33, 34] hP hD hS hA (va_runV (As := [.int (1 : Int32)]) (rest := [.int (r_X2_speed b (1 : Int32))]) ⟨hx, hb, hml, hown, hts⟩ (c_X4_speed l D I qo qs qa H.size o a y (1 : Int32) ) (cwV 1 hts gL_law_X4_speed rfl rfl rfl (by decide +kernel) ⟨Nat.le_of_ble_eq_true rfl, Nat.le_of_ble_eq_true rfl⟩) (xk_preV (wc := wO I qo (qs 0) (qa 0) o ++ wS I qo qs a ++ wS I qo qa y) (q0 := 20) (ci := 4) hN hP hK1 hD [20, 21, 22, 23, 24, 25, 26, 27, 28, 29, 30, 31, 32, 33, 34] rfl rfl rfl rfl) rfl rfl hl.1 rfl (lv_room (Nat.le_of_ble_eq_true rfl)) dL_law_606 ⟨by show _ ≤ 601024; omega, by show _ ≤ 7293034; omega⟩) rfl rfl rfl (by decide) rfl rfl (fun H locs hP hD hS => ?_)
      generalize hz_2 : s_X4_speed o a (1 : Int32) = z_2 at hP hD
      refine lv_icmp_eq (tgt := 961) hx hb dL_law_609 (by decide) (fun c_5 => ?_) (fun c_5 => ?_)
      · subst hz_2
        refine W.widen (k := 40 + 300 * (k + 1)) (n := 1100 + 2100 * (k + 1)) (by omega) (by omega) ?_
        exact K _ _ _ _ _ _ a3 a4 _ _ hP hD hS ls (lv_sub hl [0, 1, 2, 3, 4] rfl)
      · exact absurd a2 c_5

set_option maxHeartbeats 2000000 in
set_option maxRecDepth 100000 in
theorem law_pass (l : Launch) (hlt : l.stackTraces = false) {p : Program} {e : Env} {s : State} {m : MethodId} {below : List Frame} {meth : Method} {c : Code} {D : va_G} {I J : ClassId} {h ao : Nat} {qb qt qo qs qa : Nat → Nat} {b0 L : Nat} {sc : Nat → Int32} (hL : L ≤ 1536) (C0 : lw_At p s m meth c b0 L sc) (hK : va_K D vwCl [(I, .int), (J, .long)] s) (hN : xNw s) (hXX : xX (fun q : Nat => s.heap.size ≤ q) s s.heap) {k : Nat} (hk : 3 * k + 3 ≤ L) (b z : XBr) (o : MO) (a y : MS) (g : Nat → Int64) (hR : Rel b o a) (hmin : (b.1 0).toInt ≤ 240 * (k : Int)) (K : ∀ (b' z' : XBr) (o' : MO) (a' y' : MS) (g' : Nat → Int64), Rel b' o' a' → (b'.1 0).toInt ≤ 240 * ((k : Int) + 1) → ∀ (H : Heap) (locs : List Loc), va_P D vwCl ([cX h qb qt] ++ wB I qb (b') ++ wB I qt (z') ++ [cO J ao (g')] ++ wO I qo (qs 0) (qa 0) (o') ++ wS I qo qs (a') ++ wS I qo qa (y')) H → va_D (fun q : Nat => s.heap.size ≤ q) ([cX h qb qt] ++ wB I qb (b') ++ wB I qt (z') ++ [cO J ao (g')] ++ wO I qo (qs 0) (qa 0) (o') ++ wS I qo qs (a') ++ wS I qo qa (y')) → va_S (fun q : Nat => s.heap.size ≤ q) s.heap H locs → ∀ ls, lv_has ls 9 [(4, .int (nI (3 * k))), (0, .ref b0), (1, .ref h), (2, .ref (qo 0)), (3, .ref ao)] → W p l e room_1 s m #[Value.ref b0] below meth c H locs (40 + 300 * (k + 1)) (1100 + 2100 * (k + 1)) (lw_Z below #[Value.ref b0] s) (F0 m 961 ls [])) : ∀ (H : Heap) (locs : List Loc), va_P D vwCl ([cX h qb qt] ++ wB I qb b ++ wB I qt z ++ [cO J ao g] ++ wO I qo (qs 0) (qa 0) o ++ wS I qo qs a ++ wS I qo qa y) H → va_D (fun q : Nat => s.heap.size ≤ q) ([cX h qb qt] ++ wB I qb b ++ wB I qt z ++ [cO J ao g] ++ wO I qo (qs 0) (qa 0) o ++ wS I qo qs a ++ wS I qo qa y) → va_S (fun q : Nat => s.heap.size ≤ q) s.heap H locs → ∀ ls, lv_has ls 9 [(4, .int (nI (3 * k))), (0, .ref b0), (1, .ref h), (2, .ref (qo 0)), (3, .ref ao)] → W p l e room_1 s m #[Value.ref b0] below meth c H locs (40 + 300 * k) (1100 + 2100 * k) (lw_Z below #[Value.ref b0] s) (F0 m 614 ls []) := by
  obtain ⟨hx, hb, hr, hml, hown, hts0, hX, hbl, hlocks, hgv⟩ := C0
  have hts : ∀ w ∈ wsL_law, w.before #[Value.ref b0] s = true := fun w h => hts0 w (wsL_law_in w h)
  have hA : ∀ q : Nat, s.heap.size ≤ q → (fun q : Nat => s.heap.size ≤ q) q := fun _ h => h
  have hbA : ¬ (fun q : Nat => s.heap.size ≤ q) b0 := Nat.not_le.mpr hbl
  have hK1 : va_K D vwCl [(I, .int)] s := hK.sub [0] rfl
  have hm9 : (b.1 0).toInt < 1000000000 := by omega
  have hm8 : (b.1 0).toInt < 1000000 := by omega
  obtain ⟨a1, a2, a3, a4'⟩ := ag_pass hR hm8 (sc (3 * k + 1))
  have a4 := Int.le_trans a4' (show (b.1 0).toInt + 240 ≤ 240 * ((k : Int) + 1) by omega)
  intro H locs hP hD hS ls hl
  refine lv_aload_n hx hb dL_law_614 rfl (lv_at hl 2 rfl) ?_
  refine lv_aload_n hx hb dL_law_615 rfl (lv_at hl 1 rfl) ?_
  refine lv_iload hx hb dL_law_616 (lv_at hl 0 rfl) ?_
  refine lv_iconst (v := (1 : Int32)) hx hb dL_law_618 (by decide) ?_
  refine lv_iadd hx hb dL_law_619 ?_
  refine W.eq (congrArg (fun z => F0 m 620 ls (.int z :: [.ref b0, .ref h])) (nI_add (3 * k) 1)) ?_
  refine va_sld hx hb hX hbl hbA hS (vp_in_nI (n := (3 * k + 1)) (by omega) (by omega)) dL_law_620 ?_
  refine W.eq (congrArg (fun z => F0 m 621 ls (.int (sc z) :: [.ref h])) (nI_clamp (n := (3 * k + 1)) (by omega))) ?_
  refine lv_aload_n hx hb dL_law_621 rfl (lv_at hl 4 rfl) ?_
  refine xk_callL ([cMO qo (qs 0) (qa 0) o.1, cA I (qo 1) 40 (o.2 0), cA I (qo 2) 40 (o.2 1), cA I (qo 3) 40 (o.2 2), cA I (qo 4) 8 (o.2 3), cMS qo qs a.1, cA I (qs 1) 40 (a.2 0), cA I (qs 2) 40 (a.2 1), cA I (qs 3) 40 (a.2 2), cA I (qs 4) 40 (a.2 3), cMS qo qa y.1, cA I (qa 1) 40 (y.2 0), cA I (qa 2) 40 (y.2 1), cA I (qa 3) 40 (y.2 2), cA I (qa 4) 40 (y.2 3)]) (fun v : XBr × (Nat → Int64) => [cX h qb qt] ++ wB I qb (s_X2_pass b (sc (3 * k + 1))) ++ wB I qt v.1 ++ [cO J ao v.2] ++ wO I qo (qs 0) (qa 0) o ++ wS I qo qs a ++ wS I qo qa y) [0, 1, 2, 3, 4, 5, 6, 7, 8, 9, 10, 11, 12, 13, 14, 15, 16, 17, 18, 19] [20, 21, 22, 23, 24, 25, 26, 27, 28, 29, 30, 31, 32, 33, 34] [15, 16, 17, 18, 19, 20, 21, 22, 23, 24, 25, 26, 27, 28, 29, 30, 31, 32, 33, 34, 0, 1, 2, 3, 4, 5, 6, 7, 8, 9, 10, 11, 12, 13, 14] hP hD hS hA (vx_runSX (As := [.ref h, .int (sc (3 * k + 1)), .ref ao]) (rest := []) ⟨hx, hb, hml, hown, hts⟩ (c_L_pass l hlt D I J h qb qt ao H.size b z g (sc (3 * k + 1)) hR.nB hR.m0 hm9) (vx_cwSW 3 hts gL_law_L_pass rfl rfl rfl (by decide +kernel) ⟨Nat.le_of_ble_eq_true rfl, Nat.le_of_ble_eq_true rfl⟩) (xk_preX (wc := [cX h qb qt] ++ wB I qb b ++ wB I qt z ++ [cO J ao g]) hN hXX hS hA hP hK hD [0, 1, 2, 3, 4, 5, 6, 7, 8, 9, 10, 11, 12, 13, 14, 15, 16, 17, 18, 19] rfl rfl) rfl rfl hl.1 rfl (lv_room (Nat.le_of_ble_eq_true rfl)) dL_law_622 ⟨by show _ ≤ 601024; omega, by show _ ≤ 7293034; omega⟩) rfl rfl rfl (by decide) rfl (fun _ => rfl) (fun z_1 H locs hk_1 hP hD hS => ?_)
  have hP : va_P D vwCl ([cX h qb qt] ++ wB I qb (s_X2_pass b (sc (3 * k + 1))) ++ wB I qt z_1.1 ++ [cO J ao z_1.2] ++ wO I qo (qs 0) (qa 0) o ++ wS I qo qs a ++ wS I qo qa y) H := hP
  have hD : va_D (fun q : Nat => s.heap.size ≤ q) ([cX h qb qt] ++ wB I qb (s_X2_pass b (sc (3 * k + 1))) ++ wB I qt z_1.1 ++ [cO J ao z_1.2] ++ wO I qo (qs 0) (qa 0) o ++ wS I qo qs a ++ wS I qo qa y) := hD
  generalize hz_2 : s_X2_pass b (sc (3 * k + 1)) = z_2 at hP hD
  refine lv_istore (lv' := [(5, .int (x_X2_pass b (sc (3 * k + 1)))), (4, .int (nI (3 * k))), (0, .ref b0), (1, .ref h), (2, .ref (qo 0)), (3, .ref ao)]) hx hb dL_law_625 hl (by decide) rfl (fun ls hl => ?_)
  refine lv_aload_n hx hb dL_law_627 rfl (lv_at hl 4 rfl) ?_
  refine lv_aload_n hx hb dL_law_628 rfl (lv_at hl 2 rfl) ?_
  refine lv_iload hx hb dL_law_629 (lv_at hl 1 rfl) ?_
  refine lv_iconst (v := (1 : Int32)) hx hb dL_law_631 (by decide) ?_
  refine lv_iadd hx hb dL_law_632 ?_
  refine W.eq (congrArg (fun z => F0 m 633 ls (.int z :: [.ref b0, .ref (qo 0)])) (nI_add (3 * k) 1)) ?_
  refine va_sld hx hb hX hbl hbA hS (vp_in_nI (n := (3 * k + 1)) (by omega) (by omega)) dL_law_633 ?_
  refine W.eq (congrArg (fun z => F0 m 634 ls (.int (sc z) :: [.ref (qo 0)])) (nI_clamp (n := (3 * k + 1)) (by omega))) ?_
  refine xk_calli ([cX h qb qt, cXB qb z_2.1, cA I (qb 1) 8 z_2.2.1, cXT qb z_2.2.2.1, cA I (qb 3) 40 (z_2.2.2.2 0), cA I (qb 4) 40 (z_2.2.2.2 1), cA I (qb 5) 40 (z_2.2.2.2 2), cA I (qb 6) 40 (z_2.2.2.2 3), cA I (qb 7) 40 (z_2.2.2.2 4), cA I (qb 8) 40 (z_2.2.2.2 5), cXB qt z_1.1.1, cA I (qt 1) 8 z_1.1.2.1, cXT qt z_1.1.2.2.1, cA I (qt 3) 40 (z_1.1.2.2.2 0), cA I (qt 4) 40 (z_1.1.2.2.2 1), cA I (qt 5) 40 (z_1.1.2.2.2 2), cA I (qt 6) 40 (z_1.1.2.2.2 3), cA I (qt 7) 40 (z_1.1.2.2.2 4), cA I (qt 8) 40 (z_1.1.2.2.2 5), cO J ao z_1.2]) ([cX h qb qt] ++ wB I qb z_2 ++ wB I qt z_1.1 ++ [cO J ao z_1.2] ++ wO I qo (qs 0) (qa 0) ((s_X4_pass o a (sc (3 * k + 1))).1) ++ wS I qo qs ((s_X4_pass o a (sc (3 * k + 1))).2) ++ wS I qo qa y) [20, 21, 22, 23, 24, 25, 26, 27, 28, 29, 30, 31, 32, 33, 34] [0, 1, 2, 3, 4, 5, 6, 7, 8, 9, 10, 11, 12, 13, 14, 15, 16, 17, 18, 19] [0, 1, 2, 3, 4, 5, 6, 7, 8, 9, 10, 11, 12, 13, 14, 15, 16, 17, 18, 19, 20, 21, 22, 23, 24, 25, 26, 27, 28, 29, 30, 31, 32, 33, 34] hP hD hS hA (va_runV (As := [.int (sc (3 * k + 1))]) (rest := []) ⟨hx, hb, hml, hown, hts⟩ (c_X4_pass l D I qo qs qa H.size o a y (sc (3 * k + 1)) hR.nO hR.p (hR.me ▸ hR.m0) (hR.me ▸ hm9)) (cwV 1 hts gL_law_X4_pass rfl rfl rfl (by decide +kernel) ⟨Nat.le_of_ble_eq_true rfl, Nat.le_of_ble_eq_true rfl⟩) (xk_preV (wc := wO I qo (qs 0) (qa 0) o ++ wS I qo qs a ++ wS I qo qa y) (q0 := 20) (ci := 4) hN hP hK1 hD [20, 21, 22, 23, 24, 25, 26, 27, 28, 29, 30, 31, 32, 33, 34] rfl rfl rfl rfl) rfl rfl hl.1 rfl (lv_room (Nat.le_of_ble_eq_true rfl)) dL_law_634 ⟨by show _ ≤ 601024; omega, by show _ ≤ 7293034; omega⟩) rfl rfl rfl (by decide) rfl rfl (fun H locs hP hD hS => ?_)
  generalize hz_3 : s_X4_pass o a (sc (3 * k + 1)) = z_3 at hP hD
  refine lv_istore (lv' := [(6, .int (r_X4_pass o a (sc (3 * k + 1)))), (5, .int (x_X2_pass b (sc (3 * k + 1)))), (4, .int (nI (3 * k))), (0, .ref b0), (1, .ref h), (2, .ref (qo 0)), (3, .ref ao)]) hx hb dL_law_637 hl (by decide) rfl (fun ls hl => ?_)
  refine lv_aload_n hx hb dL_law_639 rfl (lv_at hl 5 rfl) ?_
  refine xk_calli ([cX h qb qt, cXB qb z_2.1, cA I (qb 1) 8 z_2.2.1, cXT qb z_2.2.2.1, cA I (qb 3) 40 (z_2.2.2.2 0), cA I (qb 4) 40 (z_2.2.2.2 1), cA I (qb 5) 40 (z_2.2.2.2 2), cA I (qb 6) 40 (z_2.2.2.2 3), cA I (qb 7) 40 (z_2.2.2.2 4), cA I (qb 8) 40 (z_2.2.2.2 5), cXB qt z_1.1.1, cA I (qt 1) 8 z_1.1.2.1, cXT qt z_1.1.2.2.1, cA I (qt 3) 40 (z_1.1.2.2.2 0), cA I (qt 4) 40 (z_1.1.2.2.2 1), cA I (qt 5) 40 (z_1.1.2.2.2 2), cA I (qt 6) 40 (z_1.1.2.2.2 3), cA I (qt 7) 40 (z_1.1.2.2.2 4), cA I (qt 8) 40 (z_1.1.2.2.2 5), cO J ao z_1.2, cMS qo qs z_3.2.1, cA I (qs 1) 40 (z_3.2.2 0), cA I (qs 2) 40 (z_3.2.2 1), cA I (qs 3) 40 (z_3.2.2 2), cA I (qs 4) 40 (z_3.2.2 3), cMS qo qa y.1, cA I (qa 1) 40 (y.2 0), cA I (qa 2) 40 (y.2 1), cA I (qa 3) 40 (y.2 2), cA I (qa 4) 40 (y.2 3)]) ([cX h qb qt] ++ wB I qb z_2 ++ wB I qt z_1.1 ++ [cO J ao z_1.2] ++ wO I qo (qs 0) (qa 0) z_3.1 ++ wS I qo qs z_3.2 ++ wS I qo qa y) [20, 21, 22, 23, 24] [0, 1, 2, 3, 4, 5, 6, 7, 8, 9, 10, 11, 12, 13, 14, 15, 16, 17, 18, 19, 25, 26, 27, 28, 29, 30, 31, 32, 33, 34] [0, 1, 2, 3, 4, 5, 6, 7, 8, 9, 10, 11, 12, 13, 14, 15, 16, 17, 18, 19, 30, 31, 32, 33, 34, 20, 21, 22, 23, 24, 25, 26, 27, 28, 29] hP hD hS hA (va_runV (As := []) (rest := []) ⟨hx, hb, hml, hown, hts⟩ (c_X4_thrown l D I qo (qs 0) (qa 0) H.size z_3.1 ) (cwV 0 hts gL_law_X4_thrown rfl rfl rfl (by decide +kernel) ⟨Nat.le_of_ble_eq_true rfl, Nat.le_of_ble_eq_true rfl⟩) (xk_preV (wc := wO I qo (qs 0) (qa 0) z_3.1) (q0 := 20) (ci := 4) hN hP hK1 hD [20, 21, 22, 23, 24] rfl rfl rfl rfl) rfl rfl hl.1 rfl (lv_room (Nat.le_of_ble_eq_true rfl)) dL_law_640 ⟨by show _ ≤ 601024; omega, by show _ ≤ 7293034; omega⟩) rfl rfl rfl (by decide) rfl rfl (fun H locs hP hD hS => ?_)
  refine lv_iload hx hb dL_law_643 (lv_at hl 1 rfl) ?_
  refine lv_icmp_eq (tgt := 650) hx hb dL_law_645 (by decide) (fun c_1 => ?_) (fun c_1 => ?_)
  · refine lv_iload hx hb dL_law_650 (lv_at hl 1 rfl) ?_
    refine lv_if_ne (tgt := 667) hx hb dL_law_652 (by decide) (fun c_2 => ?_) (fun c_2 => ?_)
    · refine lv_goto (tgt := 961) hx hb dL_law_667 (by decide) ?_
      subst hz_3
      subst hz_2
      refine W.widen (k := 40 + 300 * (k + 1)) (n := 1100 + 2100 * (k + 1)) (by omega) (by omega) ?_
      exact K _ _ _ _ _ _ a3 a4 _ _ hP hD hS ls (lv_sub hl [2, 3, 4, 5, 6] rfl)
    · refine lv_aload_n hx hb dL_law_655 rfl (lv_at hl 6 rfl) ?_
      refine lv_iconst (v := (0 : Int32)) hx hb dL_law_656 (by decide) ?_
      refine va_lald (f := z_1.2) hx hb hK hP 19 1 rfl rfl (vinN (n := 1) (by decide) (by decide)) dL_law_657 ?_
      refine W.eq (congrArg (fun z => F0 m 658 ls (.long (z_1.2 z) :: [])) (show (0 : Int32).toNatClampNeg = 0 by decide)) ?_
      refine lv_iload hx hb dL_law_658 (lv_at hl 0 rfl) ?_
      refine lv_i2l (v := (r_X4_pass o a (sc (3 * k + 1))).toInt64) hx hb dL_law_660 rfl ?_
      refine W.lcmp hx hb dL_law_661 ?_
      refine lv_if_eq (tgt := 667) hx hb dL_law_662 (by decide) (fun c_3 => ?_) (fun c_3 => ?_)
      · refine lv_goto (tgt := 961) hx hb dL_law_667 (by decide) ?_
        subst hz_3
        subst hz_2
        refine W.widen (k := 40 + 300 * (k + 1)) (n := 1100 + 2100 * (k + 1)) (by omega) (by omega) ?_
        exact K _ _ _ _ _ _ a3 a4 _ _ hP hD hS ls (lv_sub hl [2, 3, 4, 5, 6] rfl)
      · exact absurd (by rw [hk_1 c_2, a2 c_2]; exact lg_self _) c_3
  · exact absurd (by subst hz_3; subst hz_2; exact a1.symm) c_1

set_option maxHeartbeats 2000000 in
set_option maxRecDepth 100000 in
theorem law_when (l : Launch) (hlt : l.stackTraces = false) {p : Program} {e : Env} {s : State} {m : MethodId} {below : List Frame} {meth : Method} {c : Code} {D : va_G} {I J : ClassId} {h ao : Nat} {qb qt qo qs qa : Nat → Nat} {b0 L : Nat} {sc : Nat → Int32} (hL : L ≤ 1536) (C0 : lw_At p s m meth c b0 L sc) (hK : va_K D vwCl [(I, .int), (J, .long)] s) (hN : xNw s) (hXX : xX (fun q : Nat => s.heap.size ≤ q) s s.heap) {k : Nat} (hk : 3 * k + 3 ≤ L) (b z : XBr) (o : MO) (a y : MS) (g : Nat → Int64) (hR : Rel b o a) (hmin : (b.1 0).toInt ≤ 240 * (k : Int)) (K : ∀ (b' z' : XBr) (o' : MO) (a' y' : MS) (g' : Nat → Int64), Rel b' o' a' → (b'.1 0).toInt ≤ 240 * ((k : Int) + 1) → ∀ (H : Heap) (locs : List Loc), va_P D vwCl ([cX h qb qt] ++ wB I qb (b') ++ wB I qt (z') ++ [cO J ao (g')] ++ wO I qo (qs 0) (qa 0) (o') ++ wS I qo qs (a') ++ wS I qo qa (y')) H → va_D (fun q : Nat => s.heap.size ≤ q) ([cX h qb qt] ++ wB I qb (b') ++ wB I qt (z') ++ [cO J ao (g')] ++ wO I qo (qs 0) (qa 0) (o') ++ wS I qo qs (a') ++ wS I qo qa (y')) → va_S (fun q : Nat => s.heap.size ≤ q) s.heap H locs → ∀ ls, lv_has ls 9 [(4, .int (nI (3 * k))), (0, .ref b0), (1, .ref h), (2, .ref (qo 0)), (3, .ref ao)] → W p l e room_1 s m #[Value.ref b0] below meth c H locs (40 + 300 * (k + 1)) (1100 + 2100 * (k + 1)) (lw_Z below #[Value.ref b0] s) (F0 m 961 ls [])) : ∀ (H : Heap) (locs : List Loc), va_P D vwCl ([cX h qb qt] ++ wB I qb b ++ wB I qt z ++ [cO J ao g] ++ wO I qo (qs 0) (qa 0) o ++ wS I qo qs a ++ wS I qo qa y) H → va_D (fun q : Nat => s.heap.size ≤ q) ([cX h qb qt] ++ wB I qb b ++ wB I qt z ++ [cO J ao g] ++ wO I qo (qs 0) (qa 0) o ++ wS I qo qs a ++ wS I qo qa y) → va_S (fun q : Nat => s.heap.size ≤ q) s.heap H locs → ∀ ls, lv_has ls 9 [(4, .int (nI (3 * k))), (0, .ref b0), (1, .ref h), (2, .ref (qo 0)), (3, .ref ao)] → W p l e room_1 s m #[Value.ref b0] below meth c H locs (40 + 300 * k) (1100 + 2100 * k) (lw_Z below #[Value.ref b0] s) (F0 m 670 ls []) := by
  obtain ⟨hx, hb, hr, hml, hown, hts0, hX, hbl, hlocks, hgv⟩ := C0
  have hts : ∀ w ∈ wsL_law, w.before #[Value.ref b0] s = true := fun w h => hts0 w (wsL_law_in w h)
  have hA : ∀ q : Nat, s.heap.size ≤ q → (fun q : Nat => s.heap.size ≤ q) q := fun _ h => h
  have hbA : ¬ (fun q : Nat => s.heap.size ≤ q) b0 := Nat.not_le.mpr hbl
  have hK1 : va_K D vwCl [(I, .int)] s := hK.sub [0] rfl
  have hm9 : (b.1 0).toInt < 1000000000 := by omega
  have hm8 : (b.1 0).toInt < 1000000 := by omega
  obtain ⟨a1, a2, a3, a4'⟩ := ag_when hR hm8 (sc (3 * k + 1))
  have a4 := Int.le_trans a4' (show (b.1 0).toInt + 240 ≤ 240 * ((k : Int) + 1) by omega)
  intro H locs hP hD hS ls hl
  refine lv_aload_n hx hb dL_law_670 rfl (lv_at hl 2 rfl) ?_
  refine lv_aload_n hx hb dL_law_671 rfl (lv_at hl 1 rfl) ?_
  refine lv_iload hx hb dL_law_672 (lv_at hl 0 rfl) ?_
  refine lv_iconst (v := (1 : Int32)) hx hb dL_law_674 (by decide) ?_
  refine lv_iadd hx hb dL_law_675 ?_
  refine W.eq (congrArg (fun z => F0 m 676 ls (.int z :: [.ref b0, .ref h])) (nI_add (3 * k) 1)) ?_
  refine va_sld hx hb hX hbl hbA hS (vp_in_nI (n := (3 * k + 1)) (by omega) (by omega)) dL_law_676 ?_
  refine W.eq (congrArg (fun z => F0 m 677 ls (.int (sc z) :: [.ref h])) (nI_clamp (n := (3 * k + 1)) (by omega))) ?_
  refine lv_aload_n hx hb dL_law_677 rfl (lv_at hl 4 rfl) ?_
  refine xk_callL ([cMO qo (qs 0) (qa 0) o.1, cA I (qo 1) 40 (o.2 0), cA I (qo 2) 40 (o.2 1), cA I (qo 3) 40 (o.2 2), cA I (qo 4) 8 (o.2 3), cMS qo qs a.1, cA I (qs 1) 40 (a.2 0), cA I (qs 2) 40 (a.2 1), cA I (qs 3) 40 (a.2 2), cA I (qs 4) 40 (a.2 3), cMS qo qa y.1, cA I (qa 1) 40 (y.2 0), cA I (qa 2) 40 (y.2 1), cA I (qa 3) 40 (y.2 2), cA I (qa 4) 40 (y.2 3)]) (fun v : XBr × (Nat → Int64) => [cX h qb qt] ++ wB I qb b ++ wB I qt v.1 ++ [cO J ao v.2] ++ wO I qo (qs 0) (qa 0) o ++ wS I qo qs a ++ wS I qo qa y) [0, 1, 2, 3, 4, 5, 6, 7, 8, 9, 10, 11, 12, 13, 14, 15, 16, 17, 18, 19] [20, 21, 22, 23, 24, 25, 26, 27, 28, 29, 30, 31, 32, 33, 34] [15, 16, 17, 18, 19, 20, 21, 22, 23, 24, 25, 26, 27, 28, 29, 30, 31, 32, 33, 34, 0, 1, 2, 3, 4, 5, 6, 7, 8, 9, 10, 11, 12, 13, 14] hP hD hS hA (vx_runSX (As := [.ref h, .int (sc (3 * k + 1)), .ref ao]) (rest := []) ⟨hx, hb, hml, hown, hts⟩ (c_L_when l hlt D I J h qb qt ao H.size b z g (sc (3 * k + 1)) hR.nB hR.m0 hm9 hR.z) (vx_cwSW 3 hts gL_law_L_when rfl rfl rfl (by decide +kernel) ⟨Nat.le_of_ble_eq_true rfl, Nat.le_of_ble_eq_true rfl⟩) (xk_preX (wc := [cX h qb qt] ++ wB I qb b ++ wB I qt z ++ [cO J ao g]) hN hXX hS hA hP hK hD [0, 1, 2, 3, 4, 5, 6, 7, 8, 9, 10, 11, 12, 13, 14, 15, 16, 17, 18, 19] rfl rfl) rfl rfl hl.1 rfl (lv_room (Nat.le_of_ble_eq_true rfl)) dL_law_678 ⟨by show _ ≤ 601024; omega, by show _ ≤ 7293034; omega⟩) rfl rfl rfl (by decide) rfl (fun _ => rfl) (fun z_1 H locs hk_1 hP hD hS => ?_)
  have hP : va_P D vwCl ([cX h qb qt] ++ wB I qb b ++ wB I qt z_1.1 ++ [cO J ao z_1.2] ++ wO I qo (qs 0) (qa 0) o ++ wS I qo qs a ++ wS I qo qa y) H := hP
  have hD : va_D (fun q : Nat => s.heap.size ≤ q) ([cX h qb qt] ++ wB I qb b ++ wB I qt z_1.1 ++ [cO J ao z_1.2] ++ wO I qo (qs 0) (qa 0) o ++ wS I qo qs a ++ wS I qo qa y) := hD
  refine lv_istore (lv' := [(5, .int (x_X2_when b (sc (3 * k + 1)))), (4, .int (nI (3 * k))), (0, .ref b0), (1, .ref h), (2, .ref (qo 0)), (3, .ref ao)]) hx hb dL_law_681 hl (by decide) rfl (fun ls hl => ?_)
  refine lv_aload_n hx hb dL_law_683 rfl (lv_at hl 4 rfl) ?_
  refine lv_aload_n hx hb dL_law_684 rfl (lv_at hl 2 rfl) ?_
  refine lv_iload hx hb dL_law_685 (lv_at hl 1 rfl) ?_
  refine lv_iconst (v := (1 : Int32)) hx hb dL_law_687 (by decide) ?_
  refine lv_iadd hx hb dL_law_688 ?_
  refine W.eq (congrArg (fun z => F0 m 689 ls (.int z :: [.ref b0, .ref (qo 0)])) (nI_add (3 * k) 1)) ?_
  refine va_sld hx hb hX hbl hbA hS (vp_in_nI (n := (3 * k + 1)) (by omega) (by omega)) dL_law_689 ?_
  refine W.eq (congrArg (fun z => F0 m 690 ls (.int (sc z) :: [.ref (qo 0)])) (nI_clamp (n := (3 * k + 1)) (by omega))) ?_
  refine xk_calliE ([cX h qb qt, cXB qb b.1, cA I (qb 1) 8 b.2.1, cXT qb b.2.2.1, cA I (qb 3) 40 (b.2.2.2 0), cA I (qb 4) 40 (b.2.2.2 1), cA I (qb 5) 40 (b.2.2.2 2), cA I (qb 6) 40 (b.2.2.2 3), cA I (qb 7) 40 (b.2.2.2 4), cA I (qb 8) 40 (b.2.2.2 5), cXB qt z_1.1.1, cA I (qt 1) 8 z_1.1.2.1, cXT qt z_1.1.2.2.1, cA I (qt 3) 40 (z_1.1.2.2.2 0), cA I (qt 4) 40 (z_1.1.2.2.2 1), cA I (qt 5) 40 (z_1.1.2.2.2 2), cA I (qt 6) 40 (z_1.1.2.2.2 3), cA I (qt 7) 40 (z_1.1.2.2.2 4), cA I (qt 8) 40 (z_1.1.2.2.2 5), cO J ao z_1.2]) (fun v : MS => [cX h qb qt] ++ wB I qb b ++ wB I qt z_1.1 ++ [cO J ao z_1.2] ++ wO I qo (qs 0) (qa 0) (s_X4_when o a (sc (3 * k + 1))) ++ wS I qo qs a ++ wS I qo qa v) [20, 21, 22, 23, 24, 25, 26, 27, 28, 29, 30, 31, 32, 33, 34] [0, 1, 2, 3, 4, 5, 6, 7, 8, 9, 10, 11, 12, 13, 14, 15, 16, 17, 18, 19] [0, 1, 2, 3, 4, 5, 6, 7, 8, 9, 10, 11, 12, 13, 14, 15, 16, 17, 18, 19, 20, 21, 22, 23, 24, 25, 26, 27, 28, 29, 30, 31, 32, 33, 34] hP hD hS hA (va_runV (As := [.int (sc (3 * k + 1))]) (rest := []) ⟨hx, hb, hml, hown, hts⟩ (c_X4_when l D I qo qs qa H.size o a y (sc (3 * k + 1)) hR.nO hR.p (hR.me ▸ hR.m0) (hR.me ▸ hm9)) (cwV 1 hts gL_law_X4_when rfl rfl rfl (by decide +kernel) ⟨Nat.le_of_ble_eq_true rfl, Nat.le_of_ble_eq_true rfl⟩) (xk_preV (wc := wO I qo (qs 0) (qa 0) o ++ wS I qo qs a ++ wS I qo qa y) (q0 := 20) (ci := 4) hN hP hK1 hD [20, 21, 22, 23, 24, 25, 26, 27, 28, 29, 30, 31, 32, 33, 34] rfl rfl rfl rfl) rfl rfl hl.1 rfl (lv_room (Nat.le_of_ble_eq_true rfl)) dL_law_690 ⟨by show _ ≤ 601024; omega, by show _ ≤ 7293034; omega⟩) rfl rfl rfl (by decide) rfl (fun _ => rfl) (fun z_2 H locs hP hD hS => ?_)
  have hP : va_P D vwCl ([cX h qb qt] ++ wB I qb b ++ wB I qt z_1.1 ++ [cO J ao z_1.2] ++ wO I qo (qs 0) (qa 0) (s_X4_when o a (sc (3 * k + 1))) ++ wS I qo qs a ++ wS I qo qa z_2) H := hP
  have hD : va_D (fun q : Nat => s.heap.size ≤ q) ([cX h qb qt] ++ wB I qb b ++ wB I qt z_1.1 ++ [cO J ao z_1.2] ++ wO I qo (qs 0) (qa 0) (s_X4_when o a (sc (3 * k + 1))) ++ wS I qo qs a ++ wS I qo qa z_2) := hD
  generalize hz_3 : s_X4_when o a (sc (3 * k + 1)) = z_3 at hP hD
  refine lv_istore (lv' := [(6, .int (r_X4_when o a (sc (3 * k + 1)))), (5, .int (x_X2_when b (sc (3 * k + 1)))), (4, .int (nI (3 * k))), (0, .ref b0), (1, .ref h), (2, .ref (qo 0)), (3, .ref ao)]) hx hb dL_law_693 hl (by decide) rfl (fun ls hl => ?_)
  refine lv_aload_n hx hb dL_law_695 rfl (lv_at hl 5 rfl) ?_
  refine xk_calli ([cX h qb qt, cXB qb b.1, cA I (qb 1) 8 b.2.1, cXT qb b.2.2.1, cA I (qb 3) 40 (b.2.2.2 0), cA I (qb 4) 40 (b.2.2.2 1), cA I (qb 5) 40 (b.2.2.2 2), cA I (qb 6) 40 (b.2.2.2 3), cA I (qb 7) 40 (b.2.2.2 4), cA I (qb 8) 40 (b.2.2.2 5), cXB qt z_1.1.1, cA I (qt 1) 8 z_1.1.2.1, cXT qt z_1.1.2.2.1, cA I (qt 3) 40 (z_1.1.2.2.2 0), cA I (qt 4) 40 (z_1.1.2.2.2 1), cA I (qt 5) 40 (z_1.1.2.2.2 2), cA I (qt 6) 40 (z_1.1.2.2.2 3), cA I (qt 7) 40 (z_1.1.2.2.2 4), cA I (qt 8) 40 (z_1.1.2.2.2 5), cO J ao z_1.2, cMS qo qs a.1, cA I (qs 1) 40 (a.2 0), cA I (qs 2) 40 (a.2 1), cA I (qs 3) 40 (a.2 2), cA I (qs 4) 40 (a.2 3), cMS qo qa z_2.1, cA I (qa 1) 40 (z_2.2 0), cA I (qa 2) 40 (z_2.2 1), cA I (qa 3) 40 (z_2.2 2), cA I (qa 4) 40 (z_2.2 3)]) ([cX h qb qt] ++ wB I qb b ++ wB I qt z_1.1 ++ [cO J ao z_1.2] ++ wO I qo (qs 0) (qa 0) z_3 ++ wS I qo qs a ++ wS I qo qa z_2) [20, 21, 22, 23, 24] [0, 1, 2, 3, 4, 5, 6, 7, 8, 9, 10, 11, 12, 13, 14, 15, 16, 17, 18, 19, 25, 26, 27, 28, 29, 30, 31, 32, 33, 34] [0, 1, 2, 3, 4, 5, 6, 7, 8, 9, 10, 11, 12, 13, 14, 15, 16, 17, 18, 19, 30, 31, 32, 33, 34, 20, 21, 22, 23, 24, 25, 26, 27, 28, 29] hP hD hS hA (va_runV (As := []) (rest := []) ⟨hx, hb, hml, hown, hts⟩ (c_X4_thrown l D I qo (qs 0) (qa 0) H.size z_3 ) (cwV 0 hts gL_law_X4_thrown rfl rfl rfl (by decide +kernel) ⟨Nat.le_of_ble_eq_true rfl, Nat.le_of_ble_eq_true rfl⟩) (xk_preV (wc := wO I qo (qs 0) (qa 0) z_3) (q0 := 20) (ci := 4) hN hP hK1 hD [20, 21, 22, 23, 24] rfl rfl rfl rfl) rfl rfl hl.1 rfl (lv_room (Nat.le_of_ble_eq_true rfl)) dL_law_696 ⟨by show _ ≤ 601024; omega, by show _ ≤ 7293034; omega⟩) rfl rfl rfl (by decide) rfl rfl (fun H locs hP hD hS => ?_)
  refine lv_iload hx hb dL_law_699 (lv_at hl 1 rfl) ?_
  refine lv_icmp_eq (tgt := 706) hx hb dL_law_701 (by decide) (fun c_1 => ?_) (fun c_1 => ?_)
  · refine lv_iload hx hb dL_law_706 (lv_at hl 1 rfl) ?_
    refine lv_if_ne (tgt := 723) hx hb dL_law_708 (by decide) (fun c_2 => ?_) (fun c_2 => ?_)
    · refine lv_goto (tgt := 961) hx hb dL_law_723 (by decide) ?_
      subst hz_3
      refine W.widen (k := 40 + 300 * (k + 1)) (n := 1100 + 2100 * (k + 1)) (by omega) (by omega) ?_
      exact K _ _ _ _ _ _ a3 a4 _ _ hP hD hS ls (lv_sub hl [2, 3, 4, 5, 6] rfl)
    · refine lv_aload_n hx hb dL_law_711 rfl (lv_at hl 6 rfl) ?_
      refine lv_iconst (v := (0 : Int32)) hx hb dL_law_712 (by decide) ?_
      refine va_lald (f := z_1.2) hx hb hK hP 19 1 rfl rfl (vinN (n := 1) (by decide) (by decide)) dL_law_713 ?_
      refine W.eq (congrArg (fun z => F0 m 714 ls (.long (z_1.2 z) :: [])) (show (0 : Int32).toNatClampNeg = 0 by decide)) ?_
      refine lv_iload hx hb dL_law_714 (lv_at hl 0 rfl) ?_
      refine lv_i2l (v := (r_X4_when o a (sc (3 * k + 1))).toInt64) hx hb dL_law_716 rfl ?_
      refine W.lcmp hx hb dL_law_717 ?_
      refine lv_if_eq (tgt := 723) hx hb dL_law_718 (by decide) (fun c_3 => ?_) (fun c_3 => ?_)
      · refine lv_goto (tgt := 961) hx hb dL_law_723 (by decide) ?_
        subst hz_3
        refine W.widen (k := 40 + 300 * (k + 1)) (n := 1100 + 2100 * (k + 1)) (by omega) (by omega) ?_
        exact K _ _ _ _ _ _ a3 a4 _ _ hP hD hS ls (lv_sub hl [2, 3, 4, 5, 6] rfl)
      · exact absurd (by rw [hk_1 c_2, a2 c_2]; exact lg_self _) c_3
  · exact absurd (by subst hz_3; exact a1.symm) c_1

set_option maxHeartbeats 2000000 in
set_option maxRecDepth 100000 in
theorem law_foresee (l : Launch) (hlt : l.stackTraces = false) {p : Program} {e : Env} {s : State} {m : MethodId} {below : List Frame} {meth : Method} {c : Code} {D : va_G} {I J : ClassId} {h ao : Nat} {qb qt qo qs qa : Nat → Nat} {b0 L : Nat} {sc : Nat → Int32} (hL : L ≤ 1536) (C0 : lw_At p s m meth c b0 L sc) (hK : va_K D vwCl [(I, .int), (J, .long)] s) (hN : xNw s) (hXX : xX (fun q : Nat => s.heap.size ≤ q) s s.heap) {k : Nat} (hk : 3 * k + 3 ≤ L) (b z : XBr) (o : MO) (a y : MS) (g : Nat → Int64) (hR : Rel b o a) (hmin : (b.1 0).toInt ≤ 240 * (k : Int)) (K : ∀ (b' z' : XBr) (o' : MO) (a' y' : MS) (g' : Nat → Int64), Rel b' o' a' → (b'.1 0).toInt ≤ 240 * ((k : Int) + 1) → ∀ (H : Heap) (locs : List Loc), va_P D vwCl ([cX h qb qt] ++ wB I qb (b') ++ wB I qt (z') ++ [cO J ao (g')] ++ wO I qo (qs 0) (qa 0) (o') ++ wS I qo qs (a') ++ wS I qo qa (y')) H → va_D (fun q : Nat => s.heap.size ≤ q) ([cX h qb qt] ++ wB I qb (b') ++ wB I qt (z') ++ [cO J ao (g')] ++ wO I qo (qs 0) (qa 0) (o') ++ wS I qo qs (a') ++ wS I qo qa (y')) → va_S (fun q : Nat => s.heap.size ≤ q) s.heap H locs → ∀ ls, lv_has ls 9 [(4, .int (nI (3 * k))), (0, .ref b0), (1, .ref h), (2, .ref (qo 0)), (3, .ref ao)] → W p l e room_1 s m #[Value.ref b0] below meth c H locs (40 + 300 * (k + 1)) (1100 + 2100 * (k + 1)) (lw_Z below #[Value.ref b0] s) (F0 m 961 ls [])) : ∀ (H : Heap) (locs : List Loc), va_P D vwCl ([cX h qb qt] ++ wB I qb b ++ wB I qt z ++ [cO J ao g] ++ wO I qo (qs 0) (qa 0) o ++ wS I qo qs a ++ wS I qo qa y) H → va_D (fun q : Nat => s.heap.size ≤ q) ([cX h qb qt] ++ wB I qb b ++ wB I qt z ++ [cO J ao g] ++ wO I qo (qs 0) (qa 0) o ++ wS I qo qs a ++ wS I qo qa y) → va_S (fun q : Nat => s.heap.size ≤ q) s.heap H locs → ∀ ls, lv_has ls 9 [(4, .int (nI (3 * k))), (0, .ref b0), (1, .ref h), (2, .ref (qo 0)), (3, .ref ao)] → W p l e room_1 s m #[Value.ref b0] below meth c H locs (40 + 300 * k) (1100 + 2100 * k) (lw_Z below #[Value.ref b0] s) (F0 m 726 ls []) := by
  obtain ⟨hx, hb, hr, hml, hown, hts0, hX, hbl, hlocks, hgv⟩ := C0
  have hts : ∀ w ∈ wsL_law, w.before #[Value.ref b0] s = true := fun w h => hts0 w (wsL_law_in w h)
  have hA : ∀ q : Nat, s.heap.size ≤ q → (fun q : Nat => s.heap.size ≤ q) q := fun _ h => h
  have hbA : ¬ (fun q : Nat => s.heap.size ≤ q) b0 := Nat.not_le.mpr hbl
  have hK1 : va_K D vwCl [(I, .int)] s := hK.sub [0] rfl
  have hm9 : (b.1 0).toInt < 1000000000 := by omega
  have hm8 : (b.1 0).toInt < 1000000 := by omega
  obtain ⟨a1, a2, a3, a4'⟩ := ag_foresee hR hm8 (sc (3 * k + 1)) (sc (3 * k + 2))
  have a4 := Int.le_trans a4' (show (b.1 0).toInt + 240 ≤ 240 * ((k : Int) + 1) by omega)
  intro H locs hP hD hS ls hl
  refine lv_aload_n hx hb dL_law_726 rfl (lv_at hl 2 rfl) ?_
  refine lv_aload_n hx hb dL_law_727 rfl (lv_at hl 1 rfl) ?_
  refine lv_iload hx hb dL_law_728 (lv_at hl 0 rfl) ?_
  refine lv_iconst (v := (1 : Int32)) hx hb dL_law_730 (by decide) ?_
  refine lv_iadd hx hb dL_law_731 ?_
  refine W.eq (congrArg (fun z => F0 m 732 ls (.int z :: [.ref b0, .ref h])) (nI_add (3 * k) 1)) ?_
  refine va_sld hx hb hX hbl hbA hS (vp_in_nI (n := (3 * k + 1)) (by omega) (by omega)) dL_law_732 ?_
  refine W.eq (congrArg (fun z => F0 m 733 ls (.int (sc z) :: [.ref h])) (nI_clamp (n := (3 * k + 1)) (by omega))) ?_
  refine lv_aload_n hx hb dL_law_733 rfl (lv_at hl 1 rfl) ?_
  refine lv_iload hx hb dL_law_734 (lv_at hl 0 rfl) ?_
  refine lv_iconst (v := (2 : Int32)) hx hb dL_law_736 (by decide) ?_
  refine lv_iadd hx hb dL_law_737 ?_
  refine W.eq (congrArg (fun z => F0 m 738 ls (.int z :: [.ref b0, .int (sc (3 * k + 1)), .ref h])) (nI_add (3 * k) 2)) ?_
  refine va_sld hx hb hX hbl hbA hS (vp_in_nI (n := (3 * k + 2)) (by omega) (by omega)) dL_law_738 ?_
  refine W.eq (congrArg (fun z => F0 m 739 ls (.int (sc z) :: [.int (sc (3 * k + 1)), .ref h])) (nI_clamp (n := (3 * k + 2)) (by omega))) ?_
  refine lv_aload_n hx hb dL_law_739 rfl (lv_at hl 4 rfl) ?_
  refine xk_callL ([cMO qo (qs 0) (qa 0) o.1, cA I (qo 1) 40 (o.2 0), cA I (qo 2) 40 (o.2 1), cA I (qo 3) 40 (o.2 2), cA I (qo 4) 8 (o.2 3), cMS qo qs a.1, cA I (qs 1) 40 (a.2 0), cA I (qs 2) 40 (a.2 1), cA I (qs 3) 40 (a.2 2), cA I (qs 4) 40 (a.2 3), cMS qo qa y.1, cA I (qa 1) 40 (y.2 0), cA I (qa 2) 40 (y.2 1), cA I (qa 3) 40 (y.2 2), cA I (qa 4) 40 (y.2 3)]) (fun v : XBr × (Nat → Int64) => [cX h qb qt] ++ wB I qb b ++ wB I qt v.1 ++ [cO J ao v.2] ++ wO I qo (qs 0) (qa 0) o ++ wS I qo qs a ++ wS I qo qa y) [0, 1, 2, 3, 4, 5, 6, 7, 8, 9, 10, 11, 12, 13, 14, 15, 16, 17, 18, 19] [20, 21, 22, 23, 24, 25, 26, 27, 28, 29, 30, 31, 32, 33, 34] [15, 16, 17, 18, 19, 20, 21, 22, 23, 24, 25, 26, 27, 28, 29, 30, 31, 32, 33, 34, 0, 1, 2, 3, 4, 5, 6, 7, 8, 9, 10, 11, 12, 13, 14] hP hD hS hA (vx_runSX (As := [.ref h, .int (sc (3 * k + 1)), .int (sc (3 * k + 2)), .ref ao]) (rest := []) ⟨hx, hb, hml, hown, hts⟩ (c_L_foresee l hlt D I J h qb qt ao H.size b z g (sc (3 * k + 1)) (sc (3 * k + 2)) hR.nB hR.m0 hm9 hR.z) (vx_cwSW 4 hts gL_law_L_foresee rfl rfl rfl (by decide +kernel) ⟨Nat.le_of_ble_eq_true rfl, Nat.le_of_ble_eq_true rfl⟩) (xk_preX (wc := [cX h qb qt] ++ wB I qb b ++ wB I qt z ++ [cO J ao g]) hN hXX hS hA hP hK hD [0, 1, 2, 3, 4, 5, 6, 7, 8, 9, 10, 11, 12, 13, 14, 15, 16, 17, 18, 19] rfl rfl) rfl rfl hl.1 rfl (lv_room (Nat.le_of_ble_eq_true rfl)) dL_law_740 ⟨by show _ ≤ 601024; omega, by show _ ≤ 7293034; omega⟩) rfl rfl rfl (by decide) rfl (fun _ => rfl) (fun z_1 H locs hk_1 hP hD hS => ?_)
  have hP : va_P D vwCl ([cX h qb qt] ++ wB I qb b ++ wB I qt z_1.1 ++ [cO J ao z_1.2] ++ wO I qo (qs 0) (qa 0) o ++ wS I qo qs a ++ wS I qo qa y) H := hP
  have hD : va_D (fun q : Nat => s.heap.size ≤ q) ([cX h qb qt] ++ wB I qb b ++ wB I qt z_1.1 ++ [cO J ao z_1.2] ++ wO I qo (qs 0) (qa 0) o ++ wS I qo qs a ++ wS I qo qa y) := hD
  refine lv_istore (lv' := [(5, .int (x_X2_foresee b (sc (3 * k + 1)) (sc (3 * k + 2)))), (4, .int (nI (3 * k))), (0, .ref b0), (1, .ref h), (2, .ref (qo 0)), (3, .ref ao)]) hx hb dL_law_743 hl (by decide) rfl (fun ls hl => ?_)
  refine lv_aload_n hx hb dL_law_745 rfl (lv_at hl 4 rfl) ?_
  refine lv_aload_n hx hb dL_law_746 rfl (lv_at hl 2 rfl) ?_
  refine lv_iload hx hb dL_law_747 (lv_at hl 1 rfl) ?_
  refine lv_iconst (v := (1 : Int32)) hx hb dL_law_749 (by decide) ?_
  refine lv_iadd hx hb dL_law_750 ?_
  refine W.eq (congrArg (fun z => F0 m 751 ls (.int z :: [.ref b0, .ref (qo 0)])) (nI_add (3 * k) 1)) ?_
  refine va_sld hx hb hX hbl hbA hS (vp_in_nI (n := (3 * k + 1)) (by omega) (by omega)) dL_law_751 ?_
  refine W.eq (congrArg (fun z => F0 m 752 ls (.int (sc z) :: [.ref (qo 0)])) (nI_clamp (n := (3 * k + 1)) (by omega))) ?_
  refine lv_aload_n hx hb dL_law_752 rfl (lv_at hl 2 rfl) ?_
  refine lv_iload hx hb dL_law_753 (lv_at hl 1 rfl) ?_
  refine lv_iconst (v := (2 : Int32)) hx hb dL_law_755 (by decide) ?_
  refine lv_iadd hx hb dL_law_756 ?_
  refine W.eq (congrArg (fun z => F0 m 757 ls (.int z :: [.ref b0, .int (sc (3 * k + 1)), .ref (qo 0)])) (nI_add (3 * k) 2)) ?_
  refine va_sld hx hb hX hbl hbA hS (vp_in_nI (n := (3 * k + 2)) (by omega) (by omega)) dL_law_757 ?_
  refine W.eq (congrArg (fun z => F0 m 758 ls (.int (sc z) :: [.int (sc (3 * k + 1)), .ref (qo 0)])) (nI_clamp (n := (3 * k + 2)) (by omega))) ?_
  refine xk_calliE ([cX h qb qt, cXB qb b.1, cA I (qb 1) 8 b.2.1, cXT qb b.2.2.1, cA I (qb 3) 40 (b.2.2.2 0), cA I (qb 4) 40 (b.2.2.2 1), cA I (qb 5) 40 (b.2.2.2 2), cA I (qb 6) 40 (b.2.2.2 3), cA I (qb 7) 40 (b.2.2.2 4), cA I (qb 8) 40 (b.2.2.2 5), cXB qt z_1.1.1, cA I (qt 1) 8 z_1.1.2.1, cXT qt z_1.1.2.2.1, cA I (qt 3) 40 (z_1.1.2.2.2 0), cA I (qt 4) 40 (z_1.1.2.2.2 1), cA I (qt 5) 40 (z_1.1.2.2.2 2), cA I (qt 6) 40 (z_1.1.2.2.2 3), cA I (qt 7) 40 (z_1.1.2.2.2 4), cA I (qt 8) 40 (z_1.1.2.2.2 5), cO J ao z_1.2]) (fun v : MS => [cX h qb qt] ++ wB I qb b ++ wB I qt z_1.1 ++ [cO J ao z_1.2] ++ wO I qo (qs 0) (qa 0) (s_X4_foresee o a (sc (3 * k + 1)) (sc (3 * k + 2))) ++ wS I qo qs a ++ wS I qo qa v) [20, 21, 22, 23, 24, 25, 26, 27, 28, 29, 30, 31, 32, 33, 34] [0, 1, 2, 3, 4, 5, 6, 7, 8, 9, 10, 11, 12, 13, 14, 15, 16, 17, 18, 19] [0, 1, 2, 3, 4, 5, 6, 7, 8, 9, 10, 11, 12, 13, 14, 15, 16, 17, 18, 19, 20, 21, 22, 23, 24, 25, 26, 27, 28, 29, 30, 31, 32, 33, 34] hP hD hS hA (va_runV (As := [.int (sc (3 * k + 1)), .int (sc (3 * k + 2))]) (rest := []) ⟨hx, hb, hml, hown, hts⟩ (c_X4_foresee l D I qo qs qa H.size o a y (sc (3 * k + 1)) (sc (3 * k + 2)) hR.nO hR.p (hR.me ▸ hR.m0) (hR.me ▸ hm9)) (cwV 2 hts gL_law_X4_foresee rfl rfl rfl (by decide +kernel) ⟨Nat.le_of_ble_eq_true rfl, Nat.le_of_ble_eq_true rfl⟩) (xk_preV (wc := wO I qo (qs 0) (qa 0) o ++ wS I qo qs a ++ wS I qo qa y) (q0 := 20) (ci := 4) hN hP hK1 hD [20, 21, 22, 23, 24, 25, 26, 27, 28, 29, 30, 31, 32, 33, 34] rfl rfl rfl rfl) rfl rfl hl.1 rfl (lv_room (Nat.le_of_ble_eq_true rfl)) dL_law_758 ⟨by show _ ≤ 601024; omega, by show _ ≤ 7293034; omega⟩) rfl rfl rfl (by decide) rfl (fun _ => rfl) (fun z_2 H locs hP hD hS => ?_)
  have hP : va_P D vwCl ([cX h qb qt] ++ wB I qb b ++ wB I qt z_1.1 ++ [cO J ao z_1.2] ++ wO I qo (qs 0) (qa 0) (s_X4_foresee o a (sc (3 * k + 1)) (sc (3 * k + 2))) ++ wS I qo qs a ++ wS I qo qa z_2) H := hP
  have hD : va_D (fun q : Nat => s.heap.size ≤ q) ([cX h qb qt] ++ wB I qb b ++ wB I qt z_1.1 ++ [cO J ao z_1.2] ++ wO I qo (qs 0) (qa 0) (s_X4_foresee o a (sc (3 * k + 1)) (sc (3 * k + 2))) ++ wS I qo qs a ++ wS I qo qa z_2) := hD
  generalize hz_3 : s_X4_foresee o a (sc (3 * k + 1)) (sc (3 * k + 2)) = z_3 at hP hD
  refine lv_istore (lv' := [(6, .int (r_X4_foresee o a (sc (3 * k + 1)) (sc (3 * k + 2)))), (5, .int (x_X2_foresee b (sc (3 * k + 1)) (sc (3 * k + 2)))), (4, .int (nI (3 * k))), (0, .ref b0), (1, .ref h), (2, .ref (qo 0)), (3, .ref ao)]) hx hb dL_law_761 hl (by decide) rfl (fun ls hl => ?_)
  refine lv_aload_n hx hb dL_law_763 rfl (lv_at hl 5 rfl) ?_
  refine xk_calli ([cX h qb qt, cXB qb b.1, cA I (qb 1) 8 b.2.1, cXT qb b.2.2.1, cA I (qb 3) 40 (b.2.2.2 0), cA I (qb 4) 40 (b.2.2.2 1), cA I (qb 5) 40 (b.2.2.2 2), cA I (qb 6) 40 (b.2.2.2 3), cA I (qb 7) 40 (b.2.2.2 4), cA I (qb 8) 40 (b.2.2.2 5), cXB qt z_1.1.1, cA I (qt 1) 8 z_1.1.2.1, cXT qt z_1.1.2.2.1, cA I (qt 3) 40 (z_1.1.2.2.2 0), cA I (qt 4) 40 (z_1.1.2.2.2 1), cA I (qt 5) 40 (z_1.1.2.2.2 2), cA I (qt 6) 40 (z_1.1.2.2.2 3), cA I (qt 7) 40 (z_1.1.2.2.2 4), cA I (qt 8) 40 (z_1.1.2.2.2 5), cO J ao z_1.2, cMS qo qs a.1, cA I (qs 1) 40 (a.2 0), cA I (qs 2) 40 (a.2 1), cA I (qs 3) 40 (a.2 2), cA I (qs 4) 40 (a.2 3), cMS qo qa z_2.1, cA I (qa 1) 40 (z_2.2 0), cA I (qa 2) 40 (z_2.2 1), cA I (qa 3) 40 (z_2.2 2), cA I (qa 4) 40 (z_2.2 3)]) ([cX h qb qt] ++ wB I qb b ++ wB I qt z_1.1 ++ [cO J ao z_1.2] ++ wO I qo (qs 0) (qa 0) z_3 ++ wS I qo qs a ++ wS I qo qa z_2) [20, 21, 22, 23, 24] [0, 1, 2, 3, 4, 5, 6, 7, 8, 9, 10, 11, 12, 13, 14, 15, 16, 17, 18, 19, 25, 26, 27, 28, 29, 30, 31, 32, 33, 34] [0, 1, 2, 3, 4, 5, 6, 7, 8, 9, 10, 11, 12, 13, 14, 15, 16, 17, 18, 19, 30, 31, 32, 33, 34, 20, 21, 22, 23, 24, 25, 26, 27, 28, 29] hP hD hS hA (va_runV (As := []) (rest := []) ⟨hx, hb, hml, hown, hts⟩ (c_X4_thrown l D I qo (qs 0) (qa 0) H.size z_3 ) (cwV 0 hts gL_law_X4_thrown rfl rfl rfl (by decide +kernel) ⟨Nat.le_of_ble_eq_true rfl, Nat.le_of_ble_eq_true rfl⟩) (xk_preV (wc := wO I qo (qs 0) (qa 0) z_3) (q0 := 20) (ci := 4) hN hP hK1 hD [20, 21, 22, 23, 24] rfl rfl rfl rfl) rfl rfl hl.1 rfl (lv_room (Nat.le_of_ble_eq_true rfl)) dL_law_764 ⟨by show _ ≤ 601024; omega, by show _ ≤ 7293034; omega⟩) rfl rfl rfl (by decide) rfl rfl (fun H locs hP hD hS => ?_)
  refine lv_iload hx hb dL_law_767 (lv_at hl 1 rfl) ?_
  refine lv_icmp_eq (tgt := 774) hx hb dL_law_769 (by decide) (fun c_1 => ?_) (fun c_1 => ?_)
  · refine lv_iload hx hb dL_law_774 (lv_at hl 1 rfl) ?_
    refine lv_if_ne (tgt := 791) hx hb dL_law_776 (by decide) (fun c_2 => ?_) (fun c_2 => ?_)
    · refine lv_goto (tgt := 961) hx hb dL_law_791 (by decide) ?_
      subst hz_3
      refine W.widen (k := 40 + 300 * (k + 1)) (n := 1100 + 2100 * (k + 1)) (by omega) (by omega) ?_
      exact K _ _ _ _ _ _ a3 a4 _ _ hP hD hS ls (lv_sub hl [2, 3, 4, 5, 6] rfl)
    · refine lv_aload_n hx hb dL_law_779 rfl (lv_at hl 6 rfl) ?_
      refine lv_iconst (v := (0 : Int32)) hx hb dL_law_780 (by decide) ?_
      refine va_lald (f := z_1.2) hx hb hK hP 19 1 rfl rfl (vinN (n := 1) (by decide) (by decide)) dL_law_781 ?_
      refine W.eq (congrArg (fun z => F0 m 782 ls (.long (z_1.2 z) :: [])) (show (0 : Int32).toNatClampNeg = 0 by decide)) ?_
      refine lv_iload hx hb dL_law_782 (lv_at hl 0 rfl) ?_
      refine lv_i2l (v := (r_X4_foresee o a (sc (3 * k + 1)) (sc (3 * k + 2))).toInt64) hx hb dL_law_784 rfl ?_
      refine W.lcmp hx hb dL_law_785 ?_
      refine lv_if_eq (tgt := 791) hx hb dL_law_786 (by decide) (fun c_3 => ?_) (fun c_3 => ?_)
      · refine lv_goto (tgt := 961) hx hb dL_law_791 (by decide) ?_
        subst hz_3
        refine W.widen (k := 40 + 300 * (k + 1)) (n := 1100 + 2100 * (k + 1)) (by omega) (by omega) ?_
        exact K _ _ _ _ _ _ a3 a4 _ _ hP hD hS ls (lv_sub hl [2, 3, 4, 5, 6] rfl)
      · exact absurd (by rw [hk_1 c_2, a2 c_2]; exact lg_self _) c_3
  · exact absurd (by subst hz_3; exact a1.symm) c_1

set_option maxHeartbeats 2000000 in
set_option maxRecDepth 100000 in
theorem law_bestCode (l : Launch) (hlt : l.stackTraces = false) {p : Program} {e : Env} {s : State} {m : MethodId} {below : List Frame} {meth : Method} {c : Code} {D : va_G} {I J : ClassId} {h ao : Nat} {qb qt qo qs qa : Nat → Nat} {b0 L : Nat} {sc : Nat → Int32} (hL : L ≤ 1536) (C0 : lw_At p s m meth c b0 L sc) (hK : va_K D vwCl [(I, .int), (J, .long)] s) (hN : xNw s) (hXX : xX (fun q : Nat => s.heap.size ≤ q) s s.heap) {k : Nat} (hk : 3 * k + 3 ≤ L) (b z : XBr) (o : MO) (a y : MS) (g : Nat → Int64) (hR : Rel b o a) (hmin : (b.1 0).toInt ≤ 240 * (k : Int)) (K : ∀ (b' z' : XBr) (o' : MO) (a' y' : MS) (g' : Nat → Int64), Rel b' o' a' → (b'.1 0).toInt ≤ 240 * ((k : Int) + 1) → ∀ (H : Heap) (locs : List Loc), va_P D vwCl ([cX h qb qt] ++ wB I qb (b') ++ wB I qt (z') ++ [cO J ao (g')] ++ wO I qo (qs 0) (qa 0) (o') ++ wS I qo qs (a') ++ wS I qo qa (y')) H → va_D (fun q : Nat => s.heap.size ≤ q) ([cX h qb qt] ++ wB I qb (b') ++ wB I qt (z') ++ [cO J ao (g')] ++ wO I qo (qs 0) (qa 0) (o') ++ wS I qo qs (a') ++ wS I qo qa (y')) → va_S (fun q : Nat => s.heap.size ≤ q) s.heap H locs → ∀ ls, lv_has ls 9 [(4, .int (nI (3 * k))), (0, .ref b0), (1, .ref h), (2, .ref (qo 0)), (3, .ref ao)] → W p l e room_1 s m #[Value.ref b0] below meth c H locs (40 + 300 * (k + 1)) (1100 + 2100 * (k + 1)) (lw_Z below #[Value.ref b0] s) (F0 m 961 ls [])) : ∀ (H : Heap) (locs : List Loc), va_P D vwCl ([cX h qb qt] ++ wB I qb b ++ wB I qt z ++ [cO J ao g] ++ wO I qo (qs 0) (qa 0) o ++ wS I qo qs a ++ wS I qo qa y) H → va_D (fun q : Nat => s.heap.size ≤ q) ([cX h qb qt] ++ wB I qb b ++ wB I qt z ++ [cO J ao g] ++ wO I qo (qs 0) (qa 0) o ++ wS I qo qs a ++ wS I qo qa y) → va_S (fun q : Nat => s.heap.size ≤ q) s.heap H locs → ∀ ls, lv_has ls 9 [(4, .int (nI (3 * k))), (0, .ref b0), (1, .ref h), (2, .ref (qo 0)), (3, .ref ao)] → W p l e room_1 s m #[Value.ref b0] below meth c H locs (40 + 300 * k) (1100 + 2100 * k) (lw_Z below #[Value.ref b0] s) (F0 m 794 ls []) := by
  obtain ⟨hx, hb, hr, hml, hown, hts0, hX, hbl, hlocks, hgv⟩ := C0
  have hts : ∀ w ∈ wsL_law, w.before #[Value.ref b0] s = true := fun w h => hts0 w (wsL_law_in w h)
  have hA : ∀ q : Nat, s.heap.size ≤ q → (fun q : Nat => s.heap.size ≤ q) q := fun _ h => h
  have hbA : ¬ (fun q : Nat => s.heap.size ≤ q) b0 := Nat.not_le.mpr hbl
  have hK1 : va_K D vwCl [(I, .int)] s := hK.sub [0] rfl
  have hm9 : (b.1 0).toInt < 1000000000 := by omega
  have hm8 : (b.1 0).toInt < 1000000 := by omega
  obtain ⟨a1, a2, a3, a4'⟩ := ag_bestCode hR hm8 (sc (3 * k + 1))
  have a4 := Int.le_trans a4' (show (b.1 0).toInt + 240 ≤ 240 * ((k : Int) + 1) by omega)
  intro H locs hP hD hS ls hl
  refine lv_aload_n hx hb dL_law_794 rfl (lv_at hl 2 rfl) ?_
  refine lv_aload_n hx hb dL_law_795 rfl (lv_at hl 1 rfl) ?_
  refine lv_iload hx hb dL_law_796 (lv_at hl 0 rfl) ?_
  refine lv_iconst (v := (1 : Int32)) hx hb dL_law_798 (by decide) ?_
  refine lv_iadd hx hb dL_law_799 ?_
  refine W.eq (congrArg (fun z => F0 m 800 ls (.int z :: [.ref b0, .ref h])) (nI_add (3 * k) 1)) ?_
  refine va_sld hx hb hX hbl hbA hS (vp_in_nI (n := (3 * k + 1)) (by omega) (by omega)) dL_law_800 ?_
  refine W.eq (congrArg (fun z => F0 m 801 ls (.int (sc z) :: [.ref h])) (nI_clamp (n := (3 * k + 1)) (by omega))) ?_
  refine lv_aload_n hx hb dL_law_801 rfl (lv_at hl 4 rfl) ?_
  refine xk_callL ([cMO qo (qs 0) (qa 0) o.1, cA I (qo 1) 40 (o.2 0), cA I (qo 2) 40 (o.2 1), cA I (qo 3) 40 (o.2 2), cA I (qo 4) 8 (o.2 3), cMS qo qs a.1, cA I (qs 1) 40 (a.2 0), cA I (qs 2) 40 (a.2 1), cA I (qs 3) 40 (a.2 2), cA I (qs 4) 40 (a.2 3), cMS qo qa y.1, cA I (qa 1) 40 (y.2 0), cA I (qa 2) 40 (y.2 1), cA I (qa 3) 40 (y.2 2), cA I (qa 4) 40 (y.2 3)]) (fun v : XBr × (Nat → Int64) => [cX h qb qt] ++ wB I qb b ++ wB I qt v.1 ++ [cO J ao v.2] ++ wO I qo (qs 0) (qa 0) o ++ wS I qo qs a ++ wS I qo qa y) [0, 1, 2, 3, 4, 5, 6, 7, 8, 9, 10, 11, 12, 13, 14, 15, 16, 17, 18, 19] [20, 21, 22, 23, 24, 25, 26, 27, 28, 29, 30, 31, 32, 33, 34] [15, 16, 17, 18, 19, 20, 21, 22, 23, 24, 25, 26, 27, 28, 29, 30, 31, 32, 33, 34, 0, 1, 2, 3, 4, 5, 6, 7, 8, 9, 10, 11, 12, 13, 14] hP hD hS hA (vx_runSX (As := [.ref h, .int (sc (3 * k + 1)), .ref ao]) (rest := []) ⟨hx, hb, hml, hown, hts⟩ (c_L_bestCode l hlt D I J h qb qt ao H.size b z g (sc (3 * k + 1)) hR.nB hR.m0 hm9 hR.z) (vx_cwSW 3 hts gL_law_L_bestCode rfl rfl rfl (by decide +kernel) ⟨Nat.le_of_ble_eq_true rfl, Nat.le_of_ble_eq_true rfl⟩) (xk_preX (wc := [cX h qb qt] ++ wB I qb b ++ wB I qt z ++ [cO J ao g]) hN hXX hS hA hP hK hD [0, 1, 2, 3, 4, 5, 6, 7, 8, 9, 10, 11, 12, 13, 14, 15, 16, 17, 18, 19] rfl rfl) rfl rfl hl.1 rfl (lv_room (Nat.le_of_ble_eq_true rfl)) dL_law_802 ⟨by show _ ≤ 601024; omega, by show _ ≤ 7293034; omega⟩) rfl rfl rfl (by decide) rfl (fun _ => rfl) (fun z_1 H locs hk_1 hP hD hS => ?_)
  have hP : va_P D vwCl ([cX h qb qt] ++ wB I qb b ++ wB I qt z_1.1 ++ [cO J ao z_1.2] ++ wO I qo (qs 0) (qa 0) o ++ wS I qo qs a ++ wS I qo qa y) H := hP
  have hD : va_D (fun q : Nat => s.heap.size ≤ q) ([cX h qb qt] ++ wB I qb b ++ wB I qt z_1.1 ++ [cO J ao z_1.2] ++ wO I qo (qs 0) (qa 0) o ++ wS I qo qs a ++ wS I qo qa y) := hD
  refine lv_istore (lv' := [(5, .int (x_X2_bestCode b (sc (3 * k + 1)))), (4, .int (nI (3 * k))), (0, .ref b0), (1, .ref h), (2, .ref (qo 0)), (3, .ref ao)]) hx hb dL_law_805 hl (by decide) rfl (fun ls hl => ?_)
  refine lv_aload_n hx hb dL_law_807 rfl (lv_at hl 4 rfl) ?_
  refine lv_aload_n hx hb dL_law_808 rfl (lv_at hl 2 rfl) ?_
  refine lv_iload hx hb dL_law_809 (lv_at hl 1 rfl) ?_
  refine lv_iconst (v := (1 : Int32)) hx hb dL_law_811 (by decide) ?_
  refine lv_iadd hx hb dL_law_812 ?_
  refine W.eq (congrArg (fun z => F0 m 813 ls (.int z :: [.ref b0, .ref (qo 0)])) (nI_add (3 * k) 1)) ?_
  refine va_sld hx hb hX hbl hbA hS (vp_in_nI (n := (3 * k + 1)) (by omega) (by omega)) dL_law_813 ?_
  refine W.eq (congrArg (fun z => F0 m 814 ls (.int (sc z) :: [.ref (qo 0)])) (nI_clamp (n := (3 * k + 1)) (by omega))) ?_
  refine xk_calliE ([cX h qb qt, cXB qb b.1, cA I (qb 1) 8 b.2.1, cXT qb b.2.2.1, cA I (qb 3) 40 (b.2.2.2 0), cA I (qb 4) 40 (b.2.2.2 1), cA I (qb 5) 40 (b.2.2.2 2), cA I (qb 6) 40 (b.2.2.2 3), cA I (qb 7) 40 (b.2.2.2 4), cA I (qb 8) 40 (b.2.2.2 5), cXB qt z_1.1.1, cA I (qt 1) 8 z_1.1.2.1, cXT qt z_1.1.2.2.1, cA I (qt 3) 40 (z_1.1.2.2.2 0), cA I (qt 4) 40 (z_1.1.2.2.2 1), cA I (qt 5) 40 (z_1.1.2.2.2 2), cA I (qt 6) 40 (z_1.1.2.2.2 3), cA I (qt 7) 40 (z_1.1.2.2.2 4), cA I (qt 8) 40 (z_1.1.2.2.2 5), cO J ao z_1.2]) (fun v : MS => [cX h qb qt] ++ wB I qb b ++ wB I qt z_1.1 ++ [cO J ao z_1.2] ++ wO I qo (qs 0) (qa 0) (s_X4_bestCode o a (sc (3 * k + 1))) ++ wS I qo qs a ++ wS I qo qa v) [20, 21, 22, 23, 24, 25, 26, 27, 28, 29, 30, 31, 32, 33, 34] [0, 1, 2, 3, 4, 5, 6, 7, 8, 9, 10, 11, 12, 13, 14, 15, 16, 17, 18, 19] [0, 1, 2, 3, 4, 5, 6, 7, 8, 9, 10, 11, 12, 13, 14, 15, 16, 17, 18, 19, 20, 21, 22, 23, 24, 25, 26, 27, 28, 29, 30, 31, 32, 33, 34] hP hD hS hA (va_runV (As := [.int (sc (3 * k + 1))]) (rest := []) ⟨hx, hb, hml, hown, hts⟩ (c_X4_bestCode l D I qo qs qa H.size o a y (sc (3 * k + 1)) hR.nO hR.p (hR.me ▸ hR.m0) (hR.me ▸ hm9)) (cwV 1 hts gL_law_X4_bestCode rfl rfl rfl (by decide +kernel) ⟨Nat.le_of_ble_eq_true rfl, Nat.le_of_ble_eq_true rfl⟩) (xk_preV (wc := wO I qo (qs 0) (qa 0) o ++ wS I qo qs a ++ wS I qo qa y) (q0 := 20) (ci := 4) hN hP hK1 hD [20, 21, 22, 23, 24, 25, 26, 27, 28, 29, 30, 31, 32, 33, 34] rfl rfl rfl rfl) rfl rfl hl.1 rfl (lv_room (Nat.le_of_ble_eq_true rfl)) dL_law_814 ⟨by show _ ≤ 601024; omega, by show _ ≤ 7293034; omega⟩) rfl rfl rfl (by decide) rfl (fun _ => rfl) (fun z_2 H locs hP hD hS => ?_)
  have hP : va_P D vwCl ([cX h qb qt] ++ wB I qb b ++ wB I qt z_1.1 ++ [cO J ao z_1.2] ++ wO I qo (qs 0) (qa 0) (s_X4_bestCode o a (sc (3 * k + 1))) ++ wS I qo qs a ++ wS I qo qa z_2) H := hP
  have hD : va_D (fun q : Nat => s.heap.size ≤ q) ([cX h qb qt] ++ wB I qb b ++ wB I qt z_1.1 ++ [cO J ao z_1.2] ++ wO I qo (qs 0) (qa 0) (s_X4_bestCode o a (sc (3 * k + 1))) ++ wS I qo qs a ++ wS I qo qa z_2) := hD
  generalize hz_3 : s_X4_bestCode o a (sc (3 * k + 1)) = z_3 at hP hD
  refine lv_istore (lv' := [(6, .int (r_X4_bestCode o a (sc (3 * k + 1)))), (5, .int (x_X2_bestCode b (sc (3 * k + 1)))), (4, .int (nI (3 * k))), (0, .ref b0), (1, .ref h), (2, .ref (qo 0)), (3, .ref ao)]) hx hb dL_law_817 hl (by decide) rfl (fun ls hl => ?_)
  refine lv_aload_n hx hb dL_law_819 rfl (lv_at hl 5 rfl) ?_
  refine xk_calli ([cX h qb qt, cXB qb b.1, cA I (qb 1) 8 b.2.1, cXT qb b.2.2.1, cA I (qb 3) 40 (b.2.2.2 0), cA I (qb 4) 40 (b.2.2.2 1), cA I (qb 5) 40 (b.2.2.2 2), cA I (qb 6) 40 (b.2.2.2 3), cA I (qb 7) 40 (b.2.2.2 4), cA I (qb 8) 40 (b.2.2.2 5), cXB qt z_1.1.1, cA I (qt 1) 8 z_1.1.2.1, cXT qt z_1.1.2.2.1, cA I (qt 3) 40 (z_1.1.2.2.2 0), cA I (qt 4) 40 (z_1.1.2.2.2 1), cA I (qt 5) 40 (z_1.1.2.2.2 2), cA I (qt 6) 40 (z_1.1.2.2.2 3), cA I (qt 7) 40 (z_1.1.2.2.2 4), cA I (qt 8) 40 (z_1.1.2.2.2 5), cO J ao z_1.2, cMS qo qs a.1, cA I (qs 1) 40 (a.2 0), cA I (qs 2) 40 (a.2 1), cA I (qs 3) 40 (a.2 2), cA I (qs 4) 40 (a.2 3), cMS qo qa z_2.1, cA I (qa 1) 40 (z_2.2 0), cA I (qa 2) 40 (z_2.2 1), cA I (qa 3) 40 (z_2.2 2), cA I (qa 4) 40 (z_2.2 3)]) ([cX h qb qt] ++ wB I qb b ++ wB I qt z_1.1 ++ [cO J ao z_1.2] ++ wO I qo (qs 0) (qa 0) z_3 ++ wS I qo qs a ++ wS I qo qa z_2) [20, 21, 22, 23, 24] [0, 1, 2, 3, 4, 5, 6, 7, 8, 9, 10, 11, 12, 13, 14, 15, 16, 17, 18, 19, 25, 26, 27, 28, 29, 30, 31, 32, 33, 34] [0, 1, 2, 3, 4, 5, 6, 7, 8, 9, 10, 11, 12, 13, 14, 15, 16, 17, 18, 19, 30, 31, 32, 33, 34, 20, 21, 22, 23, 24, 25, 26, 27, 28, 29] hP hD hS hA (va_runV (As := []) (rest := []) ⟨hx, hb, hml, hown, hts⟩ (c_X4_thrown l D I qo (qs 0) (qa 0) H.size z_3 ) (cwV 0 hts gL_law_X4_thrown rfl rfl rfl (by decide +kernel) ⟨Nat.le_of_ble_eq_true rfl, Nat.le_of_ble_eq_true rfl⟩) (xk_preV (wc := wO I qo (qs 0) (qa 0) z_3) (q0 := 20) (ci := 4) hN hP hK1 hD [20, 21, 22, 23, 24] rfl rfl rfl rfl) rfl rfl hl.1 rfl (lv_room (Nat.le_of_ble_eq_true rfl)) dL_law_820 ⟨by show _ ≤ 601024; omega, by show _ ≤ 7293034; omega⟩) rfl rfl rfl (by decide) rfl rfl (fun H locs hP hD hS => ?_)
  refine lv_iload hx hb dL_law_823 (lv_at hl 1 rfl) ?_
  refine lv_icmp_eq (tgt := 830) hx hb dL_law_825 (by decide) (fun c_1 => ?_) (fun c_1 => ?_)
  · refine lv_iload hx hb dL_law_830 (lv_at hl 1 rfl) ?_
    refine lv_if_ne (tgt := 847) hx hb dL_law_832 (by decide) (fun c_2 => ?_) (fun c_2 => ?_)
    · refine lv_goto (tgt := 961) hx hb dL_law_847 (by decide) ?_
      subst hz_3
      refine W.widen (k := 40 + 300 * (k + 1)) (n := 1100 + 2100 * (k + 1)) (by omega) (by omega) ?_
      exact K _ _ _ _ _ _ a3 a4 _ _ hP hD hS ls (lv_sub hl [2, 3, 4, 5, 6] rfl)
    · refine lv_aload_n hx hb dL_law_835 rfl (lv_at hl 6 rfl) ?_
      refine lv_iconst (v := (0 : Int32)) hx hb dL_law_836 (by decide) ?_
      refine va_lald (f := z_1.2) hx hb hK hP 19 1 rfl rfl (vinN (n := 1) (by decide) (by decide)) dL_law_837 ?_
      refine W.eq (congrArg (fun z => F0 m 838 ls (.long (z_1.2 z) :: [])) (show (0 : Int32).toNatClampNeg = 0 by decide)) ?_
      refine lv_iload hx hb dL_law_838 (lv_at hl 0 rfl) ?_
      refine lv_i2l (v := (r_X4_bestCode o a (sc (3 * k + 1))).toInt64) hx hb dL_law_840 rfl ?_
      refine W.lcmp hx hb dL_law_841 ?_
      refine lv_if_eq (tgt := 847) hx hb dL_law_842 (by decide) (fun c_3 => ?_) (fun c_3 => ?_)
      · refine lv_goto (tgt := 961) hx hb dL_law_847 (by decide) ?_
        subst hz_3
        refine W.widen (k := 40 + 300 * (k + 1)) (n := 1100 + 2100 * (k + 1)) (by omega) (by omega) ?_
        exact K _ _ _ _ _ _ a3 a4 _ _ hP hD hS ls (lv_sub hl [2, 3, 4, 5, 6] rfl)
      · exact absurd (by rw [hk_1 c_2, a2 c_2]; exact lg_self _) c_3
  · exact absurd (by subst hz_3; exact a1.symm) c_1

set_option maxHeartbeats 2000000 in
set_option maxRecDepth 100000 in
theorem law_bestPoise (l : Launch) (hlt : l.stackTraces = false) {p : Program} {e : Env} {s : State} {m : MethodId} {below : List Frame} {meth : Method} {c : Code} {D : va_G} {I J : ClassId} {h ao : Nat} {qb qt qo qs qa : Nat → Nat} {b0 L : Nat} {sc : Nat → Int32} (hL : L ≤ 1536) (C0 : lw_At p s m meth c b0 L sc) (hK : va_K D vwCl [(I, .int), (J, .long)] s) (hN : xNw s) (hXX : xX (fun q : Nat => s.heap.size ≤ q) s s.heap) {k : Nat} (hk : 3 * k + 3 ≤ L) (b z : XBr) (o : MO) (a y : MS) (g : Nat → Int64) (hR : Rel b o a) (hmin : (b.1 0).toInt ≤ 240 * (k : Int)) (K : ∀ (b' z' : XBr) (o' : MO) (a' y' : MS) (g' : Nat → Int64), Rel b' o' a' → (b'.1 0).toInt ≤ 240 * ((k : Int) + 1) → ∀ (H : Heap) (locs : List Loc), va_P D vwCl ([cX h qb qt] ++ wB I qb (b') ++ wB I qt (z') ++ [cO J ao (g')] ++ wO I qo (qs 0) (qa 0) (o') ++ wS I qo qs (a') ++ wS I qo qa (y')) H → va_D (fun q : Nat => s.heap.size ≤ q) ([cX h qb qt] ++ wB I qb (b') ++ wB I qt (z') ++ [cO J ao (g')] ++ wO I qo (qs 0) (qa 0) (o') ++ wS I qo qs (a') ++ wS I qo qa (y')) → va_S (fun q : Nat => s.heap.size ≤ q) s.heap H locs → ∀ ls, lv_has ls 9 [(4, .int (nI (3 * k))), (0, .ref b0), (1, .ref h), (2, .ref (qo 0)), (3, .ref ao)] → W p l e room_1 s m #[Value.ref b0] below meth c H locs (40 + 300 * (k + 1)) (1100 + 2100 * (k + 1)) (lw_Z below #[Value.ref b0] s) (F0 m 961 ls [])) : ∀ (H : Heap) (locs : List Loc), va_P D vwCl ([cX h qb qt] ++ wB I qb b ++ wB I qt z ++ [cO J ao g] ++ wO I qo (qs 0) (qa 0) o ++ wS I qo qs a ++ wS I qo qa y) H → va_D (fun q : Nat => s.heap.size ≤ q) ([cX h qb qt] ++ wB I qb b ++ wB I qt z ++ [cO J ao g] ++ wO I qo (qs 0) (qa 0) o ++ wS I qo qs a ++ wS I qo qa y) → va_S (fun q : Nat => s.heap.size ≤ q) s.heap H locs → ∀ ls, lv_has ls 9 [(4, .int (nI (3 * k))), (0, .ref b0), (1, .ref h), (2, .ref (qo 0)), (3, .ref ao)] → W p l e room_1 s m #[Value.ref b0] below meth c H locs (40 + 300 * k) (1100 + 2100 * k) (lw_Z below #[Value.ref b0] s) (F0 m 850 ls []) := by
  obtain ⟨hx, hb, hr, hml, hown, hts0, hX, hbl, hlocks, hgv⟩ := C0
  have hts : ∀ w ∈ wsL_law, w.before #[Value.ref b0] s = true := fun w h => hts0 w (wsL_law_in w h)
  have hA : ∀ q : Nat, s.heap.size ≤ q → (fun q : Nat => s.heap.size ≤ q) q := fun _ h => h
  have hbA : ¬ (fun q : Nat => s.heap.size ≤ q) b0 := Nat.not_le.mpr hbl
  have hK1 : va_K D vwCl [(I, .int)] s := hK.sub [0] rfl
  have hm9 : (b.1 0).toInt < 1000000000 := by omega
  have hm8 : (b.1 0).toInt < 1000000 := by omega
  obtain ⟨a1, a2, a3, a4'⟩ := ag_bestPoise hR hm8 (sc (3 * k + 1))
  have a4 := Int.le_trans a4' (show (b.1 0).toInt + 240 ≤ 240 * ((k : Int) + 1) by omega)
  intro H locs hP hD hS ls hl
  refine lv_aload_n hx hb dL_law_850 rfl (lv_at hl 2 rfl) ?_
  refine lv_aload_n hx hb dL_law_851 rfl (lv_at hl 1 rfl) ?_
  refine lv_iload hx hb dL_law_852 (lv_at hl 0 rfl) ?_
  refine lv_iconst (v := (1 : Int32)) hx hb dL_law_854 (by decide) ?_
  refine lv_iadd hx hb dL_law_855 ?_
  refine W.eq (congrArg (fun z => F0 m 856 ls (.int z :: [.ref b0, .ref h])) (nI_add (3 * k) 1)) ?_
  refine va_sld hx hb hX hbl hbA hS (vp_in_nI (n := (3 * k + 1)) (by omega) (by omega)) dL_law_856 ?_
  refine W.eq (congrArg (fun z => F0 m 857 ls (.int (sc z) :: [.ref h])) (nI_clamp (n := (3 * k + 1)) (by omega))) ?_
  refine lv_aload_n hx hb dL_law_857 rfl (lv_at hl 4 rfl) ?_
  refine xk_callL ([cMO qo (qs 0) (qa 0) o.1, cA I (qo 1) 40 (o.2 0), cA I (qo 2) 40 (o.2 1), cA I (qo 3) 40 (o.2 2), cA I (qo 4) 8 (o.2 3), cMS qo qs a.1, cA I (qs 1) 40 (a.2 0), cA I (qs 2) 40 (a.2 1), cA I (qs 3) 40 (a.2 2), cA I (qs 4) 40 (a.2 3), cMS qo qa y.1, cA I (qa 1) 40 (y.2 0), cA I (qa 2) 40 (y.2 1), cA I (qa 3) 40 (y.2 2), cA I (qa 4) 40 (y.2 3)]) (fun v : XBr × (Nat → Int64) => [cX h qb qt] ++ wB I qb b ++ wB I qt v.1 ++ [cO J ao v.2] ++ wO I qo (qs 0) (qa 0) o ++ wS I qo qs a ++ wS I qo qa y) [0, 1, 2, 3, 4, 5, 6, 7, 8, 9, 10, 11, 12, 13, 14, 15, 16, 17, 18, 19] [20, 21, 22, 23, 24, 25, 26, 27, 28, 29, 30, 31, 32, 33, 34] [15, 16, 17, 18, 19, 20, 21, 22, 23, 24, 25, 26, 27, 28, 29, 30, 31, 32, 33, 34, 0, 1, 2, 3, 4, 5, 6, 7, 8, 9, 10, 11, 12, 13, 14] hP hD hS hA (vx_runSX (As := [.ref h, .int (sc (3 * k + 1)), .ref ao]) (rest := []) ⟨hx, hb, hml, hown, hts⟩ (c_L_bestPoise l hlt D I J h qb qt ao H.size b z g (sc (3 * k + 1)) hR.nB hR.m0 hm9 hR.z) (vx_cwSW 3 hts gL_law_L_bestPoise rfl rfl rfl (by decide +kernel) ⟨Nat.le_of_ble_eq_true rfl, Nat.le_of_ble_eq_true rfl⟩) (xk_preX (wc := [cX h qb qt] ++ wB I qb b ++ wB I qt z ++ [cO J ao g]) hN hXX hS hA hP hK hD [0, 1, 2, 3, 4, 5, 6, 7, 8, 9, 10, 11, 12, 13, 14, 15, 16, 17, 18, 19] rfl rfl) rfl rfl hl.1 rfl (lv_room (Nat.le_of_ble_eq_true rfl)) dL_law_858 ⟨by show _ ≤ 601024; omega, by show _ ≤ 7293034; omega⟩) rfl rfl rfl (by decide) rfl (fun _ => rfl) (fun z_1 H locs hk_1 hP hD hS => ?_)
  have hP : va_P D vwCl ([cX h qb qt] ++ wB I qb b ++ wB I qt z_1.1 ++ [cO J ao z_1.2] ++ wO I qo (qs 0) (qa 0) o ++ wS I qo qs a ++ wS I qo qa y) H := hP
  have hD : va_D (fun q : Nat => s.heap.size ≤ q) ([cX h qb qt] ++ wB I qb b ++ wB I qt z_1.1 ++ [cO J ao z_1.2] ++ wO I qo (qs 0) (qa 0) o ++ wS I qo qs a ++ wS I qo qa y) := hD
  refine lv_istore (lv' := [(5, .int (x_X2_bestPoise b (sc (3 * k + 1)))), (4, .int (nI (3 * k))), (0, .ref b0), (1, .ref h), (2, .ref (qo 0)), (3, .ref ao)]) hx hb dL_law_861 hl (by decide) rfl (fun ls hl => ?_)
  refine lv_aload_n hx hb dL_law_863 rfl (lv_at hl 4 rfl) ?_
  refine lv_aload_n hx hb dL_law_864 rfl (lv_at hl 2 rfl) ?_
  refine lv_iload hx hb dL_law_865 (lv_at hl 1 rfl) ?_
  refine lv_iconst (v := (1 : Int32)) hx hb dL_law_867 (by decide) ?_
  refine lv_iadd hx hb dL_law_868 ?_
  refine W.eq (congrArg (fun z => F0 m 869 ls (.int z :: [.ref b0, .ref (qo 0)])) (nI_add (3 * k) 1)) ?_
  refine va_sld hx hb hX hbl hbA hS (vp_in_nI (n := (3 * k + 1)) (by omega) (by omega)) dL_law_869 ?_
  refine W.eq (congrArg (fun z => F0 m 870 ls (.int (sc z) :: [.ref (qo 0)])) (nI_clamp (n := (3 * k + 1)) (by omega))) ?_
  refine xk_calliE ([cX h qb qt, cXB qb b.1, cA I (qb 1) 8 b.2.1, cXT qb b.2.2.1, cA I (qb 3) 40 (b.2.2.2 0), cA I (qb 4) 40 (b.2.2.2 1), cA I (qb 5) 40 (b.2.2.2 2), cA I (qb 6) 40 (b.2.2.2 3), cA I (qb 7) 40 (b.2.2.2 4), cA I (qb 8) 40 (b.2.2.2 5), cXB qt z_1.1.1, cA I (qt 1) 8 z_1.1.2.1, cXT qt z_1.1.2.2.1, cA I (qt 3) 40 (z_1.1.2.2.2 0), cA I (qt 4) 40 (z_1.1.2.2.2 1), cA I (qt 5) 40 (z_1.1.2.2.2 2), cA I (qt 6) 40 (z_1.1.2.2.2 3), cA I (qt 7) 40 (z_1.1.2.2.2 4), cA I (qt 8) 40 (z_1.1.2.2.2 5), cO J ao z_1.2]) (fun v : MS => [cX h qb qt] ++ wB I qb b ++ wB I qt z_1.1 ++ [cO J ao z_1.2] ++ wO I qo (qs 0) (qa 0) (s_X4_bestPoise o a (sc (3 * k + 1))) ++ wS I qo qs a ++ wS I qo qa v) [20, 21, 22, 23, 24, 25, 26, 27, 28, 29, 30, 31, 32, 33, 34] [0, 1, 2, 3, 4, 5, 6, 7, 8, 9, 10, 11, 12, 13, 14, 15, 16, 17, 18, 19] [0, 1, 2, 3, 4, 5, 6, 7, 8, 9, 10, 11, 12, 13, 14, 15, 16, 17, 18, 19, 20, 21, 22, 23, 24, 25, 26, 27, 28, 29, 30, 31, 32, 33, 34] hP hD hS hA (va_runV (As := [.int (sc (3 * k + 1))]) (rest := []) ⟨hx, hb, hml, hown, hts⟩ (c_X4_bestPoise l D I qo qs qa H.size o a y (sc (3 * k + 1)) hR.nO hR.p (hR.me ▸ hR.m0) (hR.me ▸ hm9)) (cwV 1 hts gL_law_X4_bestPoise rfl rfl rfl (by decide +kernel) ⟨Nat.le_of_ble_eq_true rfl, Nat.le_of_ble_eq_true rfl⟩) (xk_preV (wc := wO I qo (qs 0) (qa 0) o ++ wS I qo qs a ++ wS I qo qa y) (q0 := 20) (ci := 4) hN hP hK1 hD [20, 21, 22, 23, 24, 25, 26, 27, 28, 29, 30, 31, 32, 33, 34] rfl rfl rfl rfl) rfl rfl hl.1 rfl (lv_room (Nat.le_of_ble_eq_true rfl)) dL_law_870 ⟨by show _ ≤ 601024; omega, by show _ ≤ 7293034; omega⟩) rfl rfl rfl (by decide) rfl (fun _ => rfl) (fun z_2 H locs hP hD hS => ?_)
  have hP : va_P D vwCl ([cX h qb qt] ++ wB I qb b ++ wB I qt z_1.1 ++ [cO J ao z_1.2] ++ wO I qo (qs 0) (qa 0) (s_X4_bestPoise o a (sc (3 * k + 1))) ++ wS I qo qs a ++ wS I qo qa z_2) H := hP
  have hD : va_D (fun q : Nat => s.heap.size ≤ q) ([cX h qb qt] ++ wB I qb b ++ wB I qt z_1.1 ++ [cO J ao z_1.2] ++ wO I qo (qs 0) (qa 0) (s_X4_bestPoise o a (sc (3 * k + 1))) ++ wS I qo qs a ++ wS I qo qa z_2) := hD
  generalize hz_3 : s_X4_bestPoise o a (sc (3 * k + 1)) = z_3 at hP hD
  refine lv_istore (lv' := [(6, .int (r_X4_bestPoise o a (sc (3 * k + 1)))), (5, .int (x_X2_bestPoise b (sc (3 * k + 1)))), (4, .int (nI (3 * k))), (0, .ref b0), (1, .ref h), (2, .ref (qo 0)), (3, .ref ao)]) hx hb dL_law_873 hl (by decide) rfl (fun ls hl => ?_)
  refine lv_aload_n hx hb dL_law_875 rfl (lv_at hl 5 rfl) ?_
  refine xk_calli ([cX h qb qt, cXB qb b.1, cA I (qb 1) 8 b.2.1, cXT qb b.2.2.1, cA I (qb 3) 40 (b.2.2.2 0), cA I (qb 4) 40 (b.2.2.2 1), cA I (qb 5) 40 (b.2.2.2 2), cA I (qb 6) 40 (b.2.2.2 3), cA I (qb 7) 40 (b.2.2.2 4), cA I (qb 8) 40 (b.2.2.2 5), cXB qt z_1.1.1, cA I (qt 1) 8 z_1.1.2.1, cXT qt z_1.1.2.2.1, cA I (qt 3) 40 (z_1.1.2.2.2 0), cA I (qt 4) 40 (z_1.1.2.2.2 1), cA I (qt 5) 40 (z_1.1.2.2.2 2), cA I (qt 6) 40 (z_1.1.2.2.2 3), cA I (qt 7) 40 (z_1.1.2.2.2 4), cA I (qt 8) 40 (z_1.1.2.2.2 5), cO J ao z_1.2, cMS qo qs a.1, cA I (qs 1) 40 (a.2 0), cA I (qs 2) 40 (a.2 1), cA I (qs 3) 40 (a.2 2), cA I (qs 4) 40 (a.2 3), cMS qo qa z_2.1, cA I (qa 1) 40 (z_2.2 0), cA I (qa 2) 40 (z_2.2 1), cA I (qa 3) 40 (z_2.2 2), cA I (qa 4) 40 (z_2.2 3)]) ([cX h qb qt] ++ wB I qb b ++ wB I qt z_1.1 ++ [cO J ao z_1.2] ++ wO I qo (qs 0) (qa 0) z_3 ++ wS I qo qs a ++ wS I qo qa z_2) [20, 21, 22, 23, 24] [0, 1, 2, 3, 4, 5, 6, 7, 8, 9, 10, 11, 12, 13, 14, 15, 16, 17, 18, 19, 25, 26, 27, 28, 29, 30, 31, 32, 33, 34] [0, 1, 2, 3, 4, 5, 6, 7, 8, 9, 10, 11, 12, 13, 14, 15, 16, 17, 18, 19, 30, 31, 32, 33, 34, 20, 21, 22, 23, 24, 25, 26, 27, 28, 29] hP hD hS hA (va_runV (As := []) (rest := []) ⟨hx, hb, hml, hown, hts⟩ (c_X4_thrown l D I qo (qs 0) (qa 0) H.size z_3 ) (cwV 0 hts gL_law_X4_thrown rfl rfl rfl (by decide +kernel) ⟨Nat.le_of_ble_eq_true rfl, Nat.le_of_ble_eq_true rfl⟩) (xk_preV (wc := wO I qo (qs 0) (qa 0) z_3) (q0 := 20) (ci := 4) hN hP hK1 hD [20, 21, 22, 23, 24] rfl rfl rfl rfl) rfl rfl hl.1 rfl (lv_room (Nat.le_of_ble_eq_true rfl)) dL_law_876 ⟨by show _ ≤ 601024; omega, by show _ ≤ 7293034; omega⟩) rfl rfl rfl (by decide) rfl rfl (fun H locs hP hD hS => ?_)
  refine lv_iload hx hb dL_law_879 (lv_at hl 1 rfl) ?_
  refine lv_icmp_eq (tgt := 886) hx hb dL_law_881 (by decide) (fun c_1 => ?_) (fun c_1 => ?_)
  · refine lv_iload hx hb dL_law_886 (lv_at hl 1 rfl) ?_
    refine lv_if_ne (tgt := 903) hx hb dL_law_888 (by decide) (fun c_2 => ?_) (fun c_2 => ?_)
    · refine lv_goto (tgt := 961) hx hb dL_law_903 (by decide) ?_
      subst hz_3
      refine W.widen (k := 40 + 300 * (k + 1)) (n := 1100 + 2100 * (k + 1)) (by omega) (by omega) ?_
      exact K _ _ _ _ _ _ a3 a4 _ _ hP hD hS ls (lv_sub hl [2, 3, 4, 5, 6] rfl)
    · refine lv_aload_n hx hb dL_law_891 rfl (lv_at hl 6 rfl) ?_
      refine lv_iconst (v := (0 : Int32)) hx hb dL_law_892 (by decide) ?_
      refine va_lald (f := z_1.2) hx hb hK hP 19 1 rfl rfl (vinN (n := 1) (by decide) (by decide)) dL_law_893 ?_
      refine W.eq (congrArg (fun z => F0 m 894 ls (.long (z_1.2 z) :: [])) (show (0 : Int32).toNatClampNeg = 0 by decide)) ?_
      refine lv_iload hx hb dL_law_894 (lv_at hl 0 rfl) ?_
      refine lv_i2l (v := (r_X4_bestPoise o a (sc (3 * k + 1))).toInt64) hx hb dL_law_896 rfl ?_
      refine W.lcmp hx hb dL_law_897 ?_
      refine lv_if_eq (tgt := 903) hx hb dL_law_898 (by decide) (fun c_3 => ?_) (fun c_3 => ?_)
      · refine lv_goto (tgt := 961) hx hb dL_law_903 (by decide) ?_
        subst hz_3
        refine W.widen (k := 40 + 300 * (k + 1)) (n := 1100 + 2100 * (k + 1)) (by omega) (by omega) ?_
        exact K _ _ _ _ _ _ a3 a4 _ _ hP hD hS ls (lv_sub hl [2, 3, 4, 5, 6] rfl)
      · exact absurd (by rw [hk_1 c_2, a2 c_2]; exact lg_self _) c_3
  · exact absurd (by subst hz_3; exact a1.symm) c_1

set_option maxHeartbeats 2000000 in
set_option maxRecDepth 100000 in
theorem law_mean (l : Launch) (hlt : l.stackTraces = false) {p : Program} {e : Env} {s : State} {m : MethodId} {below : List Frame} {meth : Method} {c : Code} {D : va_G} {I J : ClassId} {h ao : Nat} {qb qt qo qs qa : Nat → Nat} {b0 L : Nat} {sc : Nat → Int32} (hL : L ≤ 1536) (C0 : lw_At p s m meth c b0 L sc) (hK : va_K D vwCl [(I, .int), (J, .long)] s) (hN : xNw s) (hXX : xX (fun q : Nat => s.heap.size ≤ q) s s.heap) {k : Nat} (hk : 3 * k + 3 ≤ L) (b z : XBr) (o : MO) (a y : MS) (g : Nat → Int64) (hR : Rel b o a) (hmin : (b.1 0).toInt ≤ 240 * (k : Int)) (K : ∀ (b' z' : XBr) (o' : MO) (a' y' : MS) (g' : Nat → Int64), Rel b' o' a' → (b'.1 0).toInt ≤ 240 * ((k : Int) + 1) → ∀ (H : Heap) (locs : List Loc), va_P D vwCl ([cX h qb qt] ++ wB I qb (b') ++ wB I qt (z') ++ [cO J ao (g')] ++ wO I qo (qs 0) (qa 0) (o') ++ wS I qo qs (a') ++ wS I qo qa (y')) H → va_D (fun q : Nat => s.heap.size ≤ q) ([cX h qb qt] ++ wB I qb (b') ++ wB I qt (z') ++ [cO J ao (g')] ++ wO I qo (qs 0) (qa 0) (o') ++ wS I qo qs (a') ++ wS I qo qa (y')) → va_S (fun q : Nat => s.heap.size ≤ q) s.heap H locs → ∀ ls, lv_has ls 9 [(4, .int (nI (3 * k))), (0, .ref b0), (1, .ref h), (2, .ref (qo 0)), (3, .ref ao)] → W p l e room_1 s m #[Value.ref b0] below meth c H locs (40 + 300 * (k + 1)) (1100 + 2100 * (k + 1)) (lw_Z below #[Value.ref b0] s) (F0 m 961 ls [])) : ∀ (H : Heap) (locs : List Loc), va_P D vwCl ([cX h qb qt] ++ wB I qb b ++ wB I qt z ++ [cO J ao g] ++ wO I qo (qs 0) (qa 0) o ++ wS I qo qs a ++ wS I qo qa y) H → va_D (fun q : Nat => s.heap.size ≤ q) ([cX h qb qt] ++ wB I qb b ++ wB I qt z ++ [cO J ao g] ++ wO I qo (qs 0) (qa 0) o ++ wS I qo qs a ++ wS I qo qa y) → va_S (fun q : Nat => s.heap.size ≤ q) s.heap H locs → ∀ ls, lv_has ls 9 [(4, .int (nI (3 * k))), (0, .ref b0), (1, .ref h), (2, .ref (qo 0)), (3, .ref ao)] → W p l e room_1 s m #[Value.ref b0] below meth c H locs (40 + 300 * k) (1100 + 2100 * k) (lw_Z below #[Value.ref b0] s) (F0 m 906 ls []) := by
  obtain ⟨hx, hb, hr, hml, hown, hts0, hX, hbl, hlocks, hgv⟩ := C0
  have hts : ∀ w ∈ wsL_law, w.before #[Value.ref b0] s = true := fun w h => hts0 w (wsL_law_in w h)
  have hA : ∀ q : Nat, s.heap.size ≤ q → (fun q : Nat => s.heap.size ≤ q) q := fun _ h => h
  have hbA : ¬ (fun q : Nat => s.heap.size ≤ q) b0 := Nat.not_le.mpr hbl
  have hK1 : va_K D vwCl [(I, .int)] s := hK.sub [0] rfl
  have hm9 : (b.1 0).toInt < 1000000000 := by omega
  have hm8 : (b.1 0).toInt < 1000000 := by omega
  obtain ⟨a2, a3⟩ := ag_mean hR
  have a4 : (b.1 0).toInt ≤ 240 * ((k : Int) + 1) := by omega
  intro H locs hP hD hS ls hl
  refine lv_aload_n hx hb dL_law_906 rfl (lv_at hl 2 rfl) ?_
  refine xk_calld ([cO J ao g, cMO qo (qs 0) (qa 0) o.1, cA I (qo 1) 40 (o.2 0), cA I (qo 2) 40 (o.2 1), cA I (qo 3) 40 (o.2 2), cA I (qo 4) 8 (o.2 3), cMS qo qs a.1, cA I (qs 1) 40 (a.2 0), cA I (qs 2) 40 (a.2 1), cA I (qs 3) 40 (a.2 2), cA I (qs 4) 40 (a.2 3), cMS qo qa y.1, cA I (qa 1) 40 (y.2 0), cA I (qa 2) 40 (y.2 1), cA I (qa 3) 40 (y.2 2), cA I (qa 4) 40 (y.2 3)]) ([cX h qb qt] ++ wB I qb b ++ wB I qt z ++ [cO J ao g] ++ wO I qo (qs 0) (qa 0) o ++ wS I qo qs a ++ wS I qo qa y) [0, 1, 2, 3, 4, 5, 6, 7, 8, 9, 10, 11, 12, 13, 14, 15, 16, 17, 18] [19, 20, 21, 22, 23, 24, 25, 26, 27, 28, 29, 30, 31, 32, 33, 34] [16, 17, 18, 19, 20, 21, 22, 23, 24, 25, 26, 27, 28, 29, 30, 31, 32, 33, 34, 0, 1, 2, 3, 4, 5, 6, 7, 8, 9, 10, 11, 12, 13, 14, 15] hP hD hS hA (va_runV (As := []) (rest := []) ⟨hx, hb, hml, hown, hts⟩ (c_X2_mean l D I h qb qt H.size b z ) (cwV 0 hts gL_law_X2_mean rfl rfl rfl (by decide +kernel) ⟨Nat.le_of_ble_eq_true rfl, Nat.le_of_ble_eq_true rfl⟩) (xk_preV (wc := [cX h qb qt] ++ wB I qb b ++ wB I qt z) (q0 := 0) (ci := 2) hN hP hK1 hD [0, 1, 2, 3, 4, 5, 6, 7, 8, 9, 10, 11, 12, 13, 14, 15, 16, 17, 18] rfl rfl rfl rfl) rfl rfl hl.1 rfl (lv_room (Nat.le_of_ble_eq_true rfl)) dL_law_907 ⟨by show _ ≤ 601024; omega, by show _ ≤ 7293034; omega⟩) rfl rfl rfl (by decide) rfl rfl (fun H locs hP hD hS => ?_)
  refine lv_dstore (lv' := [(5, .double (r_X2_mean b)), (4, .int (nI (3 * k))), (0, .ref b0), (1, .ref h), (2, .ref (qo 0)), (3, .ref ao)]) hx hb dL_law_910 hl (by decide) rfl (fun ls hl => ?_)
  refine lv_aload_n hx hb dL_law_912 rfl (lv_at hl 4 rfl) ?_
  refine xk_calld ([cX h qb qt, cXB qb b.1, cA I (qb 1) 8 b.2.1, cXT qb b.2.2.1, cA I (qb 3) 40 (b.2.2.2 0), cA I (qb 4) 40 (b.2.2.2 1), cA I (qb 5) 40 (b.2.2.2 2), cA I (qb 6) 40 (b.2.2.2 3), cA I (qb 7) 40 (b.2.2.2 4), cA I (qb 8) 40 (b.2.2.2 5), cXB qt z.1, cA I (qt 1) 8 z.2.1, cXT qt z.2.2.1, cA I (qt 3) 40 (z.2.2.2 0), cA I (qt 4) 40 (z.2.2.2 1), cA I (qt 5) 40 (z.2.2.2 2), cA I (qt 6) 40 (z.2.2.2 3), cA I (qt 7) 40 (z.2.2.2 4), cA I (qt 8) 40 (z.2.2.2 5), cO J ao g]) ([cX h qb qt] ++ wB I qb b ++ wB I qt z ++ [cO J ao g] ++ wO I qo (qs 0) (qa 0) (s_X4_mean o a) ++ wS I qo qs a ++ wS I qo qa y) [20, 21, 22, 23, 24, 25, 26, 27, 28, 29, 30, 31, 32, 33, 34] [0, 1, 2, 3, 4, 5, 6, 7, 8, 9, 10, 11, 12, 13, 14, 15, 16, 17, 18, 19] [0, 1, 2, 3, 4, 5, 6, 7, 8, 9, 10, 11, 12, 13, 14, 15, 16, 17, 18, 19, 20, 21, 22, 23, 24, 25, 26, 27, 28, 29, 30, 31, 32, 33, 34] hP hD hS hA (va_runV (As := []) (rest := []) ⟨hx, hb, hml, hown, hts⟩ (c_X4_mean l D I qo qs qa H.size o a y hR.nO) (cwV 0 hts gL_law_X4_mean rfl rfl rfl (by decide +kernel) ⟨Nat.le_of_ble_eq_true rfl, Nat.le_of_ble_eq_true rfl⟩) (xk_preV (wc := wO I qo (qs 0) (qa 0) o ++ wS I qo qs a ++ wS I qo qa y) (q0 := 20) (ci := 4) hN hP hK1 hD [20, 21, 22, 23, 24, 25, 26, 27, 28, 29, 30, 31, 32, 33, 34] rfl rfl rfl rfl) rfl rfl hl.1 rfl (lv_room (Nat.le_of_ble_eq_true rfl)) dL_law_913 ⟨by show _ ≤ 601024; omega, by show _ ≤ 7293034; omega⟩) rfl rfl rfl (by decide) rfl rfl (fun H locs hP hD hS => ?_)
  generalize hz_1 : s_X4_mean o a = z_1 at hP hD
  refine lv_dstore (lv' := [(7, .double (r_X4_mean o a)), (5, .double (r_X2_mean b)), (4, .int (nI (3 * k))), (0, .ref b0), (1, .ref h), (2, .ref (qo 0)), (3, .ref ao)]) hx hb dL_law_916 hl (by decide) rfl (fun ls hl => ?_)
  refine lv_dload hx hb dL_law_918 (lv_at hl 1 rfl) ?_
  refine lv_dload hx hb dL_law_920 (lv_at hl 0 rfl) ?_
  refine lv_dcmp hx hb dL_law_922 ?_
  refine lv_if_eq (tgt := 944) hx hb dL_law_923 (by decide) (fun c_1 => ?_) (fun c_1 => ?_)
  · refine lv_goto (tgt := 961) hx hb dL_law_944 (by decide) ?_
    subst hz_1
    refine W.widen (k := 40 + 300 * (k + 1)) (n := 1100 + 2100 * (k + 1)) (by omega) (by omega) ?_
    exact K _ _ _ _ _ _ a3 a4 _ _ hP hD hS ls (lv_sub hl [2, 3, 4, 5, 6] rfl)
  · exact absurd (by rw [← a2]; exact mean_self b) c_1

set_option maxHeartbeats 2000000 in
set_option maxRecDepth 100000 in
theorem law_digest (l : Launch) (hlt : l.stackTraces = false) {p : Program} {e : Env} {s : State} {m : MethodId} {below : List Frame} {meth : Method} {c : Code} {D : va_G} {I J : ClassId} {h ao : Nat} {qb qt qo qs qa : Nat → Nat} {b0 L : Nat} {sc : Nat → Int32} (hL : L ≤ 1536) (C0 : lw_At p s m meth c b0 L sc) (hK : va_K D vwCl [(I, .int), (J, .long)] s) (hN : xNw s) (hXX : xX (fun q : Nat => s.heap.size ≤ q) s s.heap) {k : Nat} (hk : 3 * k + 3 ≤ L) (b z : XBr) (o : MO) (a y : MS) (g : Nat → Int64) (hR : Rel b o a) (hmin : (b.1 0).toInt ≤ 240 * (k : Int)) (K : ∀ (b' z' : XBr) (o' : MO) (a' y' : MS) (g' : Nat → Int64), Rel b' o' a' → (b'.1 0).toInt ≤ 240 * ((k : Int) + 1) → ∀ (H : Heap) (locs : List Loc), va_P D vwCl ([cX h qb qt] ++ wB I qb (b') ++ wB I qt (z') ++ [cO J ao (g')] ++ wO I qo (qs 0) (qa 0) (o') ++ wS I qo qs (a') ++ wS I qo qa (y')) H → va_D (fun q : Nat => s.heap.size ≤ q) ([cX h qb qt] ++ wB I qb (b') ++ wB I qt (z') ++ [cO J ao (g')] ++ wO I qo (qs 0) (qa 0) (o') ++ wS I qo qs (a') ++ wS I qo qa (y')) → va_S (fun q : Nat => s.heap.size ≤ q) s.heap H locs → ∀ ls, lv_has ls 9 [(4, .int (nI (3 * k))), (0, .ref b0), (1, .ref h), (2, .ref (qo 0)), (3, .ref ao)] → W p l e room_1 s m #[Value.ref b0] below meth c H locs (40 + 300 * (k + 1)) (1100 + 2100 * (k + 1)) (lw_Z below #[Value.ref b0] s) (F0 m 961 ls [])) : ∀ (H : Heap) (locs : List Loc), va_P D vwCl ([cX h qb qt] ++ wB I qb b ++ wB I qt z ++ [cO J ao g] ++ wO I qo (qs 0) (qa 0) o ++ wS I qo qs a ++ wS I qo qa y) H → va_D (fun q : Nat => s.heap.size ≤ q) ([cX h qb qt] ++ wB I qb b ++ wB I qt z ++ [cO J ao g] ++ wO I qo (qs 0) (qa 0) o ++ wS I qo qs a ++ wS I qo qa y) → va_S (fun q : Nat => s.heap.size ≤ q) s.heap H locs → ∀ ls, lv_has ls 9 [(4, .int (nI (3 * k))), (0, .ref b0), (1, .ref h), (2, .ref (qo 0)), (3, .ref ao)] → W p l e room_1 s m #[Value.ref b0] below meth c H locs (40 + 300 * k) (1100 + 2100 * k) (lw_Z below #[Value.ref b0] s) (F0 m 947 ls []) := by
  obtain ⟨hx, hb, hr, hml, hown, hts0, hX, hbl, hlocks, hgv⟩ := C0
  have hts : ∀ w ∈ wsL_law, w.before #[Value.ref b0] s = true := fun w h => hts0 w (wsL_law_in w h)
  have hA : ∀ q : Nat, s.heap.size ≤ q → (fun q : Nat => s.heap.size ≤ q) q := fun _ h => h
  have hbA : ¬ (fun q : Nat => s.heap.size ≤ q) b0 := Nat.not_le.mpr hbl
  have hK1 : va_K D vwCl [(I, .int)] s := hK.sub [0] rfl
  have hm9 : (b.1 0).toInt < 1000000000 := by omega
  have hm8 : (b.1 0).toInt < 1000000 := by omega
  obtain ⟨a2, a3⟩ := ag_digest hR
  have a4 : (b.1 0).toInt ≤ 240 * ((k : Int) + 1) := by omega
  intro H locs hP hD hS ls hl
  refine lv_aload_n hx hb dL_law_947 rfl (lv_at hl 2 rfl) ?_
  refine xk_calll ([cO J ao g, cMO qo (qs 0) (qa 0) o.1, cA I (qo 1) 40 (o.2 0), cA I (qo 2) 40 (o.2 1), cA I (qo 3) 40 (o.2 2), cA I (qo 4) 8 (o.2 3), cMS qo qs a.1, cA I (qs 1) 40 (a.2 0), cA I (qs 2) 40 (a.2 1), cA I (qs 3) 40 (a.2 2), cA I (qs 4) 40 (a.2 3), cMS qo qa y.1, cA I (qa 1) 40 (y.2 0), cA I (qa 2) 40 (y.2 1), cA I (qa 3) 40 (y.2 2), cA I (qa 4) 40 (y.2 3)]) ([cX h qb qt] ++ wB I qb b ++ wB I qt z ++ [cO J ao g] ++ wO I qo (qs 0) (qa 0) o ++ wS I qo qs a ++ wS I qo qa y) [0, 1, 2, 3, 4, 5, 6, 7, 8, 9, 10, 11, 12, 13, 14, 15, 16, 17, 18] [19, 20, 21, 22, 23, 24, 25, 26, 27, 28, 29, 30, 31, 32, 33, 34] [16, 17, 18, 19, 20, 21, 22, 23, 24, 25, 26, 27, 28, 29, 30, 31, 32, 33, 34, 0, 1, 2, 3, 4, 5, 6, 7, 8, 9, 10, 11, 12, 13, 14, 15] hP hD hS hA (va_runV (As := []) (rest := []) ⟨hx, hb, hml, hown, hts⟩ (c_X2_digest l D I h qb qt H.size b z hR.nB) (cwV 0 hts gL_law_X2_digest rfl rfl rfl (by decide +kernel) ⟨Nat.le_of_ble_eq_true rfl, Nat.le_of_ble_eq_true rfl⟩) (xk_preV (wc := [cX h qb qt] ++ wB I qb b ++ wB I qt z) (q0 := 0) (ci := 2) hN hP hK1 hD [0, 1, 2, 3, 4, 5, 6, 7, 8, 9, 10, 11, 12, 13, 14, 15, 16, 17, 18] rfl rfl rfl rfl) rfl rfl hl.1 rfl (lv_room (Nat.le_of_ble_eq_true rfl)) dL_law_948 ⟨by show _ ≤ 601024; omega, by show _ ≤ 7293034; omega⟩) rfl rfl rfl (by decide) rfl rfl (fun H locs hP hD hS => ?_)
  refine lv_aload_n hx hb dL_law_951 rfl (lv_at hl 3 rfl) ?_
  refine xk_calll ([cX h qb qt, cXB qb b.1, cA I (qb 1) 8 b.2.1, cXT qb b.2.2.1, cA I (qb 3) 40 (b.2.2.2 0), cA I (qb 4) 40 (b.2.2.2 1), cA I (qb 5) 40 (b.2.2.2 2), cA I (qb 6) 40 (b.2.2.2 3), cA I (qb 7) 40 (b.2.2.2 4), cA I (qb 8) 40 (b.2.2.2 5), cXB qt z.1, cA I (qt 1) 8 z.2.1, cXT qt z.2.2.1, cA I (qt 3) 40 (z.2.2.2 0), cA I (qt 4) 40 (z.2.2.2 1), cA I (qt 5) 40 (z.2.2.2 2), cA I (qt 6) 40 (z.2.2.2 3), cA I (qt 7) 40 (z.2.2.2 4), cA I (qt 8) 40 (z.2.2.2 5), cO J ao g]) ([cX h qb qt] ++ wB I qb b ++ wB I qt z ++ [cO J ao g] ++ wO I qo (qs 0) (qa 0) (s_X4_digest o a) ++ wS I qo qs a ++ wS I qo qa y) [20, 21, 22, 23, 24, 25, 26, 27, 28, 29, 30, 31, 32, 33, 34] [0, 1, 2, 3, 4, 5, 6, 7, 8, 9, 10, 11, 12, 13, 14, 15, 16, 17, 18, 19] [0, 1, 2, 3, 4, 5, 6, 7, 8, 9, 10, 11, 12, 13, 14, 15, 16, 17, 18, 19, 20, 21, 22, 23, 24, 25, 26, 27, 28, 29, 30, 31, 32, 33, 34] hP hD hS hA (va_runV (As := []) (rest := [.long (r_X2_digest b)]) ⟨hx, hb, hml, hown, hts⟩ (c_X4_digest l D I qo qs qa H.size o a y hR.nO) (cwV 0 hts gL_law_X4_digest rfl rfl rfl (by decide +kernel) ⟨Nat.le_of_ble_eq_true rfl, Nat.le_of_ble_eq_true rfl⟩) (xk_preV (wc := wO I qo (qs 0) (qa 0) o ++ wS I qo qs a ++ wS I qo qa y) (q0 := 20) (ci := 4) hN hP hK1 hD [20, 21, 22, 23, 24, 25, 26, 27, 28, 29, 30, 31, 32, 33, 34] rfl rfl rfl rfl) rfl rfl hl.1 rfl (lv_room (Nat.le_of_ble_eq_true rfl)) dL_law_952 ⟨by show _ ≤ 601024; omega, by show _ ≤ 7293034; omega⟩) rfl rfl rfl (by decide) rfl rfl (fun H locs hP hD hS => ?_)
  generalize hz_1 : s_X4_digest o a = z_1 at hP hD
  refine W.lcmp hx hb dL_law_955 ?_
  refine lv_if_eq (tgt := 961) hx hb dL_law_956 (by decide) (fun c_1 => ?_) (fun c_1 => ?_)
  · subst hz_1
    refine W.widen (k := 40 + 300 * (k + 1)) (n := 1100 + 2100 * (k + 1)) (by omega) (by omega) ?_
    exact K _ _ _ _ _ _ a3 a4 _ _ hP hD hS ls (lv_sub hl [0, 1, 2, 3, 4] rfl)
  · exact absurd (by rw [a2]; exact lg_self _) c_1
