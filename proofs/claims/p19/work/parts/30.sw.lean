set_option maxHeartbeats 2000000 in
set_option maxRecDepth 100000 in
theorem lw_cold (l : Launch) (hlt : l.stackTraces = false) {p : Program} {e : Env} {s : State} {m : MethodId} {below : List Frame} {meth : Method} {c : Code} {D : va_G} {I : ClassId} {h ac : Nat} {qb qt : Nat → Nat} {b0 L : Nat} {sc : Nat → Int32} {Q : State → Prop} (hL : L ≤ 260) (C0 : lwC p s m c b0 L sc D I) {n : Nat} {b : XBr} (hI : Iv n b) (K : ∀ (z : XBr) (cf : Nat → Int32), (∀ j, j < 8 → cf j = b.2.1 j) → ∀ (H : Heap) (locs : List Loc), va_P D vwCl (WX I h qb qt b z ++ [cA I ac 8 cf]) H → va_D (fun q : Nat => s.heap.size ≤ q) (WX I h qb qt b z ++ [cA I ac 8 cf]) → va_S (fun q : Nat => s.heap.size ≤ q) s.heap H locs → ∀ ls, lv_has ls 33 [(2, .ref ac), (1, .ref h), (0, .ref b0)] → W p l e room_1 s m #[Value.ref b0] below meth c H locs (380) (3800) Q (F0 m 46 ls [])) : ∀ (rr k : Nat) (z : XBr) (cf : Nat → Int32), rr + k = 8 → (∀ j, j < k → cf j = b.2.1 j) → ∀ (H : Heap) (locs : List Loc), va_P D vwCl (WX I h qb qt b z ++ [cA I ac 8 cf]) H → va_D (fun q : Nat => s.heap.size ≤ q) (WX I h qb qt b z ++ [cA I ac 8 cf]) → va_S (fun q : Nat => s.heap.size ≤ q) s.heap H locs → ∀ ls, lv_has ls 33 [(3, .int (nI k)), (2, .ref ac), (1, .ref h), (0, .ref b0)] → W p l e room_1 s m #[Value.ref b0] below meth c H locs (310 + 2 * k) (3020 + 12 * k) Q (F0 m 12 ls []) := by
  obtain ⟨hx, hb, hml, hown, hts, hX, hbl, hK1, hN, hXX, hover⟩ := C0
  have hA : ∀ q : Nat, s.heap.size ≤ q → (fun q : Nat => s.heap.size ≤ q) q := fun _ h => h
  have hbA : ¬ (fun q : Nat => s.heap.size ≤ q) b0 := Nat.not_le.mpr hbl
  intro rr
  induction rr with
  | zero =>
    intro k z cf hk hc H locs hP hD hS ls hl
    refine lv_iload_n hx hb dL_law_12 rfl (lv_at hl 0 rfl) ?_
    refine lv_bipush (v := (8 : Int32)) hx hb dL_law_13 (by decide) ?_
    refine lv_icmp_ge (tgt := 46) hx hb dL_law_15 (by decide) (fun c_1 => ?_) (fun c_1 => ?_)
    · refine W.widen (k := 380) (n := 3800) (by omega) (by omega) ?_
      exact K z cf (fun j hj => hc j (by omega)) H locs hP hD hS ls (lv_sub hl [1, 2, 3] rfl)
    · exact absurd (nI_le (a := 8) (b := k) (by omega) (by omega)) c_1
  | succ rr ih =>
    intro k z cf hk hc H locs hP hD hS ls hl
    refine lv_iload_n hx hb dL_law_12 rfl (lv_at hl 0 rfl) ?_
    refine lv_bipush (v := (8 : Int32)) hx hb dL_law_13 (by decide) ?_
    refine lv_icmp_ge (tgt := 46) hx hb dL_law_15 (by decide) (fun c_1 => ?_) (fun c_1 => ?_)
    · exact absurd c_1 (nI_ge (a := k) (b := 8) (by omega) (by omega))
    · refine lv_aload_n hx hb dL_law_18 rfl (lv_at hl 1 rfl) ?_
      refine lv_iload_n hx hb dL_law_19 rfl (lv_at hl 0 rfl) ?_
      refine lv_aload_n hx hb dL_law_20 rfl (lv_at hl 2 rfl) ?_
      refine lv_iload_n hx hb dL_law_21 rfl (lv_at hl 0 rfl) ?_
      refine lv_iconst (v := (0 : Int32)) hx hb dL_law_22 (by decide) ?_
      obtain ⟨f_3a, f_3b, f_3c, f_3d⟩ := iv_setCold hI (k := k) (by omega) (cv := 0) (by decide) (by decide)
      refine xr_calliE (wc := WX I h qb qt b z) (Rv := (b.2.1 k)) hP hD hS hA (va_runV (As := [.int (nI k), .int (0 : Int32)]) (rest := [.int (nI k), .ref ac]) ⟨hx, hb, hml, hown, hts⟩ (met_of_xMX (c_X2_setCold l hlt D I h qb qt H.size b z (nI k) (0 : Int32) ) f_3a (nm2 _ _) f_3b) (cwV 2 hts gL_law_X2_setCold rfl rfl rfl (by decide +kernel) ⟨Nat.le_of_ble_eq_true rfl, Nat.le_of_ble_eq_true rfl⟩) (xr_preVX (wc := WX I h qb qt b z) (ci := 2) hN hXX hS hA hP hK1 hD rfl rfl) rfl rfl hl.1 rfl (lv_room (Nat.le_of_ble_eq_true rfl)) dL_law_23 ⟨by show _ ≤ 600172; omega, by show _ ≤ 7300668; omega⟩) (fun z_2 H locs hP hD hS => ?_)
      rw [f_3c] at hP hD
      have hP : va_P D vwCl (WX I h qb qt (b.1, upd b.2.1 k (0 : Int32), b.2.2) z_2 ++ [cA I ac 8 cf]) H := hP
      have hD : va_D (fun q : Nat => s.heap.size ≤ q) (WX I h qb qt (b.1, upd b.2.1 k (0 : Int32), b.2.2) z_2 ++ [cA I ac 8 cf]) := hD
      refine va_iast (f := cf) hx hb hK1 hP hD hS 19 0 rfl rfl (vinN (by rw [nI_toInt (by omega)]; omega) (by rw [nI_toInt (by omega)]; omega)) dL_law_26 (fun H locs hP hD hS => ?_)
      rw [show ((nI k)).toNatClampNeg = k from nI_clamp (by omega)] at hP hD
      have hP : va_P D vwCl (WX I h qb qt (b.1, upd b.2.1 k (0 : Int32), b.2.2) z_2 ++ [cA I ac 8 (upd cf k (b.2.1 k))]) H := hP
      have hD : va_D (fun q : Nat => s.heap.size ≤ q) (WX I h qb qt (b.1, upd b.2.1 k (0 : Int32), b.2.2) z_2 ++ [cA I ac 8 (upd cf k (b.2.1 k))]) := hD
      refine lv_aload_n hx hb dL_law_27 rfl (lv_at hl 2 rfl) ?_
      refine lv_iload_n hx hb dL_law_28 rfl (lv_at hl 0 rfl) ?_
      refine lv_aload_n hx hb dL_law_29 rfl (lv_at hl 1 rfl) ?_
      refine lv_iload_n hx hb dL_law_30 rfl (lv_at hl 0 rfl) ?_
      refine va_iald (f := (upd cf k (b.2.1 k))) hx hb hK1 hP 19 0 rfl rfl (vinN (by rw [nI_toInt (by omega)]; omega) (by rw [nI_toInt (by omega)]; omega)) dL_law_31 ?_
      refine W.eq (congrArg (fun z => F0 m 32 ls (.int z :: [.int (nI k), .ref h])) (show upd cf k (b.2.1 k) (nI k).toNatClampNeg = _ by rw [nI_clamp (by omega), upd_at])) ?_
      obtain ⟨f_5a, f_5b, f_5c, f_5d⟩ := iv_setCold f_3d (k := k) (by omega) (cv := b.2.1 k) (hI.2.2.1 k (by omega)).1 (hI.2.2.1 k (by omega)).2
      have f_5r : upd b.2.1 k (0 : Int32) k = 0 := upd_at _ _ _
      have f_5s : s_X2_setCold (b.1, upd b.2.1 k (0 : Int32), b.2.2) (nI k) (b.2.1 k) = b := f_5c.trans (by show (b.1, upd (upd b.2.1 k 0) k (b.2.1 k), b.2.2) = b; rw [upd_back])
      refine xr_calliE (wc := WX I h qb qt (b.1, upd b.2.1 k (0 : Int32), b.2.2) z_2) (Rv := (0 : Int32)) hP hD hS hA (va_runV (As := [.int (nI k), .int (b.2.1 k)]) (rest := []) ⟨hx, hb, hml, hown, hts⟩ (met_of_xMX (c_X2_setCold l hlt D I h qb qt H.size (b.1, upd b.2.1 k (0 : Int32), b.2.2) z_2 (nI k) (b.2.1 k) ) f_5a (nm2 _ _) (f_5b.trans f_5r)) (cwV 2 hts gL_law_X2_setCold rfl rfl rfl (by decide +kernel) ⟨Nat.le_of_ble_eq_true rfl, Nat.le_of_ble_eq_true rfl⟩) (xr_preVX (wc := WX I h qb qt (b.1, upd b.2.1 k (0 : Int32), b.2.2) z_2) (ci := 2) hN hXX hS hA hP hK1 hD rfl rfl) rfl rfl hl.1 rfl (lv_room (Nat.le_of_ble_eq_true rfl)) dL_law_32 ⟨by show _ ≤ 600172; omega, by show _ ≤ 7300668; omega⟩) (fun z_4 H locs hP hD hS => ?_)
      rw [f_5s] at hP hD
      have hP : va_P D vwCl (WX I h qb qt b z_4 ++ [cA I ac 8 (upd cf k (b.2.1 k))]) H := hP
      have hD : va_D (fun q : Nat => s.heap.size ≤ q) (WX I h qb qt b z_4 ++ [cA I ac 8 (upd cf k (b.2.1 k))]) := hD
      refine lv_if_eq (tgt := 40) hx hb dL_law_35 (by decide) (fun c_6 => ?_) (fun c_6 => ?_)
      · refine lv_iinc (v := (nI (k + 1))) (lv' := [(3, .int (nI (k + 1))), (2, .ref ac), (1, .ref h), (0, .ref b0)]) hx hb dL_law_40 hl (k := 0) rfl (nI_succ k).symm (by decide) rfl (fun ls hl => ?_)
        refine lv_goto (tgt := 12) hx hb dL_law_43 (by decide) ?_
        refine W.widen (k := 310 + 2 * (k + 1)) (n := 3020 + 12 * (k + 1)) (by omega) (by omega) ?_
        exact ih (k + 1) z_4 (upd cf k (b.2.1 k)) (by omega) (cf_up hc) H locs hP hD hS ls (lv_sub hl [0, 1, 2, 3] rfl)
      · exact absurd c_6 (by decide)

set_option maxHeartbeats 2000000 in
set_option maxRecDepth 100000 in
theorem lw_sw (l : Launch) (hlt : l.stackTraces = false) {p : Program} {e : Env} {s : State} {m : MethodId} {below : List Frame} {meth : Method} {c : Code} {D : va_G} {I : ClassId} {h ac : Nat} {qb qt : Nat → Nat} {b0 L : Nat} {sc : Nat → Int32} {Q : State → Prop} (hL : L ≤ 260) (C0 : lwC p s m c b0 L sc D I) {t : Nat} (ht : t < 60) {cf : Nat → Int32} {n : Nat} {b z : XBr} (hI : Iv n b) (hm : (b.1 0).toInt ≤ 3200 + (t : Int)) (hc : ∀ j, j < 8 → cf j = b.2.1 j) (K : ∀ (n : Nat) (b z : XBr) (v : Int32), Iv n b → (b.1 0).toInt ≤ 3200 + (t : Int) → (∀ j, j < 8 → cf j = b.2.1 j) → ∀ (H : Heap) (locs : List Loc), va_P D vwCl (WX I h qb qt b z ++ [cA I ac 8 cf]) H → va_D (fun q : Nat => s.heap.size ≤ q) (WX I h qb qt b z ++ [cA I ac 8 cf]) → va_S (fun q : Nat => s.heap.size ≤ q) s.heap H locs → ∀ ls, lv_has ls 33 [(4, .int v), (3, .int (nI t)), (2, .ref ac), (1, .ref h), (0, .ref b0)] → W p l e room_1 s m #[Value.ref b0] below meth c H locs (400 + 2000 * t + 30) (4000 + 12000 * t + 200) Q (F0 m 322 ls [])) : ∀ (H : Heap) (locs : List Loc), va_P D vwCl (WX I h qb qt b z ++ [cA I ac 8 cf]) H → va_D (fun q : Nat => s.heap.size ≤ q) (WX I h qb qt b z ++ [cA I ac 8 cf]) → va_S (fun q : Nat => s.heap.size ≤ q) s.heap H locs → ∀ ls, lv_has ls 33 [(3, .int (nI t)), (2, .ref ac), (1, .ref h), (0, .ref b0)] → W p l e room_1 s m #[Value.ref b0] below meth c H locs (400 + 2000 * t + 0) (4000 + 12000 * t + 0) Q (F0 m 54 ls []) := by
  obtain ⟨hx, hb, hml, hown, hts, hX, hbl, hK1, hN, hXX, hover⟩ := C0
  have hA : ∀ q : Nat, s.heap.size ≤ q → (fun q : Nat => s.heap.size ≤ q) q := fun _ h => h
  have hbA : ¬ (fun q : Nat => s.heap.size ≤ q) b0 := Nat.not_le.mpr hbl
  have n40 := hI.1.1
  intro H locs hP hD hS ls hl
  refine lv_aload_n hx hb dL_law_54 rfl (lv_at hl 3 rfl) ?_
  refine lv_iload_n hx hb dL_law_55 rfl (lv_at hl 0 rfl) ?_
  refine lv_bipush (v := (16 : Int32)) hx hb dL_law_56 (by decide) ?_
  refine lv_irem hx hb dL_law_58 (by decide) ?_
  refine W.eq (congrArg (fun z => F0 m 59 ls (.int z :: [.ref b0])) (rem_nI (k := t) (d := 16) (by decide) (by decide) (by omega))) ?_
  refine xr_cell hP hD hS hA (va_runS (As := [.ref b0, .int (nI (t % 16))]) (rest := []) ⟨hx, hb, hml, hown, hts⟩ (c_L_cell l b0 L sc (nI (t % 16)) (by rw [nI_toInt (by omega)]; omega) hL H.size) (va_cwS 2 hts gL_law_L_cell rfl rfl rfl (by decide +kernel) ⟨Nat.le_of_ble_eq_true rfl, Nat.le_of_ble_eq_true rfl⟩) (xr_preC hX hbl hbA hS) rfl rfl hl.1 rfl (lv_room (Nat.le_of_ble_eq_true rfl)) dL_law_59 ⟨by show _ ≤ 600172; omega, by show _ ≤ 7300668; omega⟩) (fun v_1 H locs hP hD hS => ?_)
  refine lv_iload_n hx hb dL_law_62 rfl (lv_at hl 0 rfl) ?_
  refine lv_bipush (v := (16 : Int32)) hx hb dL_law_63 (by decide) ?_
  refine lv_idiv hx hb dL_law_65 (by decide) ?_
  refine lv_iconst (v := (5 : Int32)) hx hb dL_law_66 (by decide) ?_
  refine lv_imul hx hb dL_law_67 ?_
  refine lv_ishr hx hb dL_law_68 ?_
  refine lv_topi (fun v_2 ev_2 => ?_)
  refine lv_istore (lv' := [(4, .int v_2), (3, .int (nI t)), (2, .ref ac), (1, .ref h), (0, .ref b0)]) hx hb dL_law_69 hl (by decide) rfl (fun ls hl => ?_)
  refine lv_aload_n hx hb dL_law_71 rfl (lv_at hl 3 rfl) ?_
  refine lv_iconst (v := (5 : Int32)) hx hb dL_law_72 (by decide) ?_
  refine xr_calliE (wc := WX I h qb qt b z) (Rv := (nI n)) hP hD hS hA (va_runV (As := [.int (5 : Int32)]) (rest := []) ⟨hx, hb, hml, hown, hts⟩ (met_of_xMX (c_X2_count l hlt D I h qb qt H.size b z (5 : Int32) ) (cx5 b) (nm1 _) (ct5 hI)) (cwV 1 hts gL_law_X2_count rfl rfl rfl (by decide +kernel) ⟨Nat.le_of_ble_eq_true rfl, Nat.le_of_ble_eq_true rfl⟩) (xr_preVX (wc := WX I h qb qt b z) (ci := 2) hN hXX hS hA hP hK1 hD rfl rfl) rfl rfl hl.1 rfl (lv_room (Nat.le_of_ble_eq_true rfl)) dL_law_73 ⟨by show _ ≤ 600172; omega, by show _ ≤ 7300668; omega⟩) (fun z_3 H locs hP hD hS => ?_)
  have hP : va_P D vwCl (WX I h qb qt b z_3 ++ [cA I ac 8 cf]) H := hP
  have hD : va_D (fun q : Nat => s.heap.size ≤ q) (WX I h qb qt b z_3 ++ [cA I ac 8 cf]) := hD
  refine lv_istore (lv' := [(5, .int (nI n)), (4, .int v_2), (3, .int (nI t)), (2, .ref ac), (1, .ref h), (0, .ref b0)]) hx hb dL_law_76 hl (by decide) rfl (fun ls hl => ?_)
  refine lv_iload hx hb dL_law_78 (lv_at hl 1 rfl) ?_
  refine lv_bipush (v := (8 : Int32)) hx hb dL_law_80 (by decide) ?_
  obtain ⟨j_4, hj_4, ej_4⟩ := below_nI v_2 (8 : Int32) 8 (by decide) (by omega) (by omega)
  refine xr_call0 ej_4 hP hD hS hA (va_runS (As := [.int v_2, .int (8 : Int32)]) (rest := []) ⟨hx, hb, hml, hown, hts⟩ (c_L_below l D I H.size v_2 (8 : Int32) (by decide)) (va_cwS 2 hts gL_law_L_below rfl rfl rfl (by decide +kernel) ⟨Nat.le_of_ble_eq_true rfl, Nat.le_of_ble_eq_true rfl⟩) (xr_pre0 hN hK1) rfl rfl hl.1 rfl (lv_room (Nat.le_of_ble_eq_true rfl)) dL_law_82 ⟨by show _ ≤ 600172; omega, by show _ ≤ 7300668; omega⟩) (fun H locs hP hD hS => ?_)
  by_cases c_5 : (nI j_4) = (0 : Int32)
  · refine lv_tableIn (off := 35) (tgt := 120) hx hb dL_law_85 (by rw [c_5]; decide) (by rw [c_5]; decide) (by rw [c_5]; rfl) (by decide) ?_
    refine lv_iload hx hb dL_law_120 (lv_at hl 0 rfl) ?_
    refine lv_bipush (v := (40 : Int32)) hx hb dL_law_122 (by decide) ?_
    refine lv_icmp_ge (tgt := 322) hx hb dL_law_124 (by decide) (fun c_6 => ?_) (fun c_6 => ?_)
    · refine W.widen (k := 400 + 2000 * t + 30) (n := 4000 + 12000 * t + 200) (by omega) (by omega) ?_
      exact K n b z_3 v_2 hI hm hc H locs hP hD hS ls (lv_sub hl [1, 2, 3, 4, 5] rfl)
    · refine lv_aload_n hx hb dL_law_127 rfl (lv_at hl 4 rfl) ?_
      refine lv_iload hx hb dL_law_128 (lv_at hl 1 rfl) ?_
      refine lv_iconst (v := (4 : Int32)) hx hb dL_law_130 (by decide) ?_
      refine lv_ishr hx hb dL_law_131 ?_
      refine lv_topi (fun v_7 ev_7 => ?_)
      refine lv_iconst (v := (2 : Int32)) hx hb dL_law_132 (by decide) ?_
      obtain ⟨j_8, hj_8, ej_8⟩ := below_nI v_7 (2 : Int32) 2 (by decide) (by omega) (by omega)
      refine xr_call0 ej_8 hP hD hS hA (va_runS (As := [.int v_7, .int (2 : Int32)]) (rest := [.ref h]) ⟨hx, hb, hml, hown, hts⟩ (c_L_below l D I H.size v_7 (2 : Int32) (by decide)) (va_cwS 2 hts gL_law_L_below rfl rfl rfl (by decide +kernel) ⟨Nat.le_of_ble_eq_true rfl, Nat.le_of_ble_eq_true rfl⟩) (xr_pre0 hN hK1) rfl rfl hl.1 rfl (lv_room (Nat.le_of_ble_eq_true rfl)) dL_law_133 ⟨by show _ ≤ 600172; omega, by show _ ≤ 7300668; omega⟩) (fun H locs hP hD hS => ?_)
      have K_9 : ∀ (v_b : Int32), ∀ (z_10 : XBr) (H : Heap) (locs : List Loc), va_P D vwCl (WX I h qb qt b z_10 ++ [cA I ac 8 cf]) H → va_D (fun q : Nat => s.heap.size ≤ q) (WX I h qb qt b z_10 ++ [cA I ac 8 cf]) → va_S (fun q : Nat => s.heap.size ≤ q) s.heap H locs → ∀ ls, lv_has ls 33 [(0, .ref b0), (1, .ref h), (2, .ref ac), (3, .int (nI t)), (4, .int v_2), (5, .int (nI n))] → W p l e room_1 s m #[Value.ref b0] below meth c H locs (400 + 2000 * t + 1) (4000 + 12000 * t + 6) Q (F0 m 144 ls [.int v_b, .ref h]) := by
        intro v_b z_10 H locs hP hD hS ls hl
        refine lv_iconst (v := (1 : Int32)) hx hb dL_law_144 (by decide) ?_
        refine lv_iload hx hb dL_law_145 (lv_at hl 4 rfl) ?_
        refine lv_iconst (v := (5 : Int32)) hx hb dL_law_147 (by decide) ?_
        refine lv_ishr hx hb dL_law_148 ?_
        refine lv_topi (fun v_11 ev_11 => ?_)
        refine lv_bipush (v := (6 : Int32)) hx hb dL_law_149 (by decide) ?_
        obtain ⟨j_12, hj_12, ej_12⟩ := below_nI v_11 (6 : Int32) 6 (by decide) (by omega) (by omega)
        refine xr_call0 ej_12 hP hD hS hA (va_runS (As := [.int v_11, .int (6 : Int32)]) (rest := [.int (1 : Int32), .int v_b, .ref h]) ⟨hx, hb, hml, hown, hts⟩ (c_L_below l D I H.size v_11 (6 : Int32) (by decide)) (va_cwS 2 hts gL_law_L_below rfl rfl rfl (by decide +kernel) ⟨Nat.le_of_ble_eq_true rfl, Nat.le_of_ble_eq_true rfl⟩) (xr_pre0 hN hK1) rfl rfl hl.1 rfl (lv_room (Nat.le_of_ble_eq_true rfl)) dL_law_151 ⟨by show _ ≤ 600172; omega, by show _ ≤ 7300668; omega⟩) (fun H locs hP hD hS => ?_)
        refine lv_iadd hx hb dL_law_154 ?_
        refine W.eq (congrArg (fun z => F0 m 155 ls (.int z :: [.int v_b, .ref h])) (nI_add 1 j_12)) ?_
        obtain ⟨f_14a, f_14b, f_14c, f_14d, f_14e⟩ := iv_come hI (lt40_n c_6 hI.1.1) (bg := v_b) (mn := (nI (1 + j_12))) (by rw [nI_toInt (by omega)]; omega) (by rw [nI_toInt (by omega)]; omega)
        refine xr_calliE (wc := WX I h qb qt b z_10) (Rv := (nI n)) hP hD hS hA (va_runV (As := [.int v_b, .int (nI (1 + j_12))]) (rest := []) ⟨hx, hb, hml, hown, hts⟩ (met_of_xMX (c_X2_come l hlt D I h qb qt H.size b z_10 v_b (nI (1 + j_12)) hI.nB) f_14a (nm2 _ _) f_14b) (cwV 2 hts gL_law_X2_come rfl rfl rfl (by decide +kernel) ⟨Nat.le_of_ble_eq_true rfl, Nat.le_of_ble_eq_true rfl⟩) (xr_preVX (wc := WX I h qb qt b z_10) (ci := 2) hN hXX hS hA hP hK1 hD rfl rfl) rfl rfl hl.1 rfl (lv_room (Nat.le_of_ble_eq_true rfl)) dL_law_155 ⟨by show _ ≤ 600172; omega, by show _ ≤ 7300668; omega⟩) (fun z_13 H locs hP hD hS => ?_)
        have hP : va_P D vwCl (WX I h qb qt (s_X2_come b v_b (nI (1 + j_12))) z_13 ++ [cA I ac 8 cf]) H := hP
        have hD : va_D (fun q : Nat => s.heap.size ≤ q) (WX I h qb qt (s_X2_come b v_b (nI (1 + j_12))) z_13 ++ [cA I ac 8 cf]) := hD
        generalize s_X2_come b v_b (nI (1 + j_12)) = b_15 at hP hD f_14c f_14d f_14e
        have hP : va_P D vwCl (WX I h qb qt b_15 z_13 ++ [cA I ac 8 cf]) H := hP
        have hD : va_D (fun q : Nat => s.heap.size ≤ q) (WX I h qb qt b_15 z_13 ++ [cA I ac 8 cf]) := hD
        refine lv_iload hx hb dL_law_158 (lv_at hl 5 rfl) ?_
        refine lv_icmp_eq (tgt := 322) hx hb dL_law_160 (by decide) (fun c_16 => ?_) (fun c_16 => ?_)
        · refine W.widen (k := 400 + 2000 * t + 30) (n := 4000 + 12000 * t + 200) (by omega) (by omega) ?_
          exact K (n + 1) b_15 z_13 v_2 f_14c (by rw [f_14d]; exact hm) (fun j hj => (hc j hj).trans (congrFun f_14e j).symm) H locs hP hD hS ls (lv_sub hl [4, 3, 2, 1, 0] rfl)
        · exact absurd rfl c_16
      refine lv_if_ne (tgt := 143) hx hb dL_law_136 (by decide) (fun c_17 => ?_) (fun c_17 => ?_)
      · refine lv_iconst (v := (0 : Int32)) hx hb dL_law_143 (by decide) ?_
        refine W.widen (k := 400 + 2000 * t + 1) (n := 4000 + 12000 * t + 6) (by omega) (by omega) ?_
        exact K_9 (0 : Int32) z_3 H locs hP hD hS ls (lv_sub hl [5, 4, 3, 2, 1, 0] rfl)
      · refine lv_iconst (v := (1 : Int32)) hx hb dL_law_139 (by decide) ?_
        refine lv_goto (tgt := 144) hx hb dL_law_140 (by decide) ?_
        refine W.widen (k := 400 + 2000 * t + 1) (n := 4000 + 12000 * t + 6) (by omega) (by omega) ?_
        exact K_9 (1 : Int32) z_3 H locs hP hD hS ls (lv_sub hl [5, 4, 3, 2, 1, 0] rfl)
  by_cases c_18 : (nI j_4) = (1 : Int32)
  · refine lv_tableIn (off := 35) (tgt := 120) hx hb dL_law_85 (by rw [c_18]; decide) (by rw [c_18]; decide) (by rw [c_18]; rfl) (by decide) ?_
    refine lv_iload hx hb dL_law_120 (lv_at hl 0 rfl) ?_
    refine lv_bipush (v := (40 : Int32)) hx hb dL_law_122 (by decide) ?_
    refine lv_icmp_ge (tgt := 322) hx hb dL_law_124 (by decide) (fun c_19 => ?_) (fun c_19 => ?_)
    · refine W.widen (k := 400 + 2000 * t + 30) (n := 4000 + 12000 * t + 200) (by omega) (by omega) ?_
      exact K n b z_3 v_2 hI hm hc H locs hP hD hS ls (lv_sub hl [1, 2, 3, 4, 5] rfl)
    · refine lv_aload_n hx hb dL_law_127 rfl (lv_at hl 4 rfl) ?_
      refine lv_iload hx hb dL_law_128 (lv_at hl 1 rfl) ?_
      refine lv_iconst (v := (4 : Int32)) hx hb dL_law_130 (by decide) ?_
      refine lv_ishr hx hb dL_law_131 ?_
      refine lv_topi (fun v_20 ev_20 => ?_)
      refine lv_iconst (v := (2 : Int32)) hx hb dL_law_132 (by decide) ?_
      obtain ⟨j_21, hj_21, ej_21⟩ := below_nI v_20 (2 : Int32) 2 (by decide) (by omega) (by omega)
      refine xr_call0 ej_21 hP hD hS hA (va_runS (As := [.int v_20, .int (2 : Int32)]) (rest := [.ref h]) ⟨hx, hb, hml, hown, hts⟩ (c_L_below l D I H.size v_20 (2 : Int32) (by decide)) (va_cwS 2 hts gL_law_L_below rfl rfl rfl (by decide +kernel) ⟨Nat.le_of_ble_eq_true rfl, Nat.le_of_ble_eq_true rfl⟩) (xr_pre0 hN hK1) rfl rfl hl.1 rfl (lv_room (Nat.le_of_ble_eq_true rfl)) dL_law_133 ⟨by show _ ≤ 600172; omega, by show _ ≤ 7300668; omega⟩) (fun H locs hP hD hS => ?_)
      have K_22 : ∀ (v_b : Int32), ∀ (z_23 : XBr) (H : Heap) (locs : List Loc), va_P D vwCl (WX I h qb qt b z_23 ++ [cA I ac 8 cf]) H → va_D (fun q : Nat => s.heap.size ≤ q) (WX I h qb qt b z_23 ++ [cA I ac 8 cf]) → va_S (fun q : Nat => s.heap.size ≤ q) s.heap H locs → ∀ ls, lv_has ls 33 [(0, .ref b0), (1, .ref h), (2, .ref ac), (3, .int (nI t)), (4, .int v_2), (5, .int (nI n))] → W p l e room_1 s m #[Value.ref b0] below meth c H locs (400 + 2000 * t + 1) (4000 + 12000 * t + 6) Q (F0 m 144 ls [.int v_b, .ref h]) := by
        intro v_b z_23 H locs hP hD hS ls hl
        refine lv_iconst (v := (1 : Int32)) hx hb dL_law_144 (by decide) ?_
        refine lv_iload hx hb dL_law_145 (lv_at hl 4 rfl) ?_
        refine lv_iconst (v := (5 : Int32)) hx hb dL_law_147 (by decide) ?_
        refine lv_ishr hx hb dL_law_148 ?_
        refine lv_topi (fun v_24 ev_24 => ?_)
        refine lv_bipush (v := (6 : Int32)) hx hb dL_law_149 (by decide) ?_
        obtain ⟨j_25, hj_25, ej_25⟩ := below_nI v_24 (6 : Int32) 6 (by decide) (by omega) (by omega)
        refine xr_call0 ej_25 hP hD hS hA (va_runS (As := [.int v_24, .int (6 : Int32)]) (rest := [.int (1 : Int32), .int v_b, .ref h]) ⟨hx, hb, hml, hown, hts⟩ (c_L_below l D I H.size v_24 (6 : Int32) (by decide)) (va_cwS 2 hts gL_law_L_below rfl rfl rfl (by decide +kernel) ⟨Nat.le_of_ble_eq_true rfl, Nat.le_of_ble_eq_true rfl⟩) (xr_pre0 hN hK1) rfl rfl hl.1 rfl (lv_room (Nat.le_of_ble_eq_true rfl)) dL_law_151 ⟨by show _ ≤ 600172; omega, by show _ ≤ 7300668; omega⟩) (fun H locs hP hD hS => ?_)
        refine lv_iadd hx hb dL_law_154 ?_
        refine W.eq (congrArg (fun z => F0 m 155 ls (.int z :: [.int v_b, .ref h])) (nI_add 1 j_25)) ?_
        obtain ⟨f_27a, f_27b, f_27c, f_27d, f_27e⟩ := iv_come hI (lt40_n c_19 hI.1.1) (bg := v_b) (mn := (nI (1 + j_25))) (by rw [nI_toInt (by omega)]; omega) (by rw [nI_toInt (by omega)]; omega)
        refine xr_calliE (wc := WX I h qb qt b z_23) (Rv := (nI n)) hP hD hS hA (va_runV (As := [.int v_b, .int (nI (1 + j_25))]) (rest := []) ⟨hx, hb, hml, hown, hts⟩ (met_of_xMX (c_X2_come l hlt D I h qb qt H.size b z_23 v_b (nI (1 + j_25)) hI.nB) f_27a (nm2 _ _) f_27b) (cwV 2 hts gL_law_X2_come rfl rfl rfl (by decide +kernel) ⟨Nat.le_of_ble_eq_true rfl, Nat.le_of_ble_eq_true rfl⟩) (xr_preVX (wc := WX I h qb qt b z_23) (ci := 2) hN hXX hS hA hP hK1 hD rfl rfl) rfl rfl hl.1 rfl (lv_room (Nat.le_of_ble_eq_true rfl)) dL_law_155 ⟨by show _ ≤ 600172; omega, by show _ ≤ 7300668; omega⟩) (fun z_26 H locs hP hD hS => ?_)
        have hP : va_P D vwCl (WX I h qb qt (s_X2_come b v_b (nI (1 + j_25))) z_26 ++ [cA I ac 8 cf]) H := hP
        have hD : va_D (fun q : Nat => s.heap.size ≤ q) (WX I h qb qt (s_X2_come b v_b (nI (1 + j_25))) z_26 ++ [cA I ac 8 cf]) := hD
        generalize s_X2_come b v_b (nI (1 + j_25)) = b_28 at hP hD f_27c f_27d f_27e
        have hP : va_P D vwCl (WX I h qb qt b_28 z_26 ++ [cA I ac 8 cf]) H := hP
        have hD : va_D (fun q : Nat => s.heap.size ≤ q) (WX I h qb qt b_28 z_26 ++ [cA I ac 8 cf]) := hD
        refine lv_iload hx hb dL_law_158 (lv_at hl 5 rfl) ?_
        refine lv_icmp_eq (tgt := 322) hx hb dL_law_160 (by decide) (fun c_29 => ?_) (fun c_29 => ?_)
        · refine W.widen (k := 400 + 2000 * t + 30) (n := 4000 + 12000 * t + 200) (by omega) (by omega) ?_
          exact K (n + 1) b_28 z_26 v_2 f_27c (by rw [f_27d]; exact hm) (fun j hj => (hc j hj).trans (congrFun f_27e j).symm) H locs hP hD hS ls (lv_sub hl [4, 3, 2, 1, 0] rfl)
        · exact absurd rfl c_29
      refine lv_if_ne (tgt := 143) hx hb dL_law_136 (by decide) (fun c_30 => ?_) (fun c_30 => ?_)
      · refine lv_iconst (v := (0 : Int32)) hx hb dL_law_143 (by decide) ?_
        refine W.widen (k := 400 + 2000 * t + 1) (n := 4000 + 12000 * t + 6) (by omega) (by omega) ?_
        exact K_22 (0 : Int32) z_3 H locs hP hD hS ls (lv_sub hl [5, 4, 3, 2, 1, 0] rfl)
      · refine lv_iconst (v := (1 : Int32)) hx hb dL_law_139 (by decide) ?_
        refine lv_goto (tgt := 144) hx hb dL_law_140 (by decide) ?_
        refine W.widen (k := 400 + 2000 * t + 1) (n := 4000 + 12000 * t + 6) (by omega) (by omega) ?_
        exact K_22 (1 : Int32) z_3 H locs hP hD hS ls (lv_sub hl [5, 4, 3, 2, 1, 0] rfl)
  by_cases c_31 : (nI j_4) = (2 : Int32)
  · refine lv_tableIn (off := 80) (tgt := 165) hx hb dL_law_85 (by rw [c_31]; decide) (by rw [c_31]; decide) (by rw [c_31]; rfl) (by decide) ?_
    refine lv_iload hx hb dL_law_165 (lv_at hl 0 rfl) ?_
    refine lv_if_ne (tgt := 173) hx hb dL_law_167 (by decide) (fun c_32 => ?_) (fun c_32 => ?_)
    · have hn0 : 0 < n := pos_nI c_32
      refine lv_iload hx hb dL_law_173 (lv_at hl 1 rfl) ?_
      refine lv_iconst (v := (4 : Int32)) hx hb dL_law_175 (by decide) ?_
      refine lv_ishr hx hb dL_law_176 ?_
      refine lv_topi (fun v_33 ev_33 => ?_)
      refine lv_iload hx hb dL_law_177 (lv_at hl 0 rfl) ?_
      obtain ⟨j_34, hj_34, ej_34⟩ := below_nI v_33 (nI n) n rfl hn0 (by omega)
      refine xr_call0 ej_34 hP hD hS hA (va_runS (As := [.int v_33, .int (nI n)]) (rest := []) ⟨hx, hb, hml, hown, hts⟩ (c_L_below l D I H.size v_33 (nI n) (nI_ne0 hn0 (by omega))) (va_cwS 2 hts gL_law_L_below rfl rfl rfl (by decide +kernel) ⟨Nat.le_of_ble_eq_true rfl, Nat.le_of_ble_eq_true rfl⟩) (xr_pre0 hN hK1) rfl rfl hl.1 rfl (lv_room (Nat.le_of_ble_eq_true rfl)) dL_law_179 ⟨by show _ ≤ 600172; omega, by show _ ≤ 7300668; omega⟩) (fun H locs hP hD hS => ?_)
      refine lv_istore (lv' := [(6, .int (nI j_34)), (5, .int (nI n)), (4, .int v_2), (3, .int (nI t)), (2, .ref ac), (1, .ref h), (0, .ref b0)]) hx hb dL_law_182 hl (by decide) rfl (fun ls hl => ?_)
      refine lv_aload_n hx hb dL_law_184 rfl (lv_at hl 5 rfl) ?_
      refine lv_iload hx hb dL_law_185 (lv_at hl 0 rfl) ?_
      refine lv_iconst (v := (2 : Int32)) hx hb dL_law_187 (by decide) ?_
      refine xr_calliE (wc := WX I h qb qt b z_3) (Rv := (fc b j_34 2)) hP hD hS hA (va_runV (As := [.int (nI j_34), .int (2 : Int32)]) (rest := []) ⟨hx, hb, hml, hown, hts⟩ (met_of_xMX (c_X2_traveller l hlt D I h qb qt H.size b z_3 (nI j_34) (2 : Int32) hI.nB) (tr_x hI hj_34 (w := 2) (by decide)) (nm1 _) (tr_r hI hj_34 (w := 2) (by decide))) (cwV 2 hts gL_law_X2_traveller rfl rfl rfl (by decide +kernel) ⟨Nat.le_of_ble_eq_true rfl, Nat.le_of_ble_eq_true rfl⟩) (xr_preVX (wc := WX I h qb qt b z_3) (ci := 2) hN hXX hS hA hP hK1 hD rfl rfl) rfl rfl hl.1 rfl (lv_room (Nat.le_of_ble_eq_true rfl)) dL_law_188 ⟨by show _ ≤ 600172; omega, by show _ ≤ 7300668; omega⟩) (fun z_35 H locs hP hD hS => ?_)
      have hP : va_P D vwCl (WX I h qb qt b z_35 ++ [cA I ac 8 cf]) H := hP
      have hD : va_D (fun q : Nat => s.heap.size ≤ q) (WX I h qb qt b z_35 ++ [cA I ac 8 cf]) := hD
      refine lv_if_ne (tgt := 198) hx hb dL_law_191 (by decide) (fun c_36 => ?_) (fun c_36 => ?_)
      · refine lv_iconst (v := (0 : Int32)) hx hb dL_law_198 (by decide) ?_
        refine lv_istore (lv' := [(7, .int (0 : Int32)), (6, .int (nI j_34)), (5, .int (nI n)), (4, .int v_2), (3, .int (nI t)), (2, .ref ac), (1, .ref h), (0, .ref b0)]) hx hb dL_law_199 hl (by decide) rfl (fun ls hl => ?_)
        refine lv_aload_n hx hb dL_law_201 rfl (lv_at hl 6 rfl) ?_
        refine lv_iload hx hb dL_law_202 (lv_at hl 1 rfl) ?_
        refine lv_iconst (v := (4 : Int32)) hx hb dL_law_204 (by decide) ?_
        refine xr_calliE (wc := WX I h qb qt b z_35) (Rv := (fc b j_34 4)) hP hD hS hA (va_runV (As := [.int (nI j_34), .int (4 : Int32)]) (rest := []) ⟨hx, hb, hml, hown, hts⟩ (met_of_xMX (c_X2_traveller l hlt D I h qb qt H.size b z_35 (nI j_34) (4 : Int32) hI.nB) (tr_x hI hj_34 (w := 4) (by decide)) (nm1 _) (tr_r hI hj_34 (w := 4) (by decide))) (cwV 2 hts gL_law_X2_traveller rfl rfl rfl (by decide +kernel) ⟨Nat.le_of_ble_eq_true rfl, Nat.le_of_ble_eq_true rfl⟩) (xr_preVX (wc := WX I h qb qt b z_35) (ci := 2) hN hXX hS hA hP hK1 hD rfl rfl) rfl rfl hl.1 rfl (lv_room (Nat.le_of_ble_eq_true rfl)) dL_law_205 ⟨by show _ ≤ 600172; omega, by show _ ≤ 7300668; omega⟩) (fun z_37 H locs hP hD hS => ?_)
        have hP : va_P D vwCl (WX I h qb qt b z_37 ++ [cA I ac 8 cf]) H := hP
        have hD : va_D (fun q : Nat => s.heap.size ≤ q) (WX I h qb qt b z_37 ++ [cA I ac 8 cf]) := hD
        refine lv_istore (lv' := [(8, .int (fc b j_34 4)), (7, .int (0 : Int32)), (6, .int (nI j_34)), (5, .int (nI n)), (4, .int v_2), (3, .int (nI t)), (2, .ref ac), (1, .ref h), (0, .ref b0)]) hx hb dL_law_208 hl (by decide) rfl (fun ls hl => ?_)
        refine lv_aload_n hx hb dL_law_210 rfl (lv_at hl 7 rfl) ?_
        refine lv_iload hx hb dL_law_211 (lv_at hl 2 rfl) ?_
        obtain ⟨f_39a, f_39b, f_39c, f_39d, f_39e, f_39f⟩ := iv_leave hI (j := j_34) hj_34
        refine xr_calliR (wc := WX I h qb qt b z_37) (f_39e.trans (if_neg c_36)) hP hD hS hA (vx_runSW (As := [.ref h, .int (nI j_34)]) (rest := []) ⟨hx, hb, hml, hown, hts⟩ (c_L_leave l hlt D I h qb qt H.size b z_37 (nI j_34) hI.nB f_39a) (vx_cwSW 2 hts gL_law_L_leave rfl rfl rfl (by decide +kernel) ⟨Nat.le_of_ble_eq_true rfl, Nat.le_of_ble_eq_true rfl⟩) (xr_preX (wc := WX I h qb qt b z_37) hN hXX hS hA hP hK1 hD) rfl rfl hl.1 rfl (lv_room (Nat.le_of_ble_eq_true rfl)) dL_law_213 ⟨by show _ ≤ 600172; omega, by show _ ≤ 7300668; omega⟩) (fun z_38 H locs hP hD hS => ?_)
        have hP : va_P D vwCl (WX I h qb qt (s_X2_leave b (nI j_34)) z_38 ++ [cA I ac 8 cf]) H := hP
        have hD : va_D (fun q : Nat => s.heap.size ≤ q) (WX I h qb qt (s_X2_leave b (nI j_34)) z_38 ++ [cA I ac 8 cf]) := hD
        generalize s_X2_leave b (nI j_34) = b_40 at hP hD f_39b f_39c f_39d f_39f
        have hP : va_P D vwCl (WX I h qb qt b_40 z_38 ++ [cA I ac 8 cf]) H := hP
        have hD : va_D (fun q : Nat => s.heap.size ≤ q) (WX I h qb qt b_40 z_38 ++ [cA I ac 8 cf]) := hD
        refine lv_iload hx hb dL_law_216 (lv_at hl 1 rfl) ?_
        refine lv_if_eq (tgt := 226) hx hb dL_law_218 (by decide) (fun c_41 => ?_) (fun c_41 => ?_)
        · refine lv_iconst (v := (-1 : Int32)) hx hb dL_law_226 (by decide) ?_
          refine lv_icmp_ne (tgt := 246) hx hb dL_law_227 (by decide) (fun c_42 => ?_) (fun c_42 => ?_)
          · exact absurd c_42 (by decide)
          · refine lv_iload hx hb dL_law_230 (lv_at hl 1 rfl) ?_
            refine lv_if_eq (tgt := 322) hx hb dL_law_232 (by decide) (fun c_43 => ?_) (fun c_43 => ?_)
            · refine W.widen (k := 400 + 2000 * t + 30) (n := 4000 + 12000 * t + 200) (by omega) (by omega) ?_
              exact K n b_40 z_38 v_2 f_39b (by rw [f_39c]; exact hm) (fun j hj => (hc j hj).trans (congrFun f_39d j).symm) H locs hP hD hS ls (lv_sub hl [4, 5, 6, 7, 8] rfl)
            · exact absurd c_43 (by decide)
        · exact absurd c_41 (by decide)
      · refine lv_iconst (v := (1 : Int32)) hx hb dL_law_194 (by decide) ?_
        refine lv_goto (tgt := 199) hx hb dL_law_195 (by decide) ?_
        refine lv_istore (lv' := [(7, .int (1 : Int32)), (6, .int (nI j_34)), (5, .int (nI n)), (4, .int v_2), (3, .int (nI t)), (2, .ref ac), (1, .ref h), (0, .ref b0)]) hx hb dL_law_199 hl (by decide) rfl (fun ls hl => ?_)
        refine lv_aload_n hx hb dL_law_201 rfl (lv_at hl 6 rfl) ?_
        refine lv_iload hx hb dL_law_202 (lv_at hl 1 rfl) ?_
        refine lv_iconst (v := (4 : Int32)) hx hb dL_law_204 (by decide) ?_
        refine xr_calliE (wc := WX I h qb qt b z_35) (Rv := (fc b j_34 4)) hP hD hS hA (va_runV (As := [.int (nI j_34), .int (4 : Int32)]) (rest := []) ⟨hx, hb, hml, hown, hts⟩ (met_of_xMX (c_X2_traveller l hlt D I h qb qt H.size b z_35 (nI j_34) (4 : Int32) hI.nB) (tr_x hI hj_34 (w := 4) (by decide)) (nm1 _) (tr_r hI hj_34 (w := 4) (by decide))) (cwV 2 hts gL_law_X2_traveller rfl rfl rfl (by decide +kernel) ⟨Nat.le_of_ble_eq_true rfl, Nat.le_of_ble_eq_true rfl⟩) (xr_preVX (wc := WX I h qb qt b z_35) (ci := 2) hN hXX hS hA hP hK1 hD rfl rfl) rfl rfl hl.1 rfl (lv_room (Nat.le_of_ble_eq_true rfl)) dL_law_205 ⟨by show _ ≤ 600172; omega, by show _ ≤ 7300668; omega⟩) (fun z_44 H locs hP hD hS => ?_)
        have hP : va_P D vwCl (WX I h qb qt b z_44 ++ [cA I ac 8 cf]) H := hP
        have hD : va_D (fun q : Nat => s.heap.size ≤ q) (WX I h qb qt b z_44 ++ [cA I ac 8 cf]) := hD
        refine lv_istore (lv' := [(8, .int (fc b j_34 4)), (7, .int (1 : Int32)), (6, .int (nI j_34)), (5, .int (nI n)), (4, .int v_2), (3, .int (nI t)), (2, .ref ac), (1, .ref h), (0, .ref b0)]) hx hb dL_law_208 hl (by decide) rfl (fun ls hl => ?_)
        refine lv_aload_n hx hb dL_law_210 rfl (lv_at hl 7 rfl) ?_
        refine lv_iload hx hb dL_law_211 (lv_at hl 2 rfl) ?_
        obtain ⟨f_46a, f_46b, f_46c, f_46d, f_46e, f_46f⟩ := iv_leave hI (j := j_34) hj_34
        refine xr_calliR (wc := WX I h qb qt b z_44) (f_46e.trans (if_pos c_36)) hP hD hS hA (vx_runSW (As := [.ref h, .int (nI j_34)]) (rest := []) ⟨hx, hb, hml, hown, hts⟩ (c_L_leave l hlt D I h qb qt H.size b z_44 (nI j_34) hI.nB f_46a) (vx_cwSW 2 hts gL_law_L_leave rfl rfl rfl (by decide +kernel) ⟨Nat.le_of_ble_eq_true rfl, Nat.le_of_ble_eq_true rfl⟩) (xr_preX (wc := WX I h qb qt b z_44) hN hXX hS hA hP hK1 hD) rfl rfl hl.1 rfl (lv_room (Nat.le_of_ble_eq_true rfl)) dL_law_213 ⟨by show _ ≤ 600172; omega, by show _ ≤ 7300668; omega⟩) (fun z_45 H locs hP hD hS => ?_)
        have hP : va_P D vwCl (WX I h qb qt (s_X2_leave b (nI j_34)) z_45 ++ [cA I ac 8 cf]) H := hP
        have hD : va_D (fun q : Nat => s.heap.size ≤ q) (WX I h qb qt (s_X2_leave b (nI j_34)) z_45 ++ [cA I ac 8 cf]) := hD
        generalize s_X2_leave b (nI j_34) = b_47 at hP hD f_46b f_46c f_46d f_46f
        have hP : va_P D vwCl (WX I h qb qt b_47 z_45 ++ [cA I ac 8 cf]) H := hP
        have hD : va_D (fun q : Nat => s.heap.size ≤ q) (WX I h qb qt b_47 z_45 ++ [cA I ac 8 cf]) := hD
        refine lv_iload hx hb dL_law_216 (lv_at hl 1 rfl) ?_
        refine lv_if_eq (tgt := 226) hx hb dL_law_218 (by decide) (fun c_48 => ?_) (fun c_48 => ?_)
        · exact absurd c_48 (by decide)
        · refine lv_iload hx hb dL_law_221 (lv_at hl 0 rfl) ?_
          refine lv_goto (tgt := 227) hx hb dL_law_223 (by decide) ?_
          refine lv_icmp_ne (tgt := 246) hx hb dL_law_227 (by decide) (fun c_49 => ?_) (fun c_49 => ?_)
          · exact absurd rfl c_49
          · refine lv_iload hx hb dL_law_230 (lv_at hl 1 rfl) ?_
            refine lv_if_eq (tgt := 322) hx hb dL_law_232 (by decide) (fun c_50 => ?_) (fun c_50 => ?_)
            · exact absurd c_50 (by decide)
            · refine lv_aload_n hx hb dL_law_235 rfl (lv_at hl 7 rfl) ?_
              refine lv_iload hx hb dL_law_236 (lv_at hl 2 rfl) ?_
              refine lv_iconst (v := (2 : Int32)) hx hb dL_law_238 (by decide) ?_
              refine xr_calliE (wc := WX I h qb qt b_47 z_45) (Rv := (fc b_47 j_34 2)) hP hD hS hA (va_runV (As := [.int (nI j_34), .int (2 : Int32)]) (rest := []) ⟨hx, hb, hml, hown, hts⟩ (met_of_xMX (c_X2_traveller l hlt D I h qb qt H.size b_47 z_45 (nI j_34) (2 : Int32) f_46b.nB) (tr_x f_46b hj_34 (w := 2) (by decide)) (nm1 _) (tr_r f_46b hj_34 (w := 2) (by decide))) (cwV 2 hts gL_law_X2_traveller rfl rfl rfl (by decide +kernel) ⟨Nat.le_of_ble_eq_true rfl, Nat.le_of_ble_eq_true rfl⟩) (xr_preVX (wc := WX I h qb qt b_47 z_45) (ci := 2) hN hXX hS hA hP hK1 hD rfl rfl) rfl rfl hl.1 rfl (lv_room (Nat.le_of_ble_eq_true rfl)) dL_law_239 ⟨by show _ ≤ 600172; omega, by show _ ≤ 7300668; omega⟩) (fun z_51 H locs hP hD hS => ?_)
              have hP : va_P D vwCl (WX I h qb qt b_47 z_51 ++ [cA I ac 8 cf]) H := hP
              have hD : va_D (fun q : Nat => s.heap.size ≤ q) (WX I h qb qt b_47 z_51 ++ [cA I ac 8 cf]) := hD
              refine lv_iconst (v := (3 : Int32)) hx hb dL_law_242 (by decide) ?_
              refine lv_icmp_eq (tgt := 322) hx hb dL_law_243 (by decide) (fun c_52 => ?_) (fun c_52 => ?_)
              · refine W.widen (k := 400 + 2000 * t + 30) (n := 4000 + 12000 * t + 200) (by omega) (by omega) ?_
                exact K n b_47 z_51 v_2 f_46b (by rw [f_46c]; exact hm) (fun j hj => (hc j hj).trans (congrFun f_46d j).symm) H locs hP hD hS ls (lv_sub hl [4, 5, 6, 7, 8] rfl)
              · exact absurd (f_46f c_36) c_52
    · refine lv_goto (tgt := 322) hx hb dL_law_170 (by decide) ?_
      refine W.widen (k := 400 + 2000 * t + 30) (n := 4000 + 12000 * t + 200) (by omega) (by omega) ?_
      exact K n b z_3 v_2 hI hm hc H locs hP hD hS ls (lv_sub hl [1, 2, 3, 4, 5] rfl)
  by_cases c_53 : (nI j_4) = (3 : Int32)
  · refine lv_tableIn (off := 163) (tgt := 248) hx hb dL_law_85 (by rw [c_53]; decide) (by rw [c_53]; decide) (by rw [c_53]; rfl) (by decide) ?_
    refine lv_aload_n hx hb dL_law_248 rfl (lv_at hl 4 rfl) ?_
    refine lv_iload hx hb dL_law_249 (lv_at hl 1 rfl) ?_
    refine lv_iconst (v := (4 : Int32)) hx hb dL_law_251 (by decide) ?_
    refine lv_ishr hx hb dL_law_252 ?_
    refine lv_topi (fun v_54 ev_54 => ?_)
    refine lv_bipush (v := (9 : Int32)) hx hb dL_law_253 (by decide) ?_
    obtain ⟨j_55, hj_55, ej_55⟩ := below_nI v_54 (9 : Int32) 9 (by decide) (by omega) (by omega)
    refine xr_call0 ej_55 hP hD hS hA (va_runS (As := [.int v_54, .int (9 : Int32)]) (rest := [.ref h]) ⟨hx, hb, hml, hown, hts⟩ (c_L_below l D I H.size v_54 (9 : Int32) (by decide)) (va_cwS 2 hts gL_law_L_below rfl rfl rfl (by decide +kernel) ⟨Nat.le_of_ble_eq_true rfl, Nat.le_of_ble_eq_true rfl⟩) (xr_pre0 hN hK1) rfl rfl hl.1 rfl (lv_room (Nat.le_of_ble_eq_true rfl)) dL_law_255 ⟨by show _ ≤ 600172; omega, by show _ ≤ 7300668; omega⟩) (fun H locs hP hD hS => ?_)
    refine lv_iconst (v := (5 : Int32)) hx hb dL_law_258 (by decide) ?_
    refine lv_irem hx hb dL_law_259 (by decide) ?_
    refine W.eq (congrArg (fun z => F0 m 260 ls (.int z :: [.ref h])) (rem_nI (k := j_55) (d := 5) (by decide) (by decide) (by omega))) ?_
    obtain ⟨f_57a, f_57b, f_57c, f_57d, f_57e, f_57f⟩ := iv_ring hI (c := (j_55 % 5)) (by omega)
    clear f_57c
    refine xr_calliE (wc := WX I h qb qt b z_3) (Rv := (b.1 4)) hP hD hS hA (va_runV (As := [.int (nI (j_55 % 5))]) (rest := []) ⟨hx, hb, hml, hown, hts⟩ (met_of_xMX (c_X2_ring l hlt D I h qb qt H.size b z_3 (nI (j_55 % 5)) ) f_57a (nm1 _) f_57b) (cwV 1 hts gL_law_X2_ring rfl rfl rfl (by decide +kernel) ⟨Nat.le_of_ble_eq_true rfl, Nat.le_of_ble_eq_true rfl⟩) (xr_preVX (wc := WX I h qb qt b z_3) (ci := 2) hN hXX hS hA hP hK1 hD rfl rfl) rfl rfl hl.1 rfl (lv_room (Nat.le_of_ble_eq_true rfl)) dL_law_260 ⟨by show _ ≤ 600172; omega, by show _ ≤ 7300668; omega⟩) (fun z_56 H locs hP hD hS => ?_)
    have hP : va_P D vwCl (WX I h qb qt (s_X2_ring b (nI (j_55 % 5))) z_56 ++ [cA I ac 8 cf]) H := hP
    have hD : va_D (fun q : Nat => s.heap.size ≤ q) (WX I h qb qt (s_X2_ring b (nI (j_55 % 5))) z_56 ++ [cA I ac 8 cf]) := hD
    generalize s_X2_ring b (nI (j_55 % 5)) = b_58 at hP hD f_57d f_57e f_57f
    have hP : va_P D vwCl (WX I h qb qt b_58 z_56 ++ [cA I ac 8 cf]) H := hP
    have hD : va_D (fun q : Nat => s.heap.size ≤ q) (WX I h qb qt b_58 z_56 ++ [cA I ac 8 cf]) := hD
    refine lv_iconst (v := (4 : Int32)) hx hb dL_law_263 (by decide) ?_
    refine lv_icmp_le (tgt := 322) hx hb dL_law_264 (by decide) (fun c_59 => ?_) (fun c_59 => ?_)
    · refine W.widen (k := 400 + 2000 * t + 30) (n := 4000 + 12000 * t + 200) (by omega) (by omega) ?_
      exact K n b_58 z_56 v_2 f_57d (by rw [f_57e]; exact hm) (fun j hj => (hc j hj).trans (congrFun f_57f j).symm) H locs hP hD hS ls (lv_sub hl [1, 2, 3, 4, 5] rfl)
    · exact absurd (code4 hI) c_59
  by_cases c_60 : (nI j_4) = (4 : Int32)
  · refine lv_tableIn (off := 184) (tgt := 269) hx hb dL_law_85 (by rw [c_60]; decide) (by rw [c_60]; decide) (by rw [c_60]; rfl) (by decide) ?_
    refine lv_aload_n hx hb dL_law_269 rfl (lv_at hl 4 rfl) ?_
    refine lv_iconst (v := (1 : Int32)) hx hb dL_law_270 (by decide) ?_
    refine xr_calliE (wc := WX I h qb qt b z_3) (Rv := (b.1 1)) hP hD hS hA (va_runV (As := [.int (1 : Int32)]) (rest := []) ⟨hx, hb, hml, hown, hts⟩ (met_of_xMX (c_X2_count l hlt D I h qb qt H.size b z_3 (1 : Int32) ) (cx1 b) (nm1 _) (ct1 b)) (cwV 1 hts gL_law_X2_count rfl rfl rfl (by decide +kernel) ⟨Nat.le_of_ble_eq_true rfl, Nat.le_of_ble_eq_true rfl⟩) (xr_preVX (wc := WX I h qb qt b z_3) (ci := 2) hN hXX hS hA hP hK1 hD rfl rfl) rfl rfl hl.1 rfl (lv_room (Nat.le_of_ble_eq_true rfl)) dL_law_271 ⟨by show _ ≤ 600172; omega, by show _ ≤ 7300668; omega⟩) (fun z_61 H locs hP hD hS => ?_)
    have hP : va_P D vwCl (WX I h qb qt b z_61 ++ [cA I ac 8 cf]) H := hP
    have hD : va_D (fun q : Nat => s.heap.size ≤ q) (WX I h qb qt b z_61 ++ [cA I ac 8 cf]) := hD
    refine lv_if_eq (tgt := 287) hx hb dL_law_274 (by decide) (fun c_62 => ?_) (fun c_62 => ?_)
    · refine lv_iconst (v := (1 : Int32)) hx hb dL_law_287 (by decide) ?_
      refine lv_goto (tgt := 292) hx hb dL_law_288 (by decide) ?_
      refine lv_istore (lv' := [(6, .int (1 : Int32)), (5, .int (nI n)), (4, .int v_2), (3, .int (nI t)), (2, .ref ac), (1, .ref h), (0, .ref b0)]) hx hb dL_law_292 hl (by decide) rfl (fun ls hl => ?_)
      refine lv_aload_n hx hb dL_law_294 rfl (lv_at hl 5 rfl) ?_
      refine lv_iload hx hb dL_law_295 (lv_at hl 2 rfl) ?_
      refine lv_iconst (v := (4 : Int32)) hx hb dL_law_297 (by decide) ?_
      refine lv_ishr hx hb dL_law_298 ?_
      refine lv_topi (fun v_63 ev_63 => ?_)
      refine lv_bipush (v := (31 : Int32)) hx hb dL_law_299 (by decide) ?_
      obtain ⟨j_64, hj_64, ej_64⟩ := below_nI v_63 (31 : Int32) 31 (by decide) (by omega) (by omega)
      refine xr_call0 ej_64 hP hD hS hA (va_runS (As := [.int v_63, .int (31 : Int32)]) (rest := [.ref h]) ⟨hx, hb, hml, hown, hts⟩ (c_L_below l D I H.size v_63 (31 : Int32) (by decide)) (va_cwS 2 hts gL_law_L_below rfl rfl rfl (by decide +kernel) ⟨Nat.le_of_ble_eq_true rfl, Nat.le_of_ble_eq_true rfl⟩) (xr_pre0 hN hK1) rfl rfl hl.1 rfl (lv_room (Nat.le_of_ble_eq_true rfl)) dL_law_301 ⟨by show _ ≤ 600172; omega, by show _ ≤ 7300668; omega⟩) (fun H locs hP hD hS => ?_)
      obtain ⟨f_66a, f_66b, f_66c, f_66d, f_66e, f_66f⟩ := iv_poise hI (c := j_64) (by omega)
      clear f_66f
      refine xr_calliR (wc := WX I h qb qt b z_61) (f_66b.trans (if_pos c_62)) hP hD hS hA (vx_runSW (As := [.ref h, .int (nI j_64)]) (rest := []) ⟨hx, hb, hml, hown, hts⟩ (c_L_poise l hlt D I h qb qt H.size b z_61 (nI j_64) f_66a) (vx_cwSW 2 hts gL_law_L_poise rfl rfl rfl (by decide +kernel) ⟨Nat.le_of_ble_eq_true rfl, Nat.le_of_ble_eq_true rfl⟩) (xr_preX (wc := WX I h qb qt b z_61) hN hXX hS hA hP hK1 hD) rfl rfl hl.1 rfl (lv_room (Nat.le_of_ble_eq_true rfl)) dL_law_304 ⟨by show _ ≤ 600172; omega, by show _ ≤ 7300668; omega⟩) (fun z_65 H locs hP hD hS => ?_)
      have hP : va_P D vwCl (WX I h qb qt (s_X2_poise b (nI j_64)) z_65 ++ [cA I ac 8 cf]) H := hP
      have hD : va_D (fun q : Nat => s.heap.size ≤ q) (WX I h qb qt (s_X2_poise b (nI j_64)) z_65 ++ [cA I ac 8 cf]) := hD
      generalize s_X2_poise b (nI j_64) = b_67 at hP hD f_66c f_66d f_66e
      have hP : va_P D vwCl (WX I h qb qt b_67 z_65 ++ [cA I ac 8 cf]) H := hP
      have hD : va_D (fun q : Nat => s.heap.size ≤ q) (WX I h qb qt b_67 z_65 ++ [cA I ac 8 cf]) := hD
      refine lv_if_lt (tgt := 314) hx hb dL_law_307 (by decide) (fun c_68 => ?_) (fun c_68 => ?_)
      · exact absurd c_68 (poise0 hI)
      · refine lv_iconst (v := (1 : Int32)) hx hb dL_law_310 (by decide) ?_
        refine lv_goto (tgt := 315) hx hb dL_law_311 (by decide) ?_
        refine lv_iload hx hb dL_law_315 (lv_at hl 0 rfl) ?_
        refine lv_icmp_eq (tgt := 322) hx hb dL_law_317 (by decide) (fun c_69 => ?_) (fun c_69 => ?_)
        · refine W.widen (k := 400 + 2000 * t + 30) (n := 4000 + 12000 * t + 200) (by omega) (by omega) ?_
          exact K n b_67 z_65 v_2 f_66c (by rw [f_66d]; exact hm) (fun j hj => (hc j hj).trans (congrFun f_66e j).symm) H locs hP hD hS ls (lv_sub hl [2, 3, 4, 5, 6] rfl)
        · exact absurd c_69 (by decide)
    · refine lv_aload_n hx hb dL_law_277 rfl (lv_at hl 4 rfl) ?_
      refine lv_iconst (v := (1 : Int32)) hx hb dL_law_278 (by decide) ?_
      refine xr_calliE (wc := WX I h qb qt b z_61) (Rv := (b.1 1)) hP hD hS hA (va_runV (As := [.int (1 : Int32)]) (rest := []) ⟨hx, hb, hml, hown, hts⟩ (met_of_xMX (c_X2_count l hlt D I h qb qt H.size b z_61 (1 : Int32) ) (cx1 b) (nm1 _) (ct1 b)) (cwV 1 hts gL_law_X2_count rfl rfl rfl (by decide +kernel) ⟨Nat.le_of_ble_eq_true rfl, Nat.le_of_ble_eq_true rfl⟩) (xr_preVX (wc := WX I h qb qt b z_61) (ci := 2) hN hXX hS hA hP hK1 hD rfl rfl) rfl rfl hl.1 rfl (lv_room (Nat.le_of_ble_eq_true rfl)) dL_law_279 ⟨by show _ ≤ 600172; omega, by show _ ≤ 7300668; omega⟩) (fun z_70 H locs hP hD hS => ?_)
      have hP : va_P D vwCl (WX I h qb qt b z_70 ++ [cA I ac 8 cf]) H := hP
      have hD : va_D (fun q : Nat => s.heap.size ≤ q) (WX I h qb qt b z_70 ++ [cA I ac 8 cf]) := hD
      refine lv_bipush (v := (60 : Int32)) hx hb dL_law_282 (by decide) ?_
      refine lv_icmp_ne (tgt := 291) hx hb dL_law_284 (by decide) (fun c_71 => ?_) (fun c_71 => ?_)
      · refine lv_iconst (v := (0 : Int32)) hx hb dL_law_291 (by decide) ?_
        refine lv_istore (lv' := [(6, .int (0 : Int32)), (5, .int (nI n)), (4, .int v_2), (3, .int (nI t)), (2, .ref ac), (1, .ref h), (0, .ref b0)]) hx hb dL_law_292 hl (by decide) rfl (fun ls hl => ?_)
        refine lv_aload_n hx hb dL_law_294 rfl (lv_at hl 5 rfl) ?_
        refine lv_iload hx hb dL_law_295 (lv_at hl 2 rfl) ?_
        refine lv_iconst (v := (4 : Int32)) hx hb dL_law_297 (by decide) ?_
        refine lv_ishr hx hb dL_law_298 ?_
        refine lv_topi (fun v_72 ev_72 => ?_)
        refine lv_bipush (v := (31 : Int32)) hx hb dL_law_299 (by decide) ?_
        obtain ⟨j_73, hj_73, ej_73⟩ := below_nI v_72 (31 : Int32) 31 (by decide) (by omega) (by omega)
        refine xr_call0 ej_73 hP hD hS hA (va_runS (As := [.int v_72, .int (31 : Int32)]) (rest := [.ref h]) ⟨hx, hb, hml, hown, hts⟩ (c_L_below l D I H.size v_72 (31 : Int32) (by decide)) (va_cwS 2 hts gL_law_L_below rfl rfl rfl (by decide +kernel) ⟨Nat.le_of_ble_eq_true rfl, Nat.le_of_ble_eq_true rfl⟩) (xr_pre0 hN hK1) rfl rfl hl.1 rfl (lv_room (Nat.le_of_ble_eq_true rfl)) dL_law_301 ⟨by show _ ≤ 600172; omega, by show _ ≤ 7300668; omega⟩) (fun H locs hP hD hS => ?_)
        obtain ⟨f_75a, f_75b, f_75c, f_75d, f_75e, f_75f⟩ := iv_poise hI (c := j_73) (by omega)
        clear f_75f
        refine xr_calliR (wc := WX I h qb qt b z_70) (f_75b.trans ((if_neg c_62).trans (if_neg c_71))) hP hD hS hA (vx_runSW (As := [.ref h, .int (nI j_73)]) (rest := []) ⟨hx, hb, hml, hown, hts⟩ (c_L_poise l hlt D I h qb qt H.size b z_70 (nI j_73) f_75a) (vx_cwSW 2 hts gL_law_L_poise rfl rfl rfl (by decide +kernel) ⟨Nat.le_of_ble_eq_true rfl, Nat.le_of_ble_eq_true rfl⟩) (xr_preX (wc := WX I h qb qt b z_70) hN hXX hS hA hP hK1 hD) rfl rfl hl.1 rfl (lv_room (Nat.le_of_ble_eq_true rfl)) dL_law_304 ⟨by show _ ≤ 600172; omega, by show _ ≤ 7300668; omega⟩) (fun z_74 H locs hP hD hS => ?_)
        have hP : va_P D vwCl (WX I h qb qt (s_X2_poise b (nI j_73)) z_74 ++ [cA I ac 8 cf]) H := hP
        have hD : va_D (fun q : Nat => s.heap.size ≤ q) (WX I h qb qt (s_X2_poise b (nI j_73)) z_74 ++ [cA I ac 8 cf]) := hD
        generalize s_X2_poise b (nI j_73) = b_76 at hP hD f_75c f_75d f_75e
        have hP : va_P D vwCl (WX I h qb qt b_76 z_74 ++ [cA I ac 8 cf]) H := hP
        have hD : va_D (fun q : Nat => s.heap.size ≤ q) (WX I h qb qt b_76 z_74 ++ [cA I ac 8 cf]) := hD
        refine lv_if_lt (tgt := 314) hx hb dL_law_307 (by decide) (fun c_77 => ?_) (fun c_77 => ?_)
        · refine lv_iconst (v := (0 : Int32)) hx hb dL_law_314 (by decide) ?_
          refine lv_iload hx hb dL_law_315 (lv_at hl 0 rfl) ?_
          refine lv_icmp_eq (tgt := 322) hx hb dL_law_317 (by decide) (fun c_78 => ?_) (fun c_78 => ?_)
          · refine W.widen (k := 400 + 2000 * t + 30) (n := 4000 + 12000 * t + 200) (by omega) (by omega) ?_
            exact K n b_76 z_74 v_2 f_75c (by rw [f_75d]; exact hm) (fun j hj => (hc j hj).trans (congrFun f_75e j).symm) H locs hP hD hS ls (lv_sub hl [2, 3, 4, 5, 6] rfl)
          · exact absurd c_78 (by decide)
        · exact absurd c_77 (by decide)
      · refine lv_iconst (v := (1 : Int32)) hx hb dL_law_287 (by decide) ?_
        refine lv_goto (tgt := 292) hx hb dL_law_288 (by decide) ?_
        refine lv_istore (lv' := [(6, .int (1 : Int32)), (5, .int (nI n)), (4, .int v_2), (3, .int (nI t)), (2, .ref ac), (1, .ref h), (0, .ref b0)]) hx hb dL_law_292 hl (by decide) rfl (fun ls hl => ?_)
        refine lv_aload_n hx hb dL_law_294 rfl (lv_at hl 5 rfl) ?_
        refine lv_iload hx hb dL_law_295 (lv_at hl 2 rfl) ?_
        refine lv_iconst (v := (4 : Int32)) hx hb dL_law_297 (by decide) ?_
        refine lv_ishr hx hb dL_law_298 ?_
        refine lv_topi (fun v_79 ev_79 => ?_)
        refine lv_bipush (v := (31 : Int32)) hx hb dL_law_299 (by decide) ?_
        obtain ⟨j_80, hj_80, ej_80⟩ := below_nI v_79 (31 : Int32) 31 (by decide) (by omega) (by omega)
        refine xr_call0 ej_80 hP hD hS hA (va_runS (As := [.int v_79, .int (31 : Int32)]) (rest := [.ref h]) ⟨hx, hb, hml, hown, hts⟩ (c_L_below l D I H.size v_79 (31 : Int32) (by decide)) (va_cwS 2 hts gL_law_L_below rfl rfl rfl (by decide +kernel) ⟨Nat.le_of_ble_eq_true rfl, Nat.le_of_ble_eq_true rfl⟩) (xr_pre0 hN hK1) rfl rfl hl.1 rfl (lv_room (Nat.le_of_ble_eq_true rfl)) dL_law_301 ⟨by show _ ≤ 600172; omega, by show _ ≤ 7300668; omega⟩) (fun H locs hP hD hS => ?_)
        obtain ⟨f_82a, f_82b, f_82c, f_82d, f_82e, f_82f⟩ := iv_poise hI (c := j_80) (by omega)
        clear f_82f
        refine xr_calliR (wc := WX I h qb qt b z_70) (f_82b.trans ((if_neg c_62).trans (if_pos c_71))) hP hD hS hA (vx_runSW (As := [.ref h, .int (nI j_80)]) (rest := []) ⟨hx, hb, hml, hown, hts⟩ (c_L_poise l hlt D I h qb qt H.size b z_70 (nI j_80) f_82a) (vx_cwSW 2 hts gL_law_L_poise rfl rfl rfl (by decide +kernel) ⟨Nat.le_of_ble_eq_true rfl, Nat.le_of_ble_eq_true rfl⟩) (xr_preX (wc := WX I h qb qt b z_70) hN hXX hS hA hP hK1 hD) rfl rfl hl.1 rfl (lv_room (Nat.le_of_ble_eq_true rfl)) dL_law_304 ⟨by show _ ≤ 600172; omega, by show _ ≤ 7300668; omega⟩) (fun z_81 H locs hP hD hS => ?_)
        have hP : va_P D vwCl (WX I h qb qt (s_X2_poise b (nI j_80)) z_81 ++ [cA I ac 8 cf]) H := hP
        have hD : va_D (fun q : Nat => s.heap.size ≤ q) (WX I h qb qt (s_X2_poise b (nI j_80)) z_81 ++ [cA I ac 8 cf]) := hD
        generalize s_X2_poise b (nI j_80) = b_83 at hP hD f_82c f_82d f_82e
        have hP : va_P D vwCl (WX I h qb qt b_83 z_81 ++ [cA I ac 8 cf]) H := hP
        have hD : va_D (fun q : Nat => s.heap.size ≤ q) (WX I h qb qt b_83 z_81 ++ [cA I ac 8 cf]) := hD
        refine lv_if_lt (tgt := 314) hx hb dL_law_307 (by decide) (fun c_84 => ?_) (fun c_84 => ?_)
        · exact absurd c_84 (poise0 hI)
        · refine lv_iconst (v := (1 : Int32)) hx hb dL_law_310 (by decide) ?_
          refine lv_goto (tgt := 315) hx hb dL_law_311 (by decide) ?_
          refine lv_iload hx hb dL_law_315 (lv_at hl 0 rfl) ?_
          refine lv_icmp_eq (tgt := 322) hx hb dL_law_317 (by decide) (fun c_85 => ?_) (fun c_85 => ?_)
          · refine W.widen (k := 400 + 2000 * t + 30) (n := 4000 + 12000 * t + 200) (by omega) (by omega) ?_
            exact K n b_83 z_81 v_2 f_82c (by rw [f_82d]; exact hm) (fun j hj => (hc j hj).trans (congrFun f_82e j).symm) H locs hP hD hS ls (lv_sub hl [2, 3, 4, 5, 6] rfl)
          · exact absurd c_85 (by decide)
  have t_c_5 : (nI j_4).toInt < 0 ∨ 4 < (nI j_4).toInt := by
    have g_c_5 := lv_neT c_5 (a := 0) (by decide)
    have g_c_18 := lv_neT c_18 (a := 1) (by decide)
    have g_c_31 := lv_neT c_31 (a := 2) (by decide)
    have g_c_53 := lv_neT c_53 (a := 3) (by decide)
    have g_c_60 := lv_neT c_60 (a := 4) (by decide)
    omega
  refine lv_tableOut (tgt := 322) hx hb dL_law_85 t_c_5 (by decide) ?_
  refine W.widen (k := 400 + 2000 * t + 30) (n := 4000 + 12000 * t + 200) (by omega) (by omega) ?_
  exact K n b z_3 v_2 hI hm hc H locs hP hD hS ls (lv_sub hl [1, 2, 3, 4, 5] rfl)
