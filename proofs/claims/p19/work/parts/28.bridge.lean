/-! THE BRIDGE THAT CELLS CHOOSE -/
abbrev brR : Room := { frames := 8, cells := 300, slots := 3000, locals := 140 }
def brC (p : Program) (s : State) (m : MethodId) (c : Code) (b0 L : Nat) (sc : Nat → Int32) (D : va_G) (I : ClassId) : Prop :=
  p.tables.exec = Jvm.exec ∧ c.code = cL_bridge ∧ c.maxLocals = 5 ∧ s.vm.findClass RL = some m.cls ∧ (∀ w ∈ wsL_bridge, w.before #[Value.ref b0] s = true) ∧ va_X b0 L sc s s.heap ∧ b0 < s.heap.size ∧ va_K D vwCl [(I, .int)] s ∧ xNw s ∧ xX (fun q : Nat => s.heap.size ≤ q) s s.heap
theorem cold_b {j : Nat} (h : j < 7) : -3 ≤ ((nI j) - (3 : Int32)).toInt ∧ ((nI j) - (3 : Int32)).toInt ≤ 3 := by
  have e := nI_toInt (n := j) (by omega)
  have e3 : (3 : Int32).toInt = 3 := by decide
  rw [toInt_subS (by omega) (by omega)]
  omega

abbrev xQbr (D : va_G) (I : ClassId) (A : Nat → Prop) := va_Qr (fun u : (Nat → Nat) × (Nat → Nat) × XBr × XBr => ∃ n, Iv n u.2.2.1 ∧ (u.2.2.1.1 0).toInt ≤ 3200) (fun u a t => va_P D vwCl (WX I a u.1 u.2.1 u.2.2.1 u.2.2.2) t.heap ∧ va_D A (WX I a u.1 u.2.1 u.2.2.1 u.2.2.2)) A
set_option maxHeartbeats 2000000 in
set_option maxRecDepth 100000 in
theorem br_l1 (l : Launch) (hlt : l.stackTraces = false) {p : Program} {e : Env} {s : State} {m : MethodId} {below : List Frame} {meth : Method} {c : Code} {D : va_G} {I : ClassId} {h : Nat} {qb qt : Nat → Nat} {b0 L : Nat} {sc : Nat → Int32} {Q : State → Prop} (hL : L ≤ 260) (C0 : brC p s m c b0 L sc D I) (K : ∀ (b z : XBr), Iv 0 b → (b.1 0).toInt = 0 → b.1 1 = 0 → ∀ (H : Heap) (locs : List Loc), va_P D vwCl (WX I h qb qt b z ++ ([] : va_W)) H → va_D (fun q : Nat => s.heap.size ≤ q) (WX I h qb qt b z ++ ([] : va_W)) → va_S (fun q : Nat => s.heap.size ≤ q) s.heap H locs → ∀ ls, lv_has ls 5 [(1, .ref h), (0, .ref b0)] → W p l e brR s m #[Value.ref b0] below meth c H locs (30) (620) Q (F0 m 44 ls [])) : ∀ (r k : Nat) (b z : XBr), r + k = 8 → Iv 0 b → (b.1 0).toInt = 0 → b.1 1 = 0 → ∀ (H : Heap) (locs : List Loc), va_P D vwCl (WX I h qb qt b z ++ ([] : va_W)) H → va_D (fun q : Nat => s.heap.size ≤ q) (WX I h qb qt b z ++ ([] : va_W)) → va_S (fun q : Nat => s.heap.size ≤ q) s.heap H locs → ∀ ls, lv_has ls 5 [(2, .int (nI k)), (1, .ref h), (0, .ref b0)] → W p l e brR s m #[Value.ref b0] below meth c H locs (20 + k) (560 + 6 * k) Q (F0 m 10 ls []) := by
  obtain ⟨hx, hb, hml, hown, hts, hX, hbl, hK1, hN, hXX⟩ := C0
  have hA : ∀ q : Nat, s.heap.size ≤ q → (fun q : Nat => s.heap.size ≤ q) q := fun _ h => h
  have hbA : ¬ (fun q : Nat => s.heap.size ≤ q) b0 := Nat.not_le.mpr hbl
  intro r
  induction r with
  | zero =>
    intro k b z hk hI hm ha H locs hP hD hS ls hl
    refine lv_iload_n hx hb dL_bridge_10 rfl (lv_at hl 0 rfl) ?_
    refine lv_bipush (v := (8 : Int32)) hx hb dL_bridge_11 (by decide) ?_
    refine lv_icmp_ge (tgt := 44) hx hb dL_bridge_13 (by decide) (fun c_1 => ?_) (fun c_1 => ?_)
    · refine W.widen (k := 30) (n := 620) (by omega) (by omega) ?_
      exact K b z hI hm ha H locs hP hD hS ls (lv_sub hl [1, 2] rfl)
    · exact absurd (nI_le (a := 8) (b := k) (by omega) (by omega)) c_1
  | succ r ih =>
    intro k b z hk hI hm ha H locs hP hD hS ls hl
    refine lv_iload_n hx hb dL_bridge_10 rfl (lv_at hl 0 rfl) ?_
    refine lv_bipush (v := (8 : Int32)) hx hb dL_bridge_11 (by decide) ?_
    refine lv_icmp_ge (tgt := 44) hx hb dL_bridge_13 (by decide) (fun c_1 => ?_) (fun c_1 => ?_)
    · exact absurd c_1 (nI_ge (a := k) (b := 8) (by omega) (by omega))
    · refine lv_aload_n hx hb dL_bridge_16 rfl (lv_at hl 1 rfl) ?_
      refine lv_iload_n hx hb dL_bridge_17 rfl (lv_at hl 0 rfl) ?_
      refine lv_aload_n hx hb dL_bridge_18 rfl (lv_at hl 2 rfl) ?_
      refine lv_iconst (v := (0 : Int32)) hx hb dL_bridge_19 (by decide) ?_
      refine xr_cell hP hD hS hA (va_runS (As := [.ref b0, .int (0 : Int32)]) (rest := [.int (nI k), .ref h]) ⟨hx, hb, hml, hown, hts⟩ (c_L_cell l b0 L sc (0 : Int32) (by decide) hL H.size) (va_cwS 2 hts gL_bridge_L_cell rfl rfl rfl (by decide +kernel) ⟨Nat.le_of_ble_eq_true rfl, Nat.le_of_ble_eq_true rfl⟩) (xr_preC hX hbl hbA hS) rfl rfl hl.1 rfl (lv_room (Nat.le_of_ble_eq_true rfl)) dL_bridge_20 ⟨by show _ ≤ 300; omega, by show _ ≤ 3000; omega⟩) (fun v_2 H locs hP hD hS => ?_)
      refine lv_iconst (v := (2 : Int32)) hx hb dL_bridge_23 (by decide) ?_
      refine lv_iload_n hx hb dL_bridge_24 rfl (lv_at hl 0 rfl) ?_
      refine lv_imul hx hb dL_bridge_25 ?_
      refine lv_ishr hx hb dL_bridge_26 ?_
      refine lv_topi (fun v_3 ev_3 => ?_)
      refine lv_bipush (v := (7 : Int32)) hx hb dL_bridge_27 (by decide) ?_
      obtain ⟨j_4, hj_4, ej_4⟩ := below_nI v_3 (7 : Int32) 7 (by decide) (by omega) (by omega)
      refine xr_call0 ej_4 hP hD hS hA (va_runS (As := [.int v_3, .int (7 : Int32)]) (rest := [.int (nI k), .ref h]) ⟨hx, hb, hml, hown, hts⟩ (c_L_below l D I H.size v_3 (7 : Int32) (by decide)) (va_cwS 2 hts gL_bridge_L_below rfl rfl rfl (by decide +kernel) ⟨Nat.le_of_ble_eq_true rfl, Nat.le_of_ble_eq_true rfl⟩) (xr_pre0 hN hK1) rfl rfl hl.1 rfl (lv_room (Nat.le_of_ble_eq_true rfl)) dL_bridge_29 ⟨by show _ ≤ 300; omega, by show _ ≤ 3000; omega⟩) (fun H locs hP hD hS => ?_)
      refine lv_iconst (v := (3 : Int32)) hx hb dL_bridge_32 (by decide) ?_
      refine lv_isub hx hb dL_bridge_33 ?_
      obtain ⟨f_6a, f_6b, f_6c, f_6d⟩ := iv_setCold hI (k := k) (by omega) (cold_b hj_4).1 (cold_b hj_4).2
      refine xr_calliE (wc := WX I h qb qt b z) (Rv := (b.2.1 k)) hP hD hS hA (va_runV (As := [.int (nI k), .int ((nI j_4) - (3 : Int32))]) (rest := []) ⟨hx, hb, hml, hown, hts⟩ (met_of_xMX (c_X2_setCold l hlt D I h qb qt H.size b z (nI k) ((nI j_4) - (3 : Int32)) ) f_6a (nm2 _ _) f_6b) (cwV 2 hts gL_bridge_X2_setCold rfl rfl rfl (by decide +kernel) ⟨Nat.le_of_ble_eq_true rfl, Nat.le_of_ble_eq_true rfl⟩) (xr_preVX (wc := WX I h qb qt b z) (ci := 2) hN hXX hS hA hP hK1 hD rfl rfl) rfl rfl hl.1 rfl (lv_room (Nat.le_of_ble_eq_true rfl)) dL_bridge_34 ⟨by show _ ≤ 300; omega, by show _ ≤ 3000; omega⟩) (fun z_5 H locs hP hD hS => ?_)
      rw [f_6c] at hP hD
      have hP : va_P D vwCl (WX I h qb qt (b.1, upd b.2.1 k ((nI j_4) - (3 : Int32)), b.2.2) z_5 ++ ([] : va_W)) H := hP
      have hD : va_D (fun q : Nat => s.heap.size ≤ q) (WX I h qb qt (b.1, upd b.2.1 k ((nI j_4) - (3 : Int32)), b.2.2) z_5 ++ ([] : va_W)) := hD
      refine lv_pop hx hb dL_bridge_37 rfl ?_
      refine lv_iinc (v := (nI (k + 1))) (lv' := [(2, .int (nI (k + 1))), (1, .ref h), (0, .ref b0)]) hx hb dL_bridge_38 hl (k := 0) rfl (nI_succ k).symm (by decide) rfl (fun ls hl => ?_)
      refine lv_goto (tgt := 10) hx hb dL_bridge_41 (by decide) ?_
      refine W.widen (k := 20 + (k + 1)) (n := 560 + 6 * (k + 1)) (by omega) (by omega) ?_
      exact ih (k + 1) (b.1, upd b.2.1 k ((nI j_4) - (3 : Int32)), b.2.2) z_5 (by omega) f_6d hm ha H locs hP hD hS ls (lv_sub hl [0, 1, 2] rfl)

set_option maxHeartbeats 2000000 in
set_option maxRecDepth 100000 in
theorem br_2 (l : Launch) (hlt : l.stackTraces = false) {p : Program} {e : Env} {s : State} {m : MethodId} {below : List Frame} {meth : Method} {c : Code} {D : va_G} {I : ClassId} {h : Nat} {qb qt : Nat → Nat} {b0 L : Nat} {sc : Nat → Int32} {Q : State → Prop} (hL : L ≤ 260) (C0 : brC p s m c b0 L sc D I) (K : ∀ (N : Nat) (b z : XBr), N ≤ 40 → Iv 0 b → (b.1 0).toInt = 0 → ∀ (H : Heap) (locs : List Loc), va_P D vwCl (WX I h qb qt b z ++ ([] : va_W)) H → va_D (fun q : Nat => s.heap.size ≤ q) (WX I h qb qt b z ++ ([] : va_W)) → va_S (fun q : Nat => s.heap.size ≤ q) s.heap H locs → ∀ ls, lv_has ls 5 [(2, .int (nI N)), (1, .ref h), (0, .ref b0)] → W p l e brR s m #[Value.ref b0] below meth c H locs (36) (660) Q (F0 m 106 ls [])) (b z : XBr) (hI : Iv 0 b) (hm : (b.1 0).toInt = 0) (ha : b.1 1 = 0) : ∀ (H : Heap) (locs : List Loc), va_P D vwCl (WX I h qb qt b z ++ ([] : va_W)) H → va_D (fun q : Nat => s.heap.size ≤ q) (WX I h qb qt b z ++ ([] : va_W)) → va_S (fun q : Nat => s.heap.size ≤ q) s.heap H locs → ∀ ls, lv_has ls 5 [(1, .ref h), (0, .ref b0)] → W p l e brR s m #[Value.ref b0] below meth c H locs (30) (620) Q (F0 m 44 ls []) := by
  obtain ⟨hx, hb, hml, hown, hts, hX, hbl, hK1, hN, hXX⟩ := C0
  have hA : ∀ q : Nat, s.heap.size ≤ q → (fun q : Nat => s.heap.size ≤ q) q := fun _ h => h
  have hbA : ¬ (fun q : Nat => s.heap.size ≤ q) b0 := Nat.not_le.mpr hbl
  intro H locs hP hD hS ls hl
  refine lv_aload_n hx hb dL_bridge_44 rfl (lv_at hl 0 rfl) ?_
  refine lv_aload_n hx hb dL_bridge_45 rfl (lv_at hl 1 rfl) ?_
  refine lv_iconst (v := (1 : Int32)) hx hb dL_bridge_46 (by decide) ?_
  refine xr_cell hP hD hS hA (va_runS (As := [.ref b0, .int (1 : Int32)]) (rest := [.ref h]) ⟨hx, hb, hml, hown, hts⟩ (c_L_cell l b0 L sc (1 : Int32) (by decide) hL H.size) (va_cwS 2 hts gL_bridge_L_cell rfl rfl rfl (by decide +kernel) ⟨Nat.le_of_ble_eq_true rfl, Nat.le_of_ble_eq_true rfl⟩) (xr_preC hX hbl hbA hS) rfl rfl hl.1 rfl (lv_room (Nat.le_of_ble_eq_true rfl)) dL_bridge_47 ⟨by show _ ≤ 300; omega, by show _ ≤ 3000; omega⟩) (fun v_1 H locs hP hD hS => ?_)
  refine lv_bipush (v := (31 : Int32)) hx hb dL_bridge_50 (by decide) ?_
  obtain ⟨j_2, hj_2, ej_2⟩ := below_nI v_1 (31 : Int32) 31 (by decide) (by omega) (by omega)
  refine xr_call0 ej_2 hP hD hS hA (va_runS (As := [.int v_1, .int (31 : Int32)]) (rest := [.ref h]) ⟨hx, hb, hml, hown, hts⟩ (c_L_below l D I H.size v_1 (31 : Int32) (by decide)) (va_cwS 2 hts gL_bridge_L_below rfl rfl rfl (by decide +kernel) ⟨Nat.le_of_ble_eq_true rfl, Nat.le_of_ble_eq_true rfl⟩) (xr_pre0 hN hK1) rfl rfl hl.1 rfl (lv_room (Nat.le_of_ble_eq_true rfl)) dL_bridge_52 ⟨by show _ ≤ 300; omega, by show _ ≤ 3000; omega⟩) (fun H locs hP hD hS => ?_)
  obtain ⟨f_4a, f_4b, f_4c, f_4d, f_4e, f_4f⟩ := iv_poise hI (c := j_2) (by omega)
  refine xr_calliE (wc := WX I h qb qt b z) (Rv := (r_X2_poise b (nI j_2))) hP hD hS hA (va_runV (As := [.int (nI j_2)]) (rest := []) ⟨hx, hb, hml, hown, hts⟩ (met_of_xMX (c_X2_poise l hlt D I h qb qt H.size b z (nI j_2) ) (f_4f ha) (nm2 _ _) rfl) (cwV 1 hts gL_bridge_X2_poise rfl rfl rfl (by decide +kernel) ⟨Nat.le_of_ble_eq_true rfl, Nat.le_of_ble_eq_true rfl⟩) (xr_preVX (wc := WX I h qb qt b z) (ci := 2) hN hXX hS hA hP hK1 hD rfl rfl) rfl rfl hl.1 rfl (lv_room (Nat.le_of_ble_eq_true rfl)) dL_bridge_55 ⟨by show _ ≤ 300; omega, by show _ ≤ 3000; omega⟩) (fun z_3 H locs hP hD hS => ?_)
  have hP : va_P D vwCl (WX I h qb qt (s_X2_poise b (nI j_2)) z_3 ++ ([] : va_W)) H := hP
  have hD : va_D (fun q : Nat => s.heap.size ≤ q) (WX I h qb qt (s_X2_poise b (nI j_2)) z_3 ++ ([] : va_W)) := hD
  have f_4m : ((s_X2_poise b (nI j_2)).1 0).toInt = 0 := by rw [f_4d]; exact hm
  generalize s_X2_poise b (nI j_2) = b_5 at hP hD f_4c f_4d f_4e f_4m
  have hP : va_P D vwCl (WX I h qb qt b_5 z_3 ++ ([] : va_W)) H := hP
  have hD : va_D (fun q : Nat => s.heap.size ≤ q) (WX I h qb qt b_5 z_3 ++ ([] : va_W)) := hD
  refine lv_pop hx hb dL_bridge_58 rfl ?_
  refine lv_aload_n hx hb dL_bridge_59 rfl (lv_at hl 0 rfl) ?_
  refine lv_aload_n hx hb dL_bridge_60 rfl (lv_at hl 1 rfl) ?_
  refine lv_iconst (v := (2 : Int32)) hx hb dL_bridge_61 (by decide) ?_
  refine xr_cell hP hD hS hA (va_runS (As := [.ref b0, .int (2 : Int32)]) (rest := [.ref h]) ⟨hx, hb, hml, hown, hts⟩ (c_L_cell l b0 L sc (2 : Int32) (by decide) hL H.size) (va_cwS 2 hts gL_bridge_L_cell rfl rfl rfl (by decide +kernel) ⟨Nat.le_of_ble_eq_true rfl, Nat.le_of_ble_eq_true rfl⟩) (xr_preC hX hbl hbA hS) rfl rfl hl.1 rfl (lv_room (Nat.le_of_ble_eq_true rfl)) dL_bridge_62 ⟨by show _ ≤ 300; omega, by show _ ≤ 3000; omega⟩) (fun v_6 H locs hP hD hS => ?_)
  refine lv_bipush (v := (9 : Int32)) hx hb dL_bridge_65 (by decide) ?_
  obtain ⟨j_7, hj_7, ej_7⟩ := below_nI v_6 (9 : Int32) 9 (by decide) (by omega) (by omega)
  refine xr_call0 ej_7 hP hD hS hA (va_runS (As := [.int v_6, .int (9 : Int32)]) (rest := [.ref h]) ⟨hx, hb, hml, hown, hts⟩ (c_L_below l D I H.size v_6 (9 : Int32) (by decide)) (va_cwS 2 hts gL_bridge_L_below rfl rfl rfl (by decide +kernel) ⟨Nat.le_of_ble_eq_true rfl, Nat.le_of_ble_eq_true rfl⟩) (xr_pre0 hN hK1) rfl rfl hl.1 rfl (lv_room (Nat.le_of_ble_eq_true rfl)) dL_bridge_67 ⟨by show _ ≤ 300; omega, by show _ ≤ 3000; omega⟩) (fun H locs hP hD hS => ?_)
  refine lv_iconst (v := (5 : Int32)) hx hb dL_bridge_70 (by decide) ?_
  refine lv_irem hx hb dL_bridge_71 (by decide) ?_
  refine W.eq (congrArg (fun z => F0 m 72 ls (.int z :: [.ref h])) (rem_nI (k := j_7) (d := 5) (by decide) (by decide) (by omega))) ?_
  obtain ⟨f_9a, f_9b, f_9c, f_9d, f_9e, f_9f⟩ := iv_ring f_4c (c := (j_7 % 5)) (by omega)
  clear f_9c
  refine xr_calliE (wc := WX I h qb qt b_5 z_3) (Rv := (b_5.1 4)) hP hD hS hA (va_runV (As := [.int (nI (j_7 % 5))]) (rest := []) ⟨hx, hb, hml, hown, hts⟩ (met_of_xMX (c_X2_ring l hlt D I h qb qt H.size b_5 z_3 (nI (j_7 % 5)) ) f_9a (nm1 _) f_9b) (cwV 1 hts gL_bridge_X2_ring rfl rfl rfl (by decide +kernel) ⟨Nat.le_of_ble_eq_true rfl, Nat.le_of_ble_eq_true rfl⟩) (xr_preVX (wc := WX I h qb qt b_5 z_3) (ci := 2) hN hXX hS hA hP hK1 hD rfl rfl) rfl rfl hl.1 rfl (lv_room (Nat.le_of_ble_eq_true rfl)) dL_bridge_72 ⟨by show _ ≤ 300; omega, by show _ ≤ 3000; omega⟩) (fun z_8 H locs hP hD hS => ?_)
  have hP : va_P D vwCl (WX I h qb qt (s_X2_ring b_5 (nI (j_7 % 5))) z_8 ++ ([] : va_W)) H := hP
  have hD : va_D (fun q : Nat => s.heap.size ≤ q) (WX I h qb qt (s_X2_ring b_5 (nI (j_7 % 5))) z_8 ++ ([] : va_W)) := hD
  have f_9m : ((s_X2_ring b_5 (nI (j_7 % 5))).1 0).toInt = 0 := by rw [f_9e]; exact f_4m
  generalize s_X2_ring b_5 (nI (j_7 % 5)) = b_10 at hP hD f_9d f_9e f_9f f_9m
  have hP : va_P D vwCl (WX I h qb qt b_10 z_8 ++ ([] : va_W)) H := hP
  have hD : va_D (fun q : Nat => s.heap.size ≤ q) (WX I h qb qt b_10 z_8 ++ ([] : va_W)) := hD
  refine lv_pop hx hb dL_bridge_75 rfl ?_
  refine lv_aload_n hx hb dL_bridge_76 rfl (lv_at hl 1 rfl) ?_
  refine lv_iconst (v := (3 : Int32)) hx hb dL_bridge_77 (by decide) ?_
  refine xr_cell hP hD hS hA (va_runS (As := [.ref b0, .int (3 : Int32)]) (rest := []) ⟨hx, hb, hml, hown, hts⟩ (c_L_cell l b0 L sc (3 : Int32) (by decide) hL H.size) (va_cwS 2 hts gL_bridge_L_cell rfl rfl rfl (by decide +kernel) ⟨Nat.le_of_ble_eq_true rfl, Nat.le_of_ble_eq_true rfl⟩) (xr_preC hX hbl hbA hS) rfl rfl hl.1 rfl (lv_room (Nat.le_of_ble_eq_true rfl)) dL_bridge_78 ⟨by show _ ≤ 300; omega, by show _ ≤ 3000; omega⟩) (fun v_11 H locs hP hD hS => ?_)
  refine lv_aload_n hx hb dL_bridge_81 rfl (lv_at hl 1 rfl) ?_
  refine lv_iconst (v := (3 : Int32)) hx hb dL_bridge_82 (by decide) ?_
  refine xr_cell hP hD hS hA (va_runS (As := [.ref b0, .int (3 : Int32)]) (rest := [.int v_11]) ⟨hx, hb, hml, hown, hts⟩ (c_L_cell l b0 L sc (3 : Int32) (by decide) hL H.size) (va_cwS 2 hts gL_bridge_L_cell rfl rfl rfl (by decide +kernel) ⟨Nat.le_of_ble_eq_true rfl, Nat.le_of_ble_eq_true rfl⟩) (xr_preC hX hbl hbA hS) rfl rfl hl.1 rfl (lv_room (Nat.le_of_ble_eq_true rfl)) dL_bridge_83 ⟨by show _ ≤ 300; omega, by show _ ≤ 3000; omega⟩) (fun v_12 H locs hP hD hS => ?_)
  refine lv_iconst (v := (5 : Int32)) hx hb dL_bridge_86 (by decide) ?_
  refine lv_ishr hx hb dL_bridge_87 ?_
  refine lv_topi (fun v_13 ev_13 => ?_)
  refine lv_iconst (v := (3 : Int32)) hx hb dL_bridge_88 (by decide) ?_
  obtain ⟨j_14, hj_14, ej_14⟩ := below_nI v_13 (3 : Int32) 3 (by decide) (by omega) (by omega)
  refine xr_call0 ej_14 hP hD hS hA (va_runS (As := [.int v_13, .int (3 : Int32)]) (rest := [.int v_11]) ⟨hx, hb, hml, hown, hts⟩ (c_L_below l D I H.size v_13 (3 : Int32) (by decide)) (va_cwS 2 hts gL_bridge_L_below rfl rfl rfl (by decide +kernel) ⟨Nat.le_of_ble_eq_true rfl, Nat.le_of_ble_eq_true rfl⟩) (xr_pre0 hN hK1) rfl rfl hl.1 rfl (lv_room (Nat.le_of_ble_eq_true rfl)) dL_bridge_89 ⟨by show _ ≤ 300; omega, by show _ ≤ 3000; omega⟩) (fun H locs hP hD hS => ?_)
  refine lv_if_ne (tgt := 100) hx hb dL_bridge_92 (by decide) (fun c_15 => ?_) (fun c_15 => ?_)
  · refine lv_bipush (v := (15 : Int32)) hx hb dL_bridge_100 (by decide) ?_
    obtain ⟨j_16, hj_16, ej_16⟩ := below_nI v_11 (15 : Int32) 15 (by decide) (by omega) (by omega)
    refine xr_call0 ej_16 hP hD hS hA (va_runS (As := [.int v_11, .int (15 : Int32)]) (rest := []) ⟨hx, hb, hml, hown, hts⟩ (c_L_below l D I H.size v_11 (15 : Int32) (by decide)) (va_cwS 2 hts gL_bridge_L_below rfl rfl rfl (by decide +kernel) ⟨Nat.le_of_ble_eq_true rfl, Nat.le_of_ble_eq_true rfl⟩) (xr_pre0 hN hK1) rfl rfl hl.1 rfl (lv_room (Nat.le_of_ble_eq_true rfl)) dL_bridge_102 ⟨by show _ ≤ 300; omega, by show _ ≤ 3000; omega⟩) (fun H locs hP hD hS => ?_)
    refine lv_istore_n (lv' := [(2, .int (nI j_16)), (1, .ref h), (0, .ref b0)]) hx hb dL_bridge_105 rfl hl (by decide) rfl (fun ls hl => ?_)
    refine W.widen (k := 36) (n := 660) (by omega) (by omega) ?_
    exact K j_16 b_10 z_8 (by omega) f_9d f_9m H locs hP hD hS ls (lv_sub hl [0, 1, 2] rfl)
  · refine lv_bipush (v := (41 : Int32)) hx hb dL_bridge_95 (by decide) ?_
    refine lv_goto (tgt := 102) hx hb dL_bridge_97 (by decide) ?_
    obtain ⟨j_17, hj_17, ej_17⟩ := below_nI v_11 (41 : Int32) 41 (by decide) (by omega) (by omega)
    refine xr_call0 ej_17 hP hD hS hA (va_runS (As := [.int v_11, .int (41 : Int32)]) (rest := []) ⟨hx, hb, hml, hown, hts⟩ (c_L_below l D I H.size v_11 (41 : Int32) (by decide)) (va_cwS 2 hts gL_bridge_L_below rfl rfl rfl (by decide +kernel) ⟨Nat.le_of_ble_eq_true rfl, Nat.le_of_ble_eq_true rfl⟩) (xr_pre0 hN hK1) rfl rfl hl.1 rfl (lv_room (Nat.le_of_ble_eq_true rfl)) dL_bridge_102 ⟨by show _ ≤ 300; omega, by show _ ≤ 3000; omega⟩) (fun H locs hP hD hS => ?_)
    refine lv_istore_n (lv' := [(2, .int (nI j_17)), (1, .ref h), (0, .ref b0)]) hx hb dL_bridge_105 rfl hl (by decide) rfl (fun ls hl => ?_)
    refine W.widen (k := 36) (n := 660) (by omega) (by omega) ?_
    exact K j_17 b_10 z_8 (by omega) f_9d f_9m H locs hP hD hS ls (lv_sub hl [0, 1, 2] rfl)

set_option maxHeartbeats 2000000 in
set_option maxRecDepth 100000 in
theorem br_l2 (l : Launch) (hlt : l.stackTraces = false) {p : Program} {e : Env} {s : State} {m : MethodId} {below : List Frame} {meth : Method} {c : Code} {D : va_G} {I : ClassId} {h : Nat} {qb qt : Nat → Nat} {b0 L : Nat} {sc : Nat → Int32} {Q : State → Prop} (hL : L ≤ 260) (C0 : brC p s m c b0 L sc D I) {N : Nat} (hN40 : N ≤ 40) (K : ∀ (b z : XBr), Iv N b → (b.1 0).toInt ≤ 3200 → ∀ (H : Heap) (locs : List Loc), va_P D vwCl (WX I h qb qt b z ++ ([] : va_W)) H → va_D (fun q : Nat => s.heap.size ≤ q) (WX I h qb qt b z ++ ([] : va_W)) → va_S (fun q : Nat => s.heap.size ≤ q) s.heap H locs → ∀ ls, lv_has ls 5 [(1, .ref h), (0, .ref b0)] → W p l e brR s m #[Value.ref b0] below meth c H locs (210) (1600) Q (F0 m 245 ls [])) : ∀ (r k : Nat) (b z : XBr), r + k = N → Iv k b → (b.1 0).toInt ≤ 80 * (k : Int) → ∀ (H : Heap) (locs : List Loc), va_P D vwCl (WX I h qb qt b z ++ ([] : va_W)) H → va_D (fun q : Nat => s.heap.size ≤ q) (WX I h qb qt b z ++ ([] : va_W)) → va_S (fun q : Nat => s.heap.size ≤ q) s.heap H locs → ∀ ls, lv_has ls 5 [(3, .int (nI k)), (2, .int (nI N)), (1, .ref h), (0, .ref b0)] → W p l e brR s m #[Value.ref b0] below meth c H locs (40 + 4 * k) (700 + 20 * k) Q (F0 m 108 ls []) := by
  obtain ⟨hx, hb, hml, hown, hts, hX, hbl, hK1, hN, hXX⟩ := C0
  have hA : ∀ q : Nat, s.heap.size ≤ q → (fun q : Nat => s.heap.size ≤ q) q := fun _ h => h
  have hbA : ¬ (fun q : Nat => s.heap.size ≤ q) b0 := Nat.not_le.mpr hbl
  intro r
  induction r with
  | zero =>
    intro k b z hk hI hm H locs hP hD hS ls hl
    have hkN : k = N := by omega
    subst hkN
    refine lv_iload_n hx hb dL_bridge_108 rfl (lv_at hl 0 rfl) ?_
    refine lv_iload_n hx hb dL_bridge_109 rfl (lv_at hl 1 rfl) ?_
    refine lv_icmp_ge (tgt := 245) hx hb dL_bridge_110 (by decide) (fun c_1 => ?_) (fun c_1 => ?_)
    · refine W.widen (k := 210) (n := 1600) (by omega) (by omega) ?_
      exact K b z hI (by omega) H locs hP hD hS ls (lv_sub hl [2, 3] rfl)
    · exact absurd (nI_le (a := k) (b := k) (by omega) (by omega)) c_1
  | succ r ih =>
    intro k b z hk hI hm H locs hP hD hS ls hl
    refine lv_iload_n hx hb dL_bridge_108 rfl (lv_at hl 0 rfl) ?_
    refine lv_iload_n hx hb dL_bridge_109 rfl (lv_at hl 1 rfl) ?_
    refine lv_icmp_ge (tgt := 245) hx hb dL_bridge_110 (by decide) (fun c_1 => ?_) (fun c_1 => ?_)
    · exact absurd c_1 (nI_ge (a := k) (b := N) (by omega) (by omega))
    · refine lv_aload_n hx hb dL_bridge_113 rfl (lv_at hl 3 rfl) ?_
      refine lv_iconst (v := (4 : Int32)) hx hb dL_bridge_114 (by decide) ?_
      refine lv_iload_n hx hb dL_bridge_115 rfl (lv_at hl 0 rfl) ?_
      refine lv_bipush (v := (8 : Int32)) hx hb dL_bridge_116 (by decide) ?_
      refine lv_irem hx hb dL_bridge_118 (by decide) ?_
      refine W.eq (congrArg (fun z => F0 m 119 ls (.int z :: [.int (4 : Int32), .ref b0])) (rem_nI (k := k) (d := 8) (by decide) (by decide) (by omega))) ?_
      refine lv_iadd hx hb dL_bridge_119 ?_
      refine W.eq (congrArg (fun z => F0 m 120 ls (.int z :: [.ref b0])) (nI_add 4 (k % 8))) ?_
      refine xr_cell hP hD hS hA (va_runS (As := [.ref b0, .int (nI (4 + (k % 8)))]) (rest := []) ⟨hx, hb, hml, hown, hts⟩ (c_L_cell l b0 L sc (nI (4 + (k % 8))) (by rw [nI_toInt (by omega)]; omega) hL H.size) (va_cwS 2 hts gL_bridge_L_cell rfl rfl rfl (by decide +kernel) ⟨Nat.le_of_ble_eq_true rfl, Nat.le_of_ble_eq_true rfl⟩) (xr_preC hX hbl hbA hS) rfl rfl hl.1 rfl (lv_room (Nat.le_of_ble_eq_true rfl)) dL_bridge_120 ⟨by show _ ≤ 300; omega, by show _ ≤ 3000; omega⟩) (fun v_2 H locs hP hD hS => ?_)
      refine lv_iload_n hx hb dL_bridge_123 rfl (lv_at hl 0 rfl) ?_
      refine lv_bipush (v := (8 : Int32)) hx hb dL_bridge_124 (by decide) ?_
      refine lv_idiv hx hb dL_bridge_126 (by decide) ?_
      refine lv_iconst (v := (4 : Int32)) hx hb dL_bridge_127 (by decide) ?_
      refine lv_imul hx hb dL_bridge_128 ?_
      refine lv_ishr hx hb dL_bridge_129 ?_
      refine lv_topi (fun v_3 ev_3 => ?_)
      refine lv_bipush (v := (19 : Int32)) hx hb dL_bridge_130 (by decide) ?_
      refine lv_iload_n hx hb dL_bridge_132 rfl (lv_at hl 0 rfl) ?_
      refine lv_imul hx hb dL_bridge_133 ?_
      refine lv_iadd hx hb dL_bridge_134 ?_
      refine lv_topi (fun v_4 ev_4 => ?_)
      refine lv_istore (lv' := [(4, .int v_4), (3, .int (nI k)), (2, .int (nI N)), (1, .ref h), (0, .ref b0)]) hx hb dL_bridge_135 hl (by decide) rfl (fun ls hl => ?_)
      refine lv_aload_n hx hb dL_bridge_137 rfl (lv_at hl 3 rfl) ?_
      refine lv_iload hx hb dL_bridge_138 (lv_at hl 0 rfl) ?_
      refine lv_iconst (v := (2 : Int32)) hx hb dL_bridge_140 (by decide) ?_
      obtain ⟨j_5, hj_5, ej_5⟩ := below_nI v_4 (2 : Int32) 2 (by decide) (by omega) (by omega)
      refine xr_call0 ej_5 hP hD hS hA (va_runS (As := [.int v_4, .int (2 : Int32)]) (rest := [.ref h]) ⟨hx, hb, hml, hown, hts⟩ (c_L_below l D I H.size v_4 (2 : Int32) (by decide)) (va_cwS 2 hts gL_bridge_L_below rfl rfl rfl (by decide +kernel) ⟨Nat.le_of_ble_eq_true rfl, Nat.le_of_ble_eq_true rfl⟩) (xr_pre0 hN hK1) rfl rfl hl.1 rfl (lv_room (Nat.le_of_ble_eq_true rfl)) dL_bridge_141 ⟨by show _ ≤ 300; omega, by show _ ≤ 3000; omega⟩) (fun H locs hP hD hS => ?_)
      have K_6 : ∀ (v_b : Int32), ∀ (z_7 : XBr) (H : Heap) (locs : List Loc), va_P D vwCl (WX I h qb qt b z_7 ++ ([] : va_W)) H → va_D (fun q : Nat => s.heap.size ≤ q) (WX I h qb qt b z_7 ++ ([] : va_W)) → va_S (fun q : Nat => s.heap.size ≤ q) s.heap H locs → ∀ ls, lv_has ls 5 [(0, .ref b0), (1, .ref h), (2, .int (nI N)), (3, .int (nI k)), (4, .int v_4)] → W p l e brR s m #[Value.ref b0] below meth c H locs (40 + 4 * k + 0) (700 + 20 * k + 0) Q (F0 m 152 ls [.int v_b, .ref h]) := by
        intro v_b z_7 H locs hP hD hS ls hl
        refine lv_iconst (v := (1 : Int32)) hx hb dL_bridge_152 (by decide) ?_
        refine lv_iload hx hb dL_bridge_153 (lv_at hl 4 rfl) ?_
        refine lv_iconst (v := (2 : Int32)) hx hb dL_bridge_155 (by decide) ?_
        refine lv_ishr hx hb dL_bridge_156 ?_
        refine lv_topi (fun v_8 ev_8 => ?_)
        refine lv_bipush (v := (6 : Int32)) hx hb dL_bridge_157 (by decide) ?_
        obtain ⟨j_9, hj_9, ej_9⟩ := below_nI v_8 (6 : Int32) 6 (by decide) (by omega) (by omega)
        refine xr_call0 ej_9 hP hD hS hA (va_runS (As := [.int v_8, .int (6 : Int32)]) (rest := [.int (1 : Int32), .int v_b, .ref h]) ⟨hx, hb, hml, hown, hts⟩ (c_L_below l D I H.size v_8 (6 : Int32) (by decide)) (va_cwS 2 hts gL_bridge_L_below rfl rfl rfl (by decide +kernel) ⟨Nat.le_of_ble_eq_true rfl, Nat.le_of_ble_eq_true rfl⟩) (xr_pre0 hN hK1) rfl rfl hl.1 rfl (lv_room (Nat.le_of_ble_eq_true rfl)) dL_bridge_159 ⟨by show _ ≤ 300; omega, by show _ ≤ 3000; omega⟩) (fun H locs hP hD hS => ?_)
        refine lv_iadd hx hb dL_bridge_162 ?_
        refine W.eq (congrArg (fun z => F0 m 163 ls (.int z :: [.int v_b, .ref h])) (nI_add 1 j_9)) ?_
        obtain ⟨f_11a, f_11b, f_11c, f_11d, f_11e⟩ := iv_come hI (show k < 40 by omega) (bg := v_b) (mn := (nI (1 + j_9))) (by rw [nI_toInt (by omega)]; omega) (by rw [nI_toInt (by omega)]; omega)
        refine xr_calliE (wc := WX I h qb qt b z_7) (Rv := (nI k)) hP hD hS hA (va_runV (As := [.int v_b, .int (nI (1 + j_9))]) (rest := []) ⟨hx, hb, hml, hown, hts⟩ (met_of_xMX (c_X2_come l hlt D I h qb qt H.size b z_7 v_b (nI (1 + j_9)) hI.nB) f_11a (nm2 _ _) f_11b) (cwV 2 hts gL_bridge_X2_come rfl rfl rfl (by decide +kernel) ⟨Nat.le_of_ble_eq_true rfl, Nat.le_of_ble_eq_true rfl⟩) (xr_preVX (wc := WX I h qb qt b z_7) (ci := 2) hN hXX hS hA hP hK1 hD rfl rfl) rfl rfl hl.1 rfl (lv_room (Nat.le_of_ble_eq_true rfl)) dL_bridge_163 ⟨by show _ ≤ 300; omega, by show _ ≤ 3000; omega⟩) (fun z_10 H locs hP hD hS => ?_)
        have hP : va_P D vwCl (WX I h qb qt (s_X2_come b v_b (nI (1 + j_9))) z_10 ++ ([] : va_W)) H := hP
        have hD : va_D (fun q : Nat => s.heap.size ≤ q) (WX I h qb qt (s_X2_come b v_b (nI (1 + j_9))) z_10 ++ ([] : va_W)) := hD
        have f_11m : ((s_X2_come b v_b (nI (1 + j_9))).1 0).toInt ≤ 80 * (k : Int) := by rw [f_11d]; exact hm
        generalize s_X2_come b v_b (nI (1 + j_9)) = b_12 at hP hD f_11c f_11d f_11e f_11m
        have hP : va_P D vwCl (WX I h qb qt b_12 z_10 ++ ([] : va_W)) H := hP
        have hD : va_D (fun q : Nat => s.heap.size ≤ q) (WX I h qb qt b_12 z_10 ++ ([] : va_W)) := hD
        refine lv_pop hx hb dL_bridge_166 rfl ?_
        refine lv_iload hx hb dL_bridge_167 (lv_at hl 4 rfl) ?_
        refine lv_iconst (v := (4 : Int32)) hx hb dL_bridge_169 (by decide) ?_
        refine lv_ishr hx hb dL_bridge_170 ?_
        refine lv_topi (fun v_13 ev_13 => ?_)
        refine lv_iconst (v := (3 : Int32)) hx hb dL_bridge_171 (by decide) ?_
        obtain ⟨j_14, hj_14, ej_14⟩ := below_nI v_13 (3 : Int32) 3 (by decide) (by omega) (by omega)
        refine xr_call0 ej_14 hP hD hS hA (va_runS (As := [.int v_13, .int (3 : Int32)]) (rest := []) ⟨hx, hb, hml, hown, hts⟩ (c_L_below l D I H.size v_13 (3 : Int32) (by decide)) (va_cwS 2 hts gL_bridge_L_below rfl rfl rfl (by decide +kernel) ⟨Nat.le_of_ble_eq_true rfl, Nat.le_of_ble_eq_true rfl⟩) (xr_pre0 hN hK1) rfl rfl hl.1 rfl (lv_room (Nat.le_of_ble_eq_true rfl)) dL_bridge_172 ⟨by show _ ≤ 300; omega, by show _ ≤ 3000; omega⟩) (fun H locs hP hD hS => ?_)
        have K_15 : ∀ (b_2 : XBr), Iv (k + 1) b_2 → (b_2.1 0).toInt ≤ 80 * ((k : Int) + 1) → ∀ (z_16 : XBr) (H : Heap) (locs : List Loc), va_P D vwCl (WX I h qb qt b_2 z_16 ++ ([] : va_W)) H → va_D (fun q : Nat => s.heap.size ≤ q) (WX I h qb qt b_2 z_16 ++ ([] : va_W)) → va_S (fun q : Nat => s.heap.size ≤ q) s.heap H locs → ∀ ls, lv_has ls 5 [(0, .ref b0), (1, .ref h), (2, .int (nI N)), (3, .int (nI k)), (4, .int v_4)] → W p l e brR s m #[Value.ref b0] below meth c H locs (40 + 4 * k + 2) (700 + 20 * k + 12) Q (F0 m 211 ls []) := by
          intro b_2 hI_2 hm_2 z_16 H locs hP hD hS ls hl
          refine lv_iload hx hb dL_bridge_211 (lv_at hl 4 rfl) ?_
          refine lv_bipush (v := (7 : Int32)) hx hb dL_bridge_213 (by decide) ?_
          refine lv_ishr hx hb dL_bridge_215 ?_
          refine lv_topi (fun v_17 ev_17 => ?_)
          refine lv_bipush (v := (9 : Int32)) hx hb dL_bridge_216 (by decide) ?_
          obtain ⟨j_18, hj_18, ej_18⟩ := below_nI v_17 (9 : Int32) 9 (by decide) (by omega) (by omega)
          refine xr_call0 ej_18 hP hD hS hA (va_runS (As := [.int v_17, .int (9 : Int32)]) (rest := []) ⟨hx, hb, hml, hown, hts⟩ (c_L_below l D I H.size v_17 (9 : Int32) (by decide)) (va_cwS 2 hts gL_bridge_L_below rfl rfl rfl (by decide +kernel) ⟨Nat.le_of_ble_eq_true rfl, Nat.le_of_ble_eq_true rfl⟩) (xr_pre0 hN hK1) rfl rfl hl.1 rfl (lv_room (Nat.le_of_ble_eq_true rfl)) dL_bridge_218 ⟨by show _ ≤ 300; omega, by show _ ≤ 3000; omega⟩) (fun H locs hP hD hS => ?_)
          refine lv_if_ne (tgt := 239) hx hb dL_bridge_221 (by decide) (fun c_19 => ?_) (fun c_19 => ?_)
          · refine lv_iinc (v := (nI (k + 1))) (lv' := [(3, .int (nI (k + 1))), (0, .ref b0), (1, .ref h), (2, .int (nI N)), (4, .int v_4)]) hx hb dL_bridge_239 hl (k := 3) rfl (nI_succ k).symm (by decide) rfl (fun ls hl => ?_)
            refine lv_goto (tgt := 108) hx hb dL_bridge_242 (by decide) ?_
            refine W.widen (k := 40 + 4 * (k + 1)) (n := 700 + 20 * (k + 1)) (by omega) (by omega) ?_
            exact ih (k + 1) b_2 z_16 (by omega) hI_2 (by have := hm_2; omega) H locs hP hD hS ls (lv_sub hl [0, 3, 2, 1] rfl)
          · refine lv_aload_n hx hb dL_bridge_224 rfl (lv_at hl 1 rfl) ?_
            refine lv_iload hx hb dL_bridge_225 (lv_at hl 4 rfl) ?_
            refine lv_iconst (v := (3 : Int32)) hx hb dL_bridge_227 (by decide) ?_
            refine lv_ishr hx hb dL_bridge_228 ?_
            refine lv_topi (fun v_20 ev_20 => ?_)
            refine lv_iload_n hx hb dL_bridge_229 rfl (lv_at hl 3 rfl) ?_
            refine lv_iconst (v := (1 : Int32)) hx hb dL_bridge_230 (by decide) ?_
            refine lv_iadd hx hb dL_bridge_231 ?_
            refine W.eq (congrArg (fun z => F0 m 232 ls (.int z :: [.int v_20, .ref h])) (nI_add k 1)) ?_
            obtain ⟨j_21, hj_21, ej_21⟩ := below_nI v_20 (nI (k + 1)) (k + 1) rfl (by omega) (by omega)
            refine xr_call0 ej_21 hP hD hS hA (va_runS (As := [.int v_20, .int (nI (k + 1))]) (rest := [.ref h]) ⟨hx, hb, hml, hown, hts⟩ (c_L_below l D I H.size v_20 (nI (k + 1)) (nI_ne0 (by omega) (by omega))) (va_cwS 2 hts gL_bridge_L_below rfl rfl rfl (by decide +kernel) ⟨Nat.le_of_ble_eq_true rfl, Nat.le_of_ble_eq_true rfl⟩) (xr_pre0 hN hK1) rfl rfl hl.1 rfl (lv_room (Nat.le_of_ble_eq_true rfl)) dL_bridge_232 ⟨by show _ ≤ 300; omega, by show _ ≤ 3000; omega⟩) (fun H locs hP hD hS => ?_)
            obtain ⟨f_23a, f_23b, f_23c, f_23d, f_23e, f_23f⟩ := iv_leave hI_2 (j := j_21) (by omega)
            clear f_23e f_23f
            refine xr_calliR (wc := WX I h qb qt b_2 z_16) rfl hP hD hS hA (vx_runSW (As := [.ref h, .int (nI j_21)]) (rest := []) ⟨hx, hb, hml, hown, hts⟩ (c_L_leave l hlt D I h qb qt H.size b_2 z_16 (nI j_21) hI_2.nB f_23a) (vx_cwSW 2 hts gL_bridge_L_leave rfl rfl rfl (by decide +kernel) ⟨Nat.le_of_ble_eq_true rfl, Nat.le_of_ble_eq_true rfl⟩) (xr_preX (wc := WX I h qb qt b_2 z_16) hN hXX hS hA hP hK1 hD) rfl rfl hl.1 rfl (lv_room (Nat.le_of_ble_eq_true rfl)) dL_bridge_235 ⟨by show _ ≤ 300; omega, by show _ ≤ 3000; omega⟩) (fun z_22 H locs hP hD hS => ?_)
            have hP : va_P D vwCl (WX I h qb qt (s_X2_leave b_2 (nI j_21)) z_22 ++ ([] : va_W)) H := hP
            have hD : va_D (fun q : Nat => s.heap.size ≤ q) (WX I h qb qt (s_X2_leave b_2 (nI j_21)) z_22 ++ ([] : va_W)) := hD
            have f_23m : ((s_X2_leave b_2 (nI j_21)).1 0).toInt ≤ 80 * ((k : Int) + 1) := by rw [f_23c]; exact hm_2
            generalize s_X2_leave b_2 (nI j_21) = b_24 at hP hD f_23b f_23c f_23d f_23m
            have hP : va_P D vwCl (WX I h qb qt b_24 z_22 ++ ([] : va_W)) H := hP
            have hD : va_D (fun q : Nat => s.heap.size ≤ q) (WX I h qb qt b_24 z_22 ++ ([] : va_W)) := hD
            refine lv_pop hx hb dL_bridge_238 rfl ?_
            refine lv_iinc (v := (nI (k + 1))) (lv' := [(3, .int (nI (k + 1))), (0, .ref b0), (1, .ref h), (2, .int (nI N)), (4, .int v_4)]) hx hb dL_bridge_239 hl (k := 3) rfl (nI_succ k).symm (by decide) rfl (fun ls hl => ?_)
            refine lv_goto (tgt := 108) hx hb dL_bridge_242 (by decide) ?_
            refine W.widen (k := 40 + 4 * (k + 1)) (n := 700 + 20 * (k + 1)) (by omega) (by omega) ?_
            exact ih (k + 1) b_24 z_22 (by omega) f_23b (by have := f_23m; omega) H locs hP hD hS ls (lv_sub hl [0, 3, 2, 1] rfl)
        refine lv_if_ne (tgt := 211) hx hb dL_bridge_175 (by decide) (fun c_25 => ?_) (fun c_25 => ?_)
        · refine W.widen (k := 40 + 4 * k + 2) (n := 700 + 20 * k + 12) (by omega) (by omega) ?_
          exact K_15 b_12 f_11c (by have := f_11m; omega) z_10 H locs hP hD hS ls (lv_sub hl [0, 1, 2, 3, 4] rfl)
        · refine lv_aload_n hx hb dL_bridge_178 rfl (lv_at hl 1 rfl) ?_
          refine lv_iconst (v := (1 : Int32)) hx hb dL_bridge_179 (by decide) ?_
          refine lv_iload hx hb dL_bridge_180 (lv_at hl 4 rfl) ?_
          refine lv_iconst (v := (5 : Int32)) hx hb dL_bridge_182 (by decide) ?_
          refine lv_ishr hx hb dL_bridge_183 ?_
          refine lv_topi (fun v_26 ev_26 => ?_)
          refine lv_iload hx hb dL_bridge_184 (lv_at hl 4 rfl) ?_
          refine lv_bipush (v := (6 : Int32)) hx hb dL_bridge_186 (by decide) ?_
          refine lv_ishr hx hb dL_bridge_188 ?_
          refine lv_topi (fun v_27 ev_27 => ?_)
          refine lv_iconst (v := (4 : Int32)) hx hb dL_bridge_189 (by decide) ?_
          obtain ⟨j_28, hj_28, ej_28⟩ := below_nI v_27 (4 : Int32) 4 (by decide) (by omega) (by omega)
          refine xr_call0 ej_28 hP hD hS hA (va_runS (As := [.int v_27, .int (4 : Int32)]) (rest := [.int v_26, .int (1 : Int32), .ref h]) ⟨hx, hb, hml, hown, hts⟩ (c_L_below l D I H.size v_27 (4 : Int32) (by decide)) (va_cwS 2 hts gL_bridge_L_below rfl rfl rfl (by decide +kernel) ⟨Nat.le_of_ble_eq_true rfl, Nat.le_of_ble_eq_true rfl⟩) (xr_pre0 hN hK1) rfl rfl hl.1 rfl (lv_room (Nat.le_of_ble_eq_true rfl)) dL_bridge_190 ⟨by show _ ≤ 300; omega, by show _ ≤ 3000; omega⟩) (fun H locs hP hD hS => ?_)
          refine lv_if_ne (tgt := 201) hx hb dL_bridge_193 (by decide) (fun c_29 => ?_) (fun c_29 => ?_)
          · refine lv_bipush (v := (12 : Int32)) hx hb dL_bridge_201 (by decide) ?_
            obtain ⟨j_30, hj_30, ej_30⟩ := below_nI v_26 (12 : Int32) 12 (by decide) (by omega) (by omega)
            refine xr_call0 ej_30 hP hD hS hA (va_runS (As := [.int v_26, .int (12 : Int32)]) (rest := [.int (1 : Int32), .ref h]) ⟨hx, hb, hml, hown, hts⟩ (c_L_below l D I H.size v_26 (12 : Int32) (by decide)) (va_cwS 2 hts gL_bridge_L_below rfl rfl rfl (by decide +kernel) ⟨Nat.le_of_ble_eq_true rfl, Nat.le_of_ble_eq_true rfl⟩) (xr_pre0 hN hK1) rfl rfl hl.1 rfl (lv_room (Nat.le_of_ble_eq_true rfl)) dL_bridge_203 ⟨by show _ ≤ 300; omega, by show _ ≤ 3000; omega⟩) (fun H locs hP hD hS => ?_)
            refine lv_iadd hx hb dL_bridge_206 ?_
            refine W.eq (congrArg (fun z => F0 m 207 ls (.int z :: [.ref h])) (nI_add 1 j_30)) ?_
            obtain ⟨f_32a, f_32b, f_32c, f_32d⟩ := iv_pass f_11c (m := 1 + j_30) (by omega) (by omega) (by omega)
            refine xr_calliE (wc := WX I h qb qt b_12 z_10) (Rv := (r_X2_pass b_12 (nI (1 + j_30)))) hP hD hS hA (va_runV (As := [.int (nI (1 + j_30))]) (rest := []) ⟨hx, hb, hml, hown, hts⟩ (met_of_xMX (c_X2_pass l hlt D I h qb qt H.size b_12 z_10 (nI (1 + j_30)) f_11c.nB f_11c.m0 (by omega)) f_32a (nm1 _) rfl) (cwV 1 hts gL_bridge_X2_pass rfl rfl rfl (by decide +kernel) ⟨Nat.le_of_ble_eq_true rfl, Nat.le_of_ble_eq_true rfl⟩) (xr_preVX (wc := WX I h qb qt b_12 z_10) (ci := 2) hN hXX hS hA hP hK1 hD rfl rfl) rfl rfl hl.1 rfl (lv_room (Nat.le_of_ble_eq_true rfl)) dL_bridge_207 ⟨by show _ ≤ 300; omega, by show _ ≤ 3000; omega⟩) (fun z_31 H locs hP hD hS => ?_)
            have hP : va_P D vwCl (WX I h qb qt (s_X2_pass b_12 (nI (1 + j_30))) z_31 ++ ([] : va_W)) H := hP
            have hD : va_D (fun q : Nat => s.heap.size ≤ q) (WX I h qb qt (s_X2_pass b_12 (nI (1 + j_30))) z_31 ++ ([] : va_W)) := hD
            generalize s_X2_pass b_12 (nI (1 + j_30)) = b_33 at hP hD f_32b f_32c f_32d
            have hP : va_P D vwCl (WX I h qb qt b_33 z_31 ++ ([] : va_W)) H := hP
            have hD : va_D (fun q : Nat => s.heap.size ≤ q) (WX I h qb qt b_33 z_31 ++ ([] : va_W)) := hD
            refine lv_pop hx hb dL_bridge_210 rfl ?_
            refine W.widen (k := 40 + 4 * k + 2) (n := 700 + 20 * k + 12) (by omega) (by omega) ?_
            exact K_15 b_33 f_32b (by have := f_32b; omega) z_31 H locs hP hD hS ls (lv_sub hl [0, 1, 2, 3, 4] rfl)
          · refine lv_bipush (v := (80 : Int32)) hx hb dL_bridge_196 (by decide) ?_
            refine lv_goto (tgt := 203) hx hb dL_bridge_198 (by decide) ?_
            obtain ⟨j_34, hj_34, ej_34⟩ := below_nI v_26 (80 : Int32) 80 (by decide) (by omega) (by omega)
            refine xr_call0 ej_34 hP hD hS hA (va_runS (As := [.int v_26, .int (80 : Int32)]) (rest := [.int (1 : Int32), .ref h]) ⟨hx, hb, hml, hown, hts⟩ (c_L_below l D I H.size v_26 (80 : Int32) (by decide)) (va_cwS 2 hts gL_bridge_L_below rfl rfl rfl (by decide +kernel) ⟨Nat.le_of_ble_eq_true rfl, Nat.le_of_ble_eq_true rfl⟩) (xr_pre0 hN hK1) rfl rfl hl.1 rfl (lv_room (Nat.le_of_ble_eq_true rfl)) dL_bridge_203 ⟨by show _ ≤ 300; omega, by show _ ≤ 3000; omega⟩) (fun H locs hP hD hS => ?_)
            refine lv_iadd hx hb dL_bridge_206 ?_
            refine W.eq (congrArg (fun z => F0 m 207 ls (.int z :: [.ref h])) (nI_add 1 j_34)) ?_
            obtain ⟨f_36a, f_36b, f_36c, f_36d⟩ := iv_pass f_11c (m := 1 + j_34) (by omega) (by omega) (by omega)
            refine xr_calliE (wc := WX I h qb qt b_12 z_10) (Rv := (r_X2_pass b_12 (nI (1 + j_34)))) hP hD hS hA (va_runV (As := [.int (nI (1 + j_34))]) (rest := []) ⟨hx, hb, hml, hown, hts⟩ (met_of_xMX (c_X2_pass l hlt D I h qb qt H.size b_12 z_10 (nI (1 + j_34)) f_11c.nB f_11c.m0 (by omega)) f_36a (nm1 _) rfl) (cwV 1 hts gL_bridge_X2_pass rfl rfl rfl (by decide +kernel) ⟨Nat.le_of_ble_eq_true rfl, Nat.le_of_ble_eq_true rfl⟩) (xr_preVX (wc := WX I h qb qt b_12 z_10) (ci := 2) hN hXX hS hA hP hK1 hD rfl rfl) rfl rfl hl.1 rfl (lv_room (Nat.le_of_ble_eq_true rfl)) dL_bridge_207 ⟨by show _ ≤ 300; omega, by show _ ≤ 3000; omega⟩) (fun z_35 H locs hP hD hS => ?_)
            have hP : va_P D vwCl (WX I h qb qt (s_X2_pass b_12 (nI (1 + j_34))) z_35 ++ ([] : va_W)) H := hP
            have hD : va_D (fun q : Nat => s.heap.size ≤ q) (WX I h qb qt (s_X2_pass b_12 (nI (1 + j_34))) z_35 ++ ([] : va_W)) := hD
            generalize s_X2_pass b_12 (nI (1 + j_34)) = b_37 at hP hD f_36b f_36c f_36d
            have hP : va_P D vwCl (WX I h qb qt b_37 z_35 ++ ([] : va_W)) H := hP
            have hD : va_D (fun q : Nat => s.heap.size ≤ q) (WX I h qb qt b_37 z_35 ++ ([] : va_W)) := hD
            refine lv_pop hx hb dL_bridge_210 rfl ?_
            refine W.widen (k := 40 + 4 * k + 2) (n := 700 + 20 * k + 12) (by omega) (by omega) ?_
            exact K_15 b_37 f_36b (by have := f_36b; omega) z_35 H locs hP hD hS ls (lv_sub hl [0, 1, 2, 3, 4] rfl)
      refine lv_if_ne (tgt := 151) hx hb dL_bridge_144 (by decide) (fun c_38 => ?_) (fun c_38 => ?_)
      · refine lv_iconst (v := (0 : Int32)) hx hb dL_bridge_151 (by decide) ?_
        refine W.widen (k := 40 + 4 * k + 0) (n := 700 + 20 * k + 0) (by omega) (by omega) ?_
        exact K_6 (0 : Int32) z H locs hP hD hS ls (lv_sub hl [4, 3, 2, 1, 0] rfl)
      · refine lv_iconst (v := (1 : Int32)) hx hb dL_bridge_147 (by decide) ?_
        refine lv_goto (tgt := 152) hx hb dL_bridge_148 (by decide) ?_
        refine W.widen (k := 40 + 4 * k + 0) (n := 700 + 20 * k + 0) (by omega) (by omega) ?_
        exact K_6 (1 : Int32) z H locs hP hD hS ls (lv_sub hl [4, 3, 2, 1, 0] rfl)

set_option maxHeartbeats 2000000 in
set_option maxRecDepth 100000 in
theorem br_4 (l : Launch) (hlt : l.stackTraces = false) {p : Program} {e : Env} {s : State} {m : MethodId} {below : List Frame} {meth : Method} {c : Code} {D : va_G} {I : ClassId} {h : Nat} {qb qt : Nat → Nat} {b0 L : Nat} {sc : Nat → Int32} (hL : L ≤ 260) (hr : meth.sig.returnType = some (.object "BridgeBells")) (hlocks : meth.locks = false) (C0 : brC p s m c b0 L sc D I) {N : Nat} (b z : XBr) (hI : Iv N b) (hm : (b.1 0).toInt ≤ 3200) : ∀ (H : Heap) (locs : List Loc), va_P D vwCl (WX I h qb qt b z ++ ([] : va_W)) H → va_D (fun q : Nat => s.heap.size ≤ q) (WX I h qb qt b z ++ ([] : va_W)) → va_S (fun q : Nat => s.heap.size ≤ q) s.heap H locs → ∀ ls, lv_has ls 5 [(1, .ref h), (0, .ref b0)] → W p l e brR s m #[Value.ref b0] below meth c H locs (210) (1600) (vx_MQ below (xQbr D I (fun q : Nat => s.heap.size ≤ q)) xXF #[Value.ref b0] s 300 3000 (fun q : Nat => s.heap.size ≤ q)) (F0 m 245 ls []) := by
  obtain ⟨hx, hb, hml, hown, hts, hX, hbl, hK1, hN, hXX⟩ := C0
  have hA : ∀ q : Nat, s.heap.size ≤ q → (fun q : Nat => s.heap.size ≤ q) q := fun _ h => h
  have hbA : ¬ (fun q : Nat => s.heap.size ≤ q) b0 := Nat.not_le.mpr hbl
  intro H locs hP hD hS ls hl
  refine lv_aload_n hx hb dL_bridge_245 rfl (lv_at hl 1 rfl) ?_
  refine lv_bipush (v := (12 : Int32)) hx hb dL_bridge_246 (by decide) ?_
  refine xr_cell hP hD hS hA (va_runS (As := [.ref b0, .int (12 : Int32)]) (rest := []) ⟨hx, hb, hml, hown, hts⟩ (c_L_cell l b0 L sc (12 : Int32) (by decide) hL H.size) (va_cwS 2 hts gL_bridge_L_cell rfl rfl rfl (by decide +kernel) ⟨Nat.le_of_ble_eq_true rfl, Nat.le_of_ble_eq_true rfl⟩) (xr_preC hX hbl hbA hS) rfl rfl hl.1 rfl (lv_room (Nat.le_of_ble_eq_true rfl)) dL_bridge_248 ⟨by show _ ≤ 300; omega, by show _ ≤ 3000; omega⟩) (fun v_1 H locs hP hD hS => ?_)
  refine lv_iconst (v := (3 : Int32)) hx hb dL_bridge_251 (by decide) ?_
  obtain ⟨j_2, hj_2, ej_2⟩ := below_nI v_1 (3 : Int32) 3 (by decide) (by omega) (by omega)
  refine xr_call0 ej_2 hP hD hS hA (va_runS (As := [.int v_1, .int (3 : Int32)]) (rest := []) ⟨hx, hb, hml, hown, hts⟩ (c_L_below l D I H.size v_1 (3 : Int32) (by decide)) (va_cwS 2 hts gL_bridge_L_below rfl rfl rfl (by decide +kernel) ⟨Nat.le_of_ble_eq_true rfl, Nat.le_of_ble_eq_true rfl⟩) (xr_pre0 hN hK1) rfl rfl hl.1 rfl (lv_room (Nat.le_of_ble_eq_true rfl)) dL_bridge_252 ⟨by show _ ≤ 300; omega, by show _ ≤ 3000; omega⟩) (fun H locs hP hD hS => ?_)
  have K_3 : ∀ (b_2 : XBr), Iv N b_2 → (b_2.1 0).toInt ≤ 3200 → ∀ (z_4 : XBr) (H : Heap) (locs : List Loc), va_P D vwCl (WX I h qb qt b_2 z_4 ++ ([] : va_W)) H → va_D (fun q : Nat => s.heap.size ≤ q) (WX I h qb qt b_2 z_4 ++ ([] : va_W)) → va_S (fun q : Nat => s.heap.size ≤ q) s.heap H locs → ∀ ls, lv_has ls 5 [(0, .ref b0), (1, .ref h)] → W p l e brR s m #[Value.ref b0] below meth c H locs (210 + 1) (1600 + 6) (vx_MQ below (xQbr D I (fun q : Nat => s.heap.size ≤ q)) xXF #[Value.ref b0] s 300 3000 (fun q : Nat => s.heap.size ≤ q)) (F0 m 275 ls []) := by
    intro b_2 hI_2 hm_2 z_4 H locs hP hD hS ls hl
    refine lv_aload_n hx hb dL_bridge_275 rfl (lv_at hl 0 rfl) ?_
    refine lv_bipush (v := (13 : Int32)) hx hb dL_bridge_276 (by decide) ?_
    refine xr_cell hP hD hS hA (va_runS (As := [.ref b0, .int (13 : Int32)]) (rest := []) ⟨hx, hb, hml, hown, hts⟩ (c_L_cell l b0 L sc (13 : Int32) (by decide) hL H.size) (va_cwS 2 hts gL_bridge_L_cell rfl rfl rfl (by decide +kernel) ⟨Nat.le_of_ble_eq_true rfl, Nat.le_of_ble_eq_true rfl⟩) (xr_preC hX hbl hbA hS) rfl rfl hl.1 rfl (lv_room (Nat.le_of_ble_eq_true rfl)) dL_bridge_278 ⟨by show _ ≤ 300; omega, by show _ ≤ 3000; omega⟩) (fun v_5 H locs hP hD hS => ?_)
    refine lv_iconst (v := (3 : Int32)) hx hb dL_bridge_281 (by decide) ?_
    obtain ⟨j_6, hj_6, ej_6⟩ := below_nI v_5 (3 : Int32) 3 (by decide) (by omega) (by omega)
    refine xr_call0 ej_6 hP hD hS hA (va_runS (As := [.int v_5, .int (3 : Int32)]) (rest := []) ⟨hx, hb, hml, hown, hts⟩ (c_L_below l D I H.size v_5 (3 : Int32) (by decide)) (va_cwS 2 hts gL_bridge_L_below rfl rfl rfl (by decide +kernel) ⟨Nat.le_of_ble_eq_true rfl, Nat.le_of_ble_eq_true rfl⟩) (xr_pre0 hN hK1) rfl rfl hl.1 rfl (lv_room (Nat.le_of_ble_eq_true rfl)) dL_bridge_282 ⟨by show _ ≤ 300; omega, by show _ ≤ 3000; omega⟩) (fun H locs hP hD hS => ?_)
    refine lv_if_ne (tgt := 293) hx hb dL_bridge_285 (by decide) (fun c_7 => ?_) (fun c_7 => ?_)
    · refine lv_aload_n hx hb dL_bridge_293 rfl (lv_at hl 1 rfl) ?_
      rw [List.append_nil] at hP hD
      refine W.widen (k := 300) (n := 3000) (by omega) (by omega) ?_
      refine vx_ret ?_
      refine W.aret (free := (fun q : Nat => s.heap.size ≤ q)) hx hb hr (Or.inl ⟨_, rfl⟩) (Or.inr ⟨_, rfl⟩) ?_ hS.2.2 dL_bridge_294 hlocks
      intro t ht hW
      exact ⟨⟨(qb, qt, b_2, z_4), h, rfl, ⟨N, hI_2, hm_2⟩, by show va_P D vwCl _ t.heap ∧ _; rw [ht]; exact ⟨hP, hD⟩⟩, hS.F ht⟩
    · refine lv_aload_n hx hb dL_bridge_288 rfl (lv_at hl 1 rfl) ?_
      refine xr_calli (wc := WX I h qb qt b_2 z_4) rfl hP hD hS hA (va_runV (As := []) (rest := []) ⟨hx, hb, hml, hown, hts⟩ (c_X2_crack l D I h qb qt H.size b_2 z_4  ) (cwV 0 hts gL_bridge_X2_crack rfl rfl rfl (by decide +kernel) ⟨Nat.le_of_ble_eq_true rfl, Nat.le_of_ble_eq_true rfl⟩) (xr_preV (wc := WX I h qb qt b_2 z_4) (ci := 2) hN hP hK1 hD rfl rfl) rfl rfl hl.1 rfl (lv_room (Nat.le_of_ble_eq_true rfl)) dL_bridge_289 ⟨by show _ ≤ 300; omega, by show _ ≤ 3000; omega⟩) (fun H locs hP hD hS => ?_)
      have hP : va_P D vwCl (WX I h qb qt (s_X2_crack b_2) z_4 ++ ([] : va_W)) H := hP
      have hD : va_D (fun q : Nat => s.heap.size ≤ q) (WX I h qb qt (s_X2_crack b_2) z_4 ++ ([] : va_W)) := hD
      obtain ⟨f_9a, f_9b, f_9c⟩ := iv_crack hI_2
      have f_9m : ((s_X2_crack b_2).1 0).toInt ≤ 3200 := by rw [f_9b]; exact hm_2
      generalize s_X2_crack b_2 = b_10 at hP hD f_9a f_9b f_9c f_9m
      have hP : va_P D vwCl (WX I h qb qt b_10 z_4 ++ ([] : va_W)) H := hP
      have hD : va_D (fun q : Nat => s.heap.size ≤ q) (WX I h qb qt b_10 z_4 ++ ([] : va_W)) := hD
      refine lv_pop hx hb dL_bridge_292 rfl ?_
      refine lv_aload_n hx hb dL_bridge_293 rfl (lv_at hl 1 rfl) ?_
      rw [List.append_nil] at hP hD
      refine W.widen (k := 300) (n := 3000) (by omega) (by omega) ?_
      refine vx_ret ?_
      refine W.aret (free := (fun q : Nat => s.heap.size ≤ q)) hx hb hr (Or.inl ⟨_, rfl⟩) (Or.inr ⟨_, rfl⟩) ?_ hS.2.2 dL_bridge_294 hlocks
      intro t ht hW
      exact ⟨⟨(qb, qt, b_10, z_4), h, rfl, ⟨N, f_9a, f_9m⟩, by show va_P D vwCl _ t.heap ∧ _; rw [ht]; exact ⟨hP, hD⟩⟩, hS.F ht⟩
  refine lv_if_ne (tgt := 275) hx hb dL_bridge_255 (by decide) (fun c_11 => ?_) (fun c_11 => ?_)
  · refine W.widen (k := 210 + 1) (n := 1600 + 6) (by omega) (by omega) ?_
    exact K_3 b hI hm z H locs hP hD hS ls (lv_sub hl [1, 0] rfl)
  · refine lv_aload_n hx hb dL_bridge_258 rfl (lv_at hl 0 rfl) ?_
    refine lv_aload_n hx hb dL_bridge_259 rfl (lv_at hl 1 rfl) ?_
    refine lv_bipush (v := (12 : Int32)) hx hb dL_bridge_260 (by decide) ?_
    refine xr_cell hP hD hS hA (va_runS (As := [.ref b0, .int (12 : Int32)]) (rest := [.ref h]) ⟨hx, hb, hml, hown, hts⟩ (c_L_cell l b0 L sc (12 : Int32) (by decide) hL H.size) (va_cwS 2 hts gL_bridge_L_cell rfl rfl rfl (by decide +kernel) ⟨Nat.le_of_ble_eq_true rfl, Nat.le_of_ble_eq_true rfl⟩) (xr_preC hX hbl hbA hS) rfl rfl hl.1 rfl (lv_room (Nat.le_of_ble_eq_true rfl)) dL_bridge_262 ⟨by show _ ≤ 300; omega, by show _ ≤ 3000; omega⟩) (fun v_12 H locs hP hD hS => ?_)
    refine lv_iconst (v := (2 : Int32)) hx hb dL_bridge_265 (by decide) ?_
    refine lv_ishr hx hb dL_bridge_266 ?_
    refine lv_topi (fun v_13 ev_13 => ?_)
    refine lv_iconst (v := (5 : Int32)) hx hb dL_bridge_267 (by decide) ?_
    obtain ⟨j_14, hj_14, ej_14⟩ := below_nI v_13 (5 : Int32) 5 (by decide) (by omega) (by omega)
    refine xr_call0 ej_14 hP hD hS hA (va_runS (As := [.int v_13, .int (5 : Int32)]) (rest := [.ref h]) ⟨hx, hb, hml, hown, hts⟩ (c_L_below l D I H.size v_13 (5 : Int32) (by decide)) (va_cwS 2 hts gL_bridge_L_below rfl rfl rfl (by decide +kernel) ⟨Nat.le_of_ble_eq_true rfl, Nat.le_of_ble_eq_true rfl⟩) (xr_pre0 hN hK1) rfl rfl hl.1 rfl (lv_room (Nat.le_of_ble_eq_true rfl)) dL_bridge_268 ⟨by show _ ≤ 300; omega, by show _ ≤ 3000; omega⟩) (fun H locs hP hD hS => ?_)
    obtain ⟨f_16a, f_16b, f_16c, f_16d, f_16e, f_16f⟩ := iv_ring hI (c := j_14) (by omega)
    clear f_16c
    refine xr_calliE (wc := WX I h qb qt b z) (Rv := (b.1 4)) hP hD hS hA (va_runV (As := [.int (nI j_14)]) (rest := []) ⟨hx, hb, hml, hown, hts⟩ (met_of_xMX (c_X2_ring l hlt D I h qb qt H.size b z (nI j_14) ) f_16a (nm1 _) f_16b) (cwV 1 hts gL_bridge_X2_ring rfl rfl rfl (by decide +kernel) ⟨Nat.le_of_ble_eq_true rfl, Nat.le_of_ble_eq_true rfl⟩) (xr_preVX (wc := WX I h qb qt b z) (ci := 2) hN hXX hS hA hP hK1 hD rfl rfl) rfl rfl hl.1 rfl (lv_room (Nat.le_of_ble_eq_true rfl)) dL_bridge_271 ⟨by show _ ≤ 300; omega, by show _ ≤ 3000; omega⟩) (fun z_15 H locs hP hD hS => ?_)
    have hP : va_P D vwCl (WX I h qb qt (s_X2_ring b (nI j_14)) z_15 ++ ([] : va_W)) H := hP
    have hD : va_D (fun q : Nat => s.heap.size ≤ q) (WX I h qb qt (s_X2_ring b (nI j_14)) z_15 ++ ([] : va_W)) := hD
    have f_16m : ((s_X2_ring b (nI j_14)).1 0).toInt ≤ 3200 := by rw [f_16e]; exact hm
    generalize s_X2_ring b (nI j_14) = b_17 at hP hD f_16d f_16e f_16f f_16m
    have hP : va_P D vwCl (WX I h qb qt b_17 z_15 ++ ([] : va_W)) H := hP
    have hD : va_D (fun q : Nat => s.heap.size ≤ q) (WX I h qb qt b_17 z_15 ++ ([] : va_W)) := hD
    refine lv_pop hx hb dL_bridge_274 rfl ?_
    refine W.widen (k := 210 + 1) (n := 1600 + 6) (by omega) (by omega) ?_
    exact K_3 b_17 f_16d f_16m z_15 H locs hP hD hS ls (lv_sub hl [1, 0] rfl)

def xPbr (D : va_G) (I : ClassId) (b0 L : Nat) (sc : Nat → Int32) (sz : Nat) : Array Value → State → Prop := va_Pc [.ref b0] (fun U => U.heap.size = sz ∧ va_X b0 L sc U U.heap ∧ va_K D vwCl [(I, .int)] U ∧ xNw U ∧ xX (fun q => sz ≤ q) U U.heap)
set_option maxHeartbeats 2000000 in
set_option maxRecDepth 100000 in
theorem c_L_bridge (l : Launch) (hlt : l.stackTraces = false) (D : va_G) (I : ClassId) (b0 L : Nat) (sc : Nat → Int32) (hL : L ≤ 260) (sz : Nat) : Met l yL_bridge wsL_bridge brR (xPbr D I b0 L sc sz) (xQbr D I (fun q => sz ≤ q)) 300 3000 (fun q => sz ≤ q) := by
  refine met_of_vx (XC := xXF) ?_ (fun E st t hx => hx.elim (fun u hu => hu.1))
  refine vx_ofW (cc := cL_bridge) (maxL := 5) (ret := some (.object "BridgeBells")) (by decide) rfl ?_
  intro p e s m args below meth c s₁ B hml hex hv
  obtain ⟨rfl, hsz, hX, hK1, hN, hXX⟩ := hv
  subst hsz
  have hts := atoms_spec (ws := wsL_bridge) B.pre
  have hown := findClass_of_methodNamed B.named
  have hx := B.exec
  have hb := B.bytes
  have hr := B.returns
  have hlocks := B.notSynchronized
  have hl := lv_entry [.ref b0] (n := 5) (Nat.le_of_ble_eq_true rfl)
  rw [lg_entry_eq]
  generalize (lg_sl ([.ref b0]) ++ List.replicate (5 - (lg_sl ([.ref b0])).length) Slot.unset).toArray = ls at hl ⊢
  have hl : lv_has ls 5 [(0, .ref b0)] := hl
  have hbl : b0 < s.heap.size := by
    obtain ⟨scr, h1, -⟩ := hX
    exact (Array.getElem?_eq_some_iff.mp h1).1
  have C0 : brC p s m c b0 L sc D I := ⟨hx, hb, hml, hown, hts, hX, hbl, hK1, hN, hXX⟩
  have hA : ∀ q : Nat, s.heap.size ≤ q → (fun q : Nat => s.heap.size ≤ q) q := fun _ h => h
  have hS : va_S (fun q : Nat => s.heap.size ≤ q) s.heap s.heap [] := va_S.rf
  have hP : va_P D vwCl [] s.heap := fun k q h => by simp at h
  have hD : va_D (fun q : Nat => s.heap.size ≤ q) [] := ⟨fun i j p q h => by simp at h, fun k q h => by simp at h⟩
  have inl2 : ∀ w ∈ wsX20, w ∈ wsL_bridge := by decide +kernel
  show W p l e brR s m #[Value.ref b0] below meth c s.heap [] 0 0 (vx_MQ below (xQbr D I (fun q : Nat => s.heap.size ≤ q)) xXF #[Value.ref b0] s 300 3000 (fun q : Nat => s.heap.size ≤ q)) (F0 m 0 ls [])
  refine va_new (ci := 2) (fs := [.null, .null]) (C := RX2) (T := TX2) (N := 2) hx hb hts inl2 tyX2 tyX2_ok hown (hts (.classLink RL 9 RX2) (by decide +kernel)) (hts (.instantiable RX2 2) (by decide +kernel)) (hts (.initialized RX2) (by decide +kernel)) hK1 hP hD hS hA rfl (fun j hj => by rcases (show j = 0 ∨ j = 1 by omega) with rfl | rfl <;> rfl) (Nat.le_of_ble_eq_true rfl) (Nat.le_of_ble_eq_true rfl) dL_bridge_0 (fun h H hP hD hS => ?_)
  have hP : va_P D vwCl [(h, .inr (2, [.null, .null]))] H := hP
  have hD : va_D (fun q : Nat => s.heap.size ≤ q) [(h, .inr (2, [.null, .null]))] := hD
  refine lv_dup hx hb dL_bridge_3 rfl ?_
  refine xk_callvE ([]) [0] [] hP hD hS hA (va_runI (As := []) (rest := [.ref h]) ⟨hx, hb, hml, hown, hts⟩ (c_X2_init l D I h H.size) (cwI 0 hts gL_bridge_X2_init rfl rfl rfl (hts (.initialized RX2) (by decide +kernel)) (hts (.methodLink RL 11 yX2_init) (by decide +kernel)) (hts (.instanceMethod yX2_init) (by decide +kernel)) rfl (by decide +kernel) ⟨Nat.le_of_ble_eq_true rfl, Nat.le_of_ble_eq_true rfl⟩) (xk_pre (wc := [(h, .inr (2, [.null, .null]))]) hN hP hK1 hD [0] rfl rfl) rfl rfl hl.1 rfl (lv_room (Nat.le_of_ble_eq_true rfl)) dL_bridge_4 ⟨Nat.le_of_ble_eq_true rfl, Nat.le_of_ble_eq_true rfl⟩) rfl rfl rfl (by decide) (fun v1 H locs hP hD hS => ?_)
  obtain ⟨qb, qt⟩ := v1
  have hP : va_P D vwCl (WX I h qb qt B0 B0 ++ ([] : va_W)) H := by
    rw [List.append_nil]
    exact hP
  have hD : va_D (fun q : Nat => s.heap.size ≤ q) (WX I h qb qt B0 B0 ++ ([] : va_W)) := by
    rw [List.append_nil]
    exact hD
  refine lv_astore_n (lv' := [(1, .ref h), (0, .ref b0)]) hx hb dL_bridge_7 rfl hl (by decide) rfl (fun ls hl => ?_)
  refine lv_iconst (v := (0 : Int32)) hx hb dL_bridge_8 (by decide) ?_
  refine lv_istore_n (lv' := [(2, .int (nI 0)), (1, .ref h), (0, .ref b0)]) hx hb dL_bridge_9 rfl hl (by decide) rfl (fun ls hl => ?_)
  refine W.widen (k := 20 + 0) (n := 560 + 6 * 0) (Nat.le_of_ble_eq_true rfl) (Nat.le_of_ble_eq_true rfl) ?_
  refine br_l1 l hlt hL C0 (fun b z hI hm ha H locs hP hD hS ls hl => ?_) 8 0 B0 B0 rfl iv_B0 (by decide) rfl H locs hP hD hS ls hl
  refine br_2 l hlt hL C0 (fun N b z hN40 hI hm H locs hP hD hS ls hl => ?_) b z hI hm ha H locs hP hD hS ls hl
  refine lv_iconst (v := (0 : Int32)) hx hb dL_bridge_106 (by decide) ?_
  refine lv_istore_n (lv' := [(3, .int (nI 0)), (2, .int (nI N)), (1, .ref h), (0, .ref b0)]) hx hb dL_bridge_107 rfl hl (by decide) rfl (fun ls hl => ?_)
  refine W.widen (k := 40 + 4 * 0) (n := 700 + 20 * 0) (Nat.le_of_ble_eq_true rfl) (Nat.le_of_ble_eq_true rfl) ?_
  refine br_l2 l hlt hL C0 hN40 (fun b z hI hm H locs hP hD hS ls hl => ?_) N 0 b z (by omega) hI (by omega) H locs hP hD hS ls hl
  exact br_4 l hlt hL hr hlocks C0 b z hI hm H locs hP hD hS ls hl
