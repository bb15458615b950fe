set_option maxHeartbeats 1600000 in
set_option maxRecDepth 100000 in
theorem c_L_come (l : Launch) (hlt : l.stackTraces = false) (D : va_G) (I J : ClassId) (h : Nat) (qb qt : Nat → Nat) (ao sz : Nat) (b z : XBr) (g : Nat → Int64) (p0 : Int32) (p1 : Int32) (hn : nOk (b.2.2.1 0)) : xML l D [(I, .int), (J, .long)] yL_come wsL_come { frames := 7, cells := 1, slots := 6, locals := 104 } [.ref h, .int p0, .int p1, .ref ao] sz ([cX h qb qt] ++ wB I qb b ++ wB I qt z ++ [cO J ao g]) (x_X2_come b p0 p1) (r_X2_come b p0 p1) (fun v : XBr × (Nat → Int64) => [cX h qb qt] ++ wB I qb (s_X2_come b p0 p1) ++ wB I qt v.1 ++ [cO J ao v.2]) 1 6 := by
  refine xk_startL (cc := cL_come) (maxL := 5) (ret := (some .int)) (hh := [(0, 10, 13, 13), (0, 10, 17, 15)]) (Qf := fun A => xQL D [(I, .int), (J, .long)] A (x_X2_come b p0 p1) (r_X2_come b p0 p1) (fun v : XBr × (Nat → Int64) => [cX h qb qt] ++ wB I qb (s_X2_come b p0 p1) ++ wB I qt v.1 ++ [cO J ao v.2])) (by decide) rfl (Nat.le_of_ble_eq_true rfl) ?_
  intro p e s m below meth c A H ls hst hAe hsz hl htab hXX
  obtain ⟨hx, hb, hr, hts, hown, hlocks, hml, hin, hN, hK, hP, hD, hA, hS⟩ := hst
  have hl : lv_has ls 5 [(0, .ref h), (1, .int p0), (2, .int p1), (3, .ref ao)] := hl
  have hP : va_P D vwCl ([cX h qb qt] ++ wB I qb b ++ wB I qt z ++ [cO J ao g]) H := hP
  have hK1 : va_K D vwCl [(I, .int)] s := hK.sub [0] rfl
  have k_eIA : (Cond.classLink RL 13 eIA).before _ s = true := hts (.classLink RL 13 eIA) (by decide +kernel)
  have k_eIS : (Cond.classLink RL 15 eIS).before _ s = true := hts (.classLink RL 15 eIS) (by decide +kernel)
  refine lv_aload_n hx hb dL_come_0 rfl (lv_at hl 3 rfl) ?_
  refine lv_iconst (v := (0 : Int32)) hx hb dL_come_1 (by decide) ?_
  refine lv_aload_n hx hb dL_come_2 rfl (lv_at hl 0 rfl) ?_
  refine lv_iload_n hx hb dL_come_3 rfl (lv_at hl 1 rfl) ?_
  refine lv_iload_n hx hb dL_come_4 rfl (lv_at hl 2 rfl) ?_
  refine xk_callX ([cO J ao g]) (fun v : XBr => [cX h qb qt] ++ wB I qb (s_X2_come b p0 p1) ++ wB I qt v ++ [cO J ao g]) [0, 1, 2, 3, 4, 5, 6, 7, 8, 9, 10, 11, 12, 13, 14, 15, 16, 17, 18] [19] [1, 2, 3, 4, 5, 6, 7, 8, 9, 10, 11, 12, 13, 14, 15, 16, 17, 18, 19, 0] hP hD hS hA (vx_runV (As := [.int p0, .int p1]) (rest := [.int (0 : Int32), .ref ao]) ⟨hx, hb, hml, hown, hts⟩ (c_X2_come l hlt D I h qb qt H.size b z p0 p1 hn) (cwV 2 hts gL_come_X2_come rfl rfl rfl (by decide +kernel) ⟨Nat.le_of_ble_eq_true rfl, Nat.le_of_ble_eq_true rfl⟩) (xk_preVX (wc := [cX h qb qt] ++ wB I qb b ++ wB I qt z) (q0 := 0) (ci := 2) hN hXX hS hA hP hK1 hD [0, 1, 2, 3, 4, 5, 6, 7, 8, 9, 10, 11, 12, 13, 14, 15, 16, 17, 18] rfl rfl rfl rfl) rfl rfl hl.1 rfl (lv_room (Nat.le_of_ble_eq_true rfl)) dL_come_5 ⟨Nat.le_of_ble_eq_true rfl, Nat.le_of_ble_eq_true rfl⟩) rfl rfl rfl (by decide) rfl (fun _ => rfl) (fun E ce q9 v H locs hE hP hD hS hce hcv hcl => ?_) (fun v H locs hk0 hP hD hS => ?_)
  · have hP : va_P D vwCl ([cX h qb qt] ++ wB I qb (s_X2_come b p0 p1) ++ wB I qt v ++ [cO J ao g]) H := hP
    have hD : va_D A ([cX h qb qt] ++ wB I qb (s_X2_come b p0 p1) ++ wB I qt v ++ [cO J ao g]) := hD
    simp only [List.mem_cons, List.not_mem_nil, or_false, Prod.mk.injEq] at hE
    rcases hE with ⟨rfl, hk9⟩ | ⟨rfl, hk9⟩
    · refine vx_catch (name := eIA) hown [] ⟨0, 10, 13, 13⟩ [⟨0, 10, 17, 15⟩] (by rw [htab]; rfl) (fun z hz => by simp at hz) (by decide) (by decide) k_eIA (va_Nw.use rfl (hXX.1 (.castable eIA eIA) (by decide))) hce hcv hcl ?_
      refine lv_astore (lv' := (4, .ref q9) :: [(0, .ref h), (1, .int p0), (2, .int p1), (3, .ref ao)]) hx hb dL_come_13 hl (by decide) rfl (fun ls hl => ?_)
      refine lv_iconst (v := (1 : Int32)) hx hb dL_come_15 (by decide) ?_
      exact xk_iretL (wf := fun v : XBr × (Nat → Int64) => [cX h qb qt] ++ wB I qb (s_X2_come b p0 p1) ++ wB I qt v.1 ++ [cO J ao v.2]) (v, g) hx hb hr rfl hlocks hP hK hD hS hk9.symm (fun h => absurd (hk9.symm.trans h) (by decide)) dL_come_16
    · refine vx_catch (name := eIS) hown [⟨0, 10, 13, 13⟩] ⟨0, 10, 17, 15⟩ [] (by rw [htab]; rfl) (fun z hz => by
        rw [List.mem_singleton] at hz
        subst hz
        exact Or.inr ⟨by decide, eIA, k_eIA, hXX.2.1 (eIS, eIA) (by decide)⟩) (by decide) (by decide) k_eIS (va_Nw.use rfl (hXX.1 (.castable eIS eIS) (by decide))) hce hcv hcl ?_
      refine lv_astore (lv' := (4, .ref q9) :: [(0, .ref h), (1, .int p0), (2, .int p1), (3, .ref ao)]) hx hb dL_come_17 hl (by decide) rfl (fun ls hl => ?_)
      refine lv_iconst (v := (2 : Int32)) hx hb dL_come_19 (by decide) ?_
      exact xk_iretL (wf := fun v : XBr × (Nat → Int64) => [cX h qb qt] ++ wB I qb (s_X2_come b p0 p1) ++ wB I qt v.1 ++ [cO J ao v.2]) (v, g) hx hb hr rfl hlocks hP hK hD hS hk9.symm (fun h => absurd (hk9.symm.trans h) (by decide)) dL_come_20
  · have hP : va_P D vwCl ([cX h qb qt] ++ wB I qb (s_X2_come b p0 p1) ++ wB I qt v ++ [cO J ao g]) H := hP
    have hD : va_D A ([cX h qb qt] ++ wB I qb (s_X2_come b p0 p1) ++ wB I qt v ++ [cO J ao g]) := hD
    refine lv_i2l (v := (r_X2_come b p0 p1).toInt64) hx hb dL_come_8 rfl ?_
    refine va_last hx hb hK hP hD hS 19 1 rfl rfl (vinN (n := 1) (by decide) (by decide)) dL_come_9 (fun H locs hP hD hS => ?_)
    have hP : va_P D vwCl ([cX h qb qt] ++ wB I qb (s_X2_come b p0 p1) ++ wB I qt v ++ [cO J ao (vp_updL g (0 : Int32).toNatClampNeg (r_X2_come b p0 p1).toInt64)]) H := hP
    have hD : va_D A ([cX h qb qt] ++ wB I qb (s_X2_come b p0 p1) ++ wB I qt v ++ [cO J ao (vp_updL g (0 : Int32).toNatClampNeg (r_X2_come b p0 p1).toInt64)]) := hD
    refine lv_goto (tgt := 21) hx hb dL_come_10 (by decide) ?_
    refine lv_iconst (v := (0 : Int32)) hx hb dL_come_21 (by decide) ?_
    exact xk_iretL (wf := fun v : XBr × (Nat → Int64) => [cX h qb qt] ++ wB I qb (s_X2_come b p0 p1) ++ wB I qt v.1 ++ [cO J ao v.2]) (v, (vp_updL g (0 : Int32).toNatClampNeg (r_X2_come b p0 p1).toInt64)) hx hb hr rfl hlocks hP hK hD hS hk0.symm (fun _ => rfl) dL_come_22

set_option maxHeartbeats 1600000 in
set_option maxRecDepth 100000 in
theorem c_L_leave (l : Launch) (hlt : l.stackTraces = false) (D : va_G) (I J : ClassId) (h : Nat) (qb qt : Nat → Nat) (ao sz : Nat) (b z : XBr) (g : Nat → Int64) (p0 : Int32) (hn : nOk (b.2.2.1 0)) : xML l D [(I, .int), (J, .long)] yL_leave wsL_leave { frames := 7, cells := 1, slots := 6, locals := 103 } [.ref h, .int p0, .ref ao] sz ([cX h qb qt] ++ wB I qb b ++ wB I qt z ++ [cO J ao g]) (x_X2_leave b p0) (r_X2_leave b p0) (fun v : XBr × (Nat → Int64) => [cX h qb qt] ++ wB I qb (s_X2_leave b p0) ++ wB I qt v.1 ++ [cO J ao v.2]) 1 6 := by
  refine xk_startL (cc := cL_leave) (maxL := 4) (ret := (some .int)) (hh := [(0, 9, 12, 21), (0, 9, 15, 15)]) (Qf := fun A => xQL D [(I, .int), (J, .long)] A (x_X2_leave b p0) (r_X2_leave b p0) (fun v : XBr × (Nat → Int64) => [cX h qb qt] ++ wB I qb (s_X2_leave b p0) ++ wB I qt v.1 ++ [cO J ao v.2])) (by decide) rfl (Nat.le_of_ble_eq_true rfl) ?_
  intro p e s m below meth c A H ls hst hAe hsz hl htab hXX
  obtain ⟨hx, hb, hr, hts, hown, hlocks, hml, hin, hN, hK, hP, hD, hA, hS⟩ := hst
  have hl : lv_has ls 4 [(0, .ref h), (1, .int p0), (2, .ref ao)] := hl
  have hP : va_P D vwCl ([cX h qb qt] ++ wB I qb b ++ wB I qt z ++ [cO J ao g]) H := hP
  have hK1 : va_K D vwCl [(I, .int)] s := hK.sub [0] rfl
  have k_eIS : (Cond.classLink RL 15 eIS).before _ s = true := hts (.classLink RL 15 eIS) (by decide +kernel)
  have k_eIO : (Cond.classLink RL 21 eIO).before _ s = true := hts (.classLink RL 21 eIO) (by decide +kernel)
  refine lv_aload_n hx hb dL_leave_0 rfl (lv_at hl 2 rfl) ?_
  refine lv_iconst (v := (0 : Int32)) hx hb dL_leave_1 (by decide) ?_
  refine lv_aload_n hx hb dL_leave_2 rfl (lv_at hl 0 rfl) ?_
  refine lv_iload_n hx hb dL_leave_3 rfl (lv_at hl 1 rfl) ?_
  refine xk_callX ([cO J ao g]) (fun v : XBr => [cX h qb qt] ++ wB I qb (s_X2_leave b p0) ++ wB I qt v ++ [cO J ao g]) [0, 1, 2, 3, 4, 5, 6, 7, 8, 9, 10, 11, 12, 13, 14, 15, 16, 17, 18] [19] [1, 2, 3, 4, 5, 6, 7, 8, 9, 10, 11, 12, 13, 14, 15, 16, 17, 18, 19, 0] hP hD hS hA (vx_runV (As := [.int p0]) (rest := [.int (0 : Int32), .ref ao]) ⟨hx, hb, hml, hown, hts⟩ (c_X2_leave l hlt D I h qb qt H.size b z p0 hn) (cwV 1 hts gL_leave_X2_leave rfl rfl rfl (by decide +kernel) ⟨Nat.le_of_ble_eq_true rfl, Nat.le_of_ble_eq_true rfl⟩) (xk_preVX (wc := [cX h qb qt] ++ wB I qb b ++ wB I qt z) (q0 := 0) (ci := 2) hN hXX hS hA hP hK1 hD [0, 1, 2, 3, 4, 5, 6, 7, 8, 9, 10, 11, 12, 13, 14, 15, 16, 17, 18] rfl rfl rfl rfl) rfl rfl hl.1 rfl (lv_room (Nat.le_of_ble_eq_true rfl)) dL_leave_4 ⟨Nat.le_of_ble_eq_true rfl, Nat.le_of_ble_eq_true rfl⟩) rfl rfl rfl (by decide) rfl (fun _ => rfl) (fun E ce q9 v H locs hE hP hD hS hce hcv hcl => ?_) (fun v H locs hk0 hP hD hS => ?_)
  · have hP : va_P D vwCl ([cX h qb qt] ++ wB I qb (s_X2_leave b p0) ++ wB I qt v ++ [cO J ao g]) H := hP
    have hD : va_D A ([cX h qb qt] ++ wB I qb (s_X2_leave b p0) ++ wB I qt v ++ [cO J ao g]) := hD
    simp only [List.mem_cons, List.not_mem_nil, or_false, Prod.mk.injEq] at hE
    rcases hE with ⟨rfl, hk9⟩ | ⟨rfl, hk9⟩
    · refine vx_catch (name := eIO) hown [] ⟨0, 9, 12, 21⟩ [⟨0, 9, 15, 15⟩] (by rw [htab]; rfl) (fun z hz => by simp at hz) (by decide) (by decide) k_eIO (va_Nw.use rfl (hXX.1 (.castable eIO eIO) (by decide))) hce hcv hcl ?_
      refine lv_astore_n (lv' := (3, .ref q9) :: [(0, .ref h), (1, .int p0), (2, .ref ao)]) hx hb dL_leave_12 rfl hl (by decide) rfl (fun ls hl => ?_)
      refine lv_iconst (v := (1 : Int32)) hx hb dL_leave_13 (by decide) ?_
      exact xk_iretL (wf := fun v : XBr × (Nat → Int64) => [cX h qb qt] ++ wB I qb (s_X2_leave b p0) ++ wB I qt v.1 ++ [cO J ao v.2]) (v, g) hx hb hr rfl hlocks hP hK hD hS hk9.symm (fun h => absurd (hk9.symm.trans h) (by decide)) dL_leave_14
    · refine vx_catch (name := eIS) hown [⟨0, 9, 12, 21⟩] ⟨0, 9, 15, 15⟩ [] (by rw [htab]; rfl) (fun z hz => by
        rw [List.mem_singleton] at hz
        subst hz
        exact Or.inr ⟨by decide, eIO, k_eIO, hXX.2.1 (eIS, eIO) (by decide)⟩) (by decide) (by decide) k_eIS (va_Nw.use rfl (hXX.1 (.castable eIS eIS) (by decide))) hce hcv hcl ?_
      refine lv_astore_n (lv' := (3, .ref q9) :: [(0, .ref h), (1, .int p0), (2, .ref ao)]) hx hb dL_leave_15 rfl hl (by decide) rfl (fun ls hl => ?_)
      refine lv_iconst (v := (2 : Int32)) hx hb dL_leave_16 (by decide) ?_
      exact xk_iretL (wf := fun v : XBr × (Nat → Int64) => [cX h qb qt] ++ wB I qb (s_X2_leave b p0) ++ wB I qt v.1 ++ [cO J ao v.2]) (v, g) hx hb hr rfl hlocks hP hK hD hS hk9.symm (fun h => absurd (hk9.symm.trans h) (by decide)) dL_leave_17
  · have hP : va_P D vwCl ([cX h qb qt] ++ wB I qb (s_X2_leave b p0) ++ wB I qt v ++ [cO J ao g]) H := hP
    have hD : va_D A ([cX h qb qt] ++ wB I qb (s_X2_leave b p0) ++ wB I qt v ++ [cO J ao g]) := hD
    refine lv_i2l (v := (r_X2_leave b p0).toInt64) hx hb dL_leave_7 rfl ?_
    refine va_last hx hb hK hP hD hS 19 1 rfl rfl (vinN (n := 1) (by decide) (by decide)) dL_leave_8 (fun H locs hP hD hS => ?_)
    have hP : va_P D vwCl ([cX h qb qt] ++ wB I qb (s_X2_leave b p0) ++ wB I qt v ++ [cO J ao (vp_updL g (0 : Int32).toNatClampNeg (r_X2_leave b p0).toInt64)]) H := hP
    have hD : va_D A ([cX h qb qt] ++ wB I qb (s_X2_leave b p0) ++ wB I qt v ++ [cO J ao (vp_updL g (0 : Int32).toNatClampNeg (r_X2_leave b p0).toInt64)]) := hD
    refine lv_goto (tgt := 18) hx hb dL_leave_9 (by decide) ?_
    refine lv_iconst (v := (0 : Int32)) hx hb dL_leave_18 (by decide) ?_
    exact xk_iretL (wf := fun v : XBr × (Nat → Int64) => [cX h qb qt] ++ wB I qb (s_X2_leave b p0) ++ wB I qt v.1 ++ [cO J ao v.2]) (v, (vp_updL g (0 : Int32).toNatClampNeg (r_X2_leave b p0).toInt64)) hx hb hr rfl hlocks hP hK hD hS hk0.symm (fun _ => rfl) dL_leave_19

set_option maxHeartbeats 1600000 in
set_option maxRecDepth 100000 in
theorem c_L_ring (l : Launch) (hlt : l.stackTraces = false) (D : va_G) (I J : ClassId) (h : Nat) (qb qt : Nat → Nat) (ao sz : Nat) (b z : XBr) (g : Nat → Int64) (p0 : Int32)  : xML l D [(I, .int), (J, .long)] yL_ring wsL_ring { frames := 7, cells := 1, slots := 6, locals := 104 } [.ref h, .int p0, .ref ao] sz ([cX h qb qt] ++ wB I qb b ++ wB I qt z ++ [cO J ao g]) (x_X2_ring b p0) (r_X2_ring b p0) (fun v : XBr × (Nat → Int64) => [cX h qb qt] ++ wB I qb (s_X2_ring b p0) ++ wB I qt v.1 ++ [cO J ao v.2]) 1 6 := by
  refine xk_startL (cc := cL_ring) (maxL := 4) (ret := (some .int)) (hh := [(0, 9, 12, 13)]) (Qf := fun A => xQL D [(I, .int), (J, .long)] A (x_X2_ring b p0) (r_X2_ring b p0) (fun v : XBr × (Nat → Int64) => [cX h qb qt] ++ wB I qb (s_X2_ring b p0) ++ wB I qt v.1 ++ [cO J ao v.2])) (by decide) rfl (Nat.le_of_ble_eq_true rfl) ?_
  intro p e s m below meth c A H ls hst hAe hsz hl htab hXX
  obtain ⟨hx, hb, hr, hts, hown, hlocks, hml, hin, hN, hK, hP, hD, hA, hS⟩ := hst
  have hl : lv_has ls 4 [(0, .ref h), (1, .int p0), (2, .ref ao)] := hl
  have hP : va_P D vwCl ([cX h qb qt] ++ wB I qb b ++ wB I qt z ++ [cO J ao g]) H := hP
  have hK1 : va_K D vwCl [(I, .int)] s := hK.sub [0] rfl
  have k_eIA : (Cond.classLink RL 13 eIA).before _ s = true := hts (.classLink RL 13 eIA) (by decide +kernel)
  refine lv_aload_n hx hb dL_ring_0 rfl (lv_at hl 2 rfl) ?_
  refine lv_iconst (v := (0 : Int32)) hx hb dL_ring_1 (by decide) ?_
  refine lv_aload_n hx hb dL_ring_2 rfl (lv_at hl 0 rfl) ?_
  refine lv_iload_n hx hb dL_ring_3 rfl (lv_at hl 1 rfl) ?_
  refine xk_callX ([cO J ao g]) (fun v : XBr => [cX h qb qt] ++ wB I qb (s_X2_ring b p0) ++ wB I qt v ++ [cO J ao g]) [0, 1, 2, 3, 4, 5, 6, 7, 8, 9, 10, 11, 12, 13, 14, 15, 16, 17, 18] [19] [1, 2, 3, 4, 5, 6, 7, 8, 9, 10, 11, 12, 13, 14, 15, 16, 17, 18, 19, 0] hP hD hS hA (vx_runV (As := [.int p0]) (rest := [.int (0 : Int32), .ref ao]) ⟨hx, hb, hml, hown, hts⟩ (c_X2_ring l hlt D I h qb qt H.size b z p0 ) (cwV 1 hts gL_ring_X2_ring rfl rfl rfl (by decide +kernel) ⟨Nat.le_of_ble_eq_true rfl, Nat.le_of_ble_eq_true rfl⟩) (xk_preVX (wc := [cX h qb qt] ++ wB I qb b ++ wB I qt z) (q0 := 0) (ci := 2) hN hXX hS hA hP hK1 hD [0, 1, 2, 3, 4, 5, 6, 7, 8, 9, 10, 11, 12, 13, 14, 15, 16, 17, 18] rfl rfl rfl rfl) rfl rfl hl.1 rfl (lv_room (Nat.le_of_ble_eq_true rfl)) dL_ring_4 ⟨Nat.le_of_ble_eq_true rfl, Nat.le_of_ble_eq_true rfl⟩) rfl rfl rfl (by decide) rfl (fun _ => rfl) (fun E ce q9 v H locs hE hP hD hS hce hcv hcl => ?_) (fun v H locs hk0 hP hD hS => ?_)
  · have hP : va_P D vwCl ([cX h qb qt] ++ wB I qb (s_X2_ring b p0) ++ wB I qt v ++ [cO J ao g]) H := hP
    have hD : va_D A ([cX h qb qt] ++ wB I qb (s_X2_ring b p0) ++ wB I qt v ++ [cO J ao g]) := hD
    simp only [List.mem_cons, List.not_mem_nil, or_false, Prod.mk.injEq] at hE
    rcases hE with ⟨rfl, hk9⟩
    · refine vx_catch (name := eIA) hown [] ⟨0, 9, 12, 13⟩ [] (by rw [htab]; rfl) (fun z hz => by simp at hz) (by decide) (by decide) k_eIA (va_Nw.use rfl (hXX.1 (.castable eIA eIA) (by decide))) hce hcv hcl ?_
      refine lv_astore_n (lv' := (3, .ref q9) :: [(0, .ref h), (1, .int p0), (2, .ref ao)]) hx hb dL_ring_12 rfl hl (by decide) rfl (fun ls hl => ?_)
      refine lv_iconst (v := (1 : Int32)) hx hb dL_ring_13 (by decide) ?_
      exact xk_iretL (wf := fun v : XBr × (Nat → Int64) => [cX h qb qt] ++ wB I qb (s_X2_ring b p0) ++ wB I qt v.1 ++ [cO J ao v.2]) (v, g) hx hb hr rfl hlocks hP hK hD hS hk9.symm (fun h => absurd (hk9.symm.trans h) (by decide)) dL_ring_14
  · have hP : va_P D vwCl ([cX h qb qt] ++ wB I qb (s_X2_ring b p0) ++ wB I qt v ++ [cO J ao g]) H := hP
    have hD : va_D A ([cX h qb qt] ++ wB I qb (s_X2_ring b p0) ++ wB I qt v ++ [cO J ao g]) := hD
    refine lv_i2l (v := (r_X2_ring b p0).toInt64) hx hb dL_ring_7 rfl ?_
    refine va_last hx hb hK hP hD hS 19 1 rfl rfl (vinN (n := 1) (by decide) (by decide)) dL_ring_8 (fun H locs hP hD hS => ?_)
    have hP : va_P D vwCl ([cX h qb qt] ++ wB I qb (s_X2_ring b p0) ++ wB I qt v ++ [cO J ao (vp_updL g (0 : Int32).toNatClampNeg (r_X2_ring b p0).toInt64)]) H := hP
    have hD : va_D A ([cX h qb qt] ++ wB I qb (s_X2_ring b p0) ++ wB I qt v ++ [cO J ao (vp_updL g (0 : Int32).toNatClampNeg (r_X2_ring b p0).toInt64)]) := hD
    refine lv_goto (tgt := 15) hx hb dL_ring_9 (by decide) ?_
    refine lv_iconst (v := (0 : Int32)) hx hb dL_ring_15 (by decide) ?_
    exact xk_iretL (wf := fun v : XBr × (Nat → Int64) => [cX h qb qt] ++ wB I qb (s_X2_ring b p0) ++ wB I qt v.1 ++ [cO J ao v.2]) (v, (vp_updL g (0 : Int32).toNatClampNeg (r_X2_ring b p0).toInt64)) hx hb hr rfl hlocks hP hK hD hS hk0.symm (fun _ => rfl) dL_ring_16

set_option maxHeartbeats 1600000 in
set_option maxRecDepth 100000 in
theorem c_L_poise (l : Launch) (hlt : l.stackTraces = false) (D : va_G) (I J : ClassId) (h : Nat) (qb qt : Nat → Nat) (ao sz : Nat) (b z : XBr) (g : Nat → Int64) (p0 : Int32)  : xML l D [(I, .int), (J, .long)] yL_poise wsL_poise { frames := 7, cells := 1, slots := 6, locals := 104 } [.ref h, .int p0, .ref ao] sz ([cX h qb qt] ++ wB I qb b ++ wB I qt z ++ [cO J ao g]) (x_X2_poise b p0) (r_X2_poise b p0) (fun v : XBr × (Nat → Int64) => [cX h qb qt] ++ wB I qb (s_X2_poise b p0) ++ wB I qt v.1 ++ [cO J ao v.2]) 1 6 := by
  refine xk_startL (cc := cL_poise) (maxL := 4) (ret := (some .int)) (hh := [(0, 9, 12, 13), (0, 9, 15, 15)]) (Qf := fun A => xQL D [(I, .int), (J, .long)] A (x_X2_poise b p0) (r_X2_poise b p0) (fun v : XBr × (Nat → Int64) => [cX h qb qt] ++ wB I qb (s_X2_poise b p0) ++ wB I qt v.1 ++ [cO J ao v.2])) (by decide) rfl (Nat.le_of_ble_eq_true rfl) ?_
  intro p e s m below meth c A H ls hst hAe hsz hl htab hXX
  obtain ⟨hx, hb, hr, hts, hown, hlocks, hml, hin, hN, hK, hP, hD, hA, hS⟩ := hst
  have hl : lv_has ls 4 [(0, .ref h), (1, .int p0), (2, .ref ao)] := hl
  have hP : va_P D vwCl ([cX h qb qt] ++ wB I qb b ++ wB I qt z ++ [cO J ao g]) H := hP
  have hK1 : va_K D vwCl [(I, .int)] s := hK.sub [0] rfl
  have k_eIA : (Cond.classLink RL 13 eIA).before _ s = true := hts (.classLink RL 13 eIA) (by decide +kernel)
  have k_eIS : (Cond.classLink RL 15 eIS).before _ s = true := hts (.classLink RL 15 eIS) (by decide +kernel)
  refine lv_aload_n hx hb dL_poise_0 rfl (lv_at hl 2 rfl) ?_
  refine lv_iconst (v := (0 : Int32)) hx hb dL_poise_1 (by decide) ?_
  refine lv_aload_n hx hb dL_poise_2 rfl (lv_at hl 0 rfl) ?_
  refine lv_iload_n hx hb dL_poise_3 rfl (lv_at hl 1 rfl) ?_
  refine xk_callX ([cO J ao g]) (fun v : XBr => [cX h qb qt] ++ wB I qb (s_X2_poise b p0) ++ wB I qt v ++ [cO J ao g]) [0, 1, 2, 3, 4, 5, 6, 7, 8, 9, 10, 11, 12, 13, 14, 15, 16, 17, 18] [19] [1, 2, 3, 4, 5, 6, 7, 8, 9, 10, 11, 12, 13, 14, 15, 16, 17, 18, 19, 0] hP hD hS hA (vx_runV (As := [.int p0]) (rest := [.int (0 : Int32), .ref ao]) ⟨hx, hb, hml, hown, hts⟩ (c_X2_poise l hlt D I h qb qt H.size b z p0 ) (cwV 1 hts gL_poise_X2_poise rfl rfl rfl (by decide +kernel) ⟨Nat.le_of_ble_eq_true rfl, Nat.le_of_ble_eq_true rfl⟩) (xk_preVX (wc := [cX h qb qt] ++ wB I qb b ++ wB I qt z) (q0 := 0) (ci := 2) hN hXX hS hA hP hK1 hD [0, 1, 2, 3, 4, 5, 6, 7, 8, 9, 10, 11, 12, 13, 14, 15, 16, 17, 18] rfl rfl rfl rfl) rfl rfl hl.1 rfl (lv_room (Nat.le_of_ble_eq_true rfl)) dL_poise_4 ⟨Nat.le_of_ble_eq_true rfl, Nat.le_of_ble_eq_true rfl⟩) rfl rfl rfl (by decide) rfl (fun _ => rfl) (fun E ce q9 v H locs hE hP hD hS hce hcv hcl => ?_) (fun v H locs hk0 hP hD hS => ?_)
  · have hP : va_P D vwCl ([cX h qb qt] ++ wB I qb (s_X2_poise b p0) ++ wB I qt v ++ [cO J ao g]) H := hP
    have hD : va_D A ([cX h qb qt] ++ wB I qb (s_X2_poise b p0) ++ wB I qt v ++ [cO J ao g]) := hD
    simp only [List.mem_cons, List.not_mem_nil, or_false, Prod.mk.injEq] at hE
    rcases hE with ⟨rfl, hk9⟩ | ⟨rfl, hk9⟩
    · refine vx_catch (name := eIA) hown [] ⟨0, 9, 12, 13⟩ [⟨0, 9, 15, 15⟩] (by rw [htab]; rfl) (fun z hz => by simp at hz) (by decide) (by decide) k_eIA (va_Nw.use rfl (hXX.1 (.castable eIA eIA) (by decide))) hce hcv hcl ?_
      refine lv_astore_n (lv' := (3, .ref q9) :: [(0, .ref h), (1, .int p0), (2, .ref ao)]) hx hb dL_poise_12 rfl hl (by decide) rfl (fun ls hl => ?_)
      refine lv_iconst (v := (1 : Int32)) hx hb dL_poise_13 (by decide) ?_
      exact xk_iretL (wf := fun v : XBr × (Nat → Int64) => [cX h qb qt] ++ wB I qb (s_X2_poise b p0) ++ wB I qt v.1 ++ [cO J ao v.2]) (v, g) hx hb hr rfl hlocks hP hK hD hS hk9.symm (fun h => absurd (hk9.symm.trans h) (by decide)) dL_poise_14
    · refine vx_catch (name := eIS) hown [⟨0, 9, 12, 13⟩] ⟨0, 9, 15, 15⟩ [] (by rw [htab]; rfl) (fun z hz => by
        rw [List.mem_singleton] at hz
        subst hz
        exact Or.inr ⟨by decide, eIA, k_eIA, hXX.2.1 (eIS, eIA) (by decide)⟩) (by decide) (by decide) k_eIS (va_Nw.use rfl (hXX.1 (.castable eIS eIS) (by decide))) hce hcv hcl ?_
      refine lv_astore_n (lv' := (3, .ref q9) :: [(0, .ref h), (1, .int p0), (2, .ref ao)]) hx hb dL_poise_15 rfl hl (by decide) rfl (fun ls hl => ?_)
      refine lv_iconst (v := (2 : Int32)) hx hb dL_poise_16 (by decide) ?_
      exact xk_iretL (wf := fun v : XBr × (Nat → Int64) => [cX h qb qt] ++ wB I qb (s_X2_poise b p0) ++ wB I qt v.1 ++ [cO J ao v.2]) (v, g) hx hb hr rfl hlocks hP hK hD hS hk9.symm (fun h => absurd (hk9.symm.trans h) (by decide)) dL_poise_17
  · have hP : va_P D vwCl ([cX h qb qt] ++ wB I qb (s_X2_poise b p0) ++ wB I qt v ++ [cO J ao g]) H := hP
    have hD : va_D A ([cX h qb qt] ++ wB I qb (s_X2_poise b p0) ++ wB I qt v ++ [cO J ao g]) := hD
    refine lv_i2l (v := (r_X2_poise b p0).toInt64) hx hb dL_poise_7 rfl ?_
    refine va_last hx hb hK hP hD hS 19 1 rfl rfl (vinN (n := 1) (by decide) (by decide)) dL_poise_8 (fun H locs hP hD hS => ?_)
    have hP : va_P D vwCl ([cX h qb qt] ++ wB I qb (s_X2_poise b p0) ++ wB I qt v ++ [cO J ao (vp_updL g (0 : Int32).toNatClampNeg (r_X2_poise b p0).toInt64)]) H := hP
    have hD : va_D A ([cX h qb qt] ++ wB I qb (s_X2_poise b p0) ++ wB I qt v ++ [cO J ao (vp_updL g (0 : Int32).toNatClampNeg (r_X2_poise b p0).toInt64)]) := hD
    refine lv_goto (tgt := 18) hx hb dL_poise_9 (by decide) ?_
    refine lv_iconst (v := (0 : Int32)) hx hb dL_poise_18 (by decide) ?_
    exact xk_iretL (wf := fun v : XBr × (Nat → Int64) => [cX h qb qt] ++ wB I qb (s_X2_poise b p0) ++ wB I qt v.1 ++ [cO J ao v.2]) (v, (vp_updL g (0 : Int32).toNatClampNeg (r_X2_poise b p0).toInt64)) hx hb hr rfl hlocks hP hK hD hS hk0.symm (fun _ => rfl) dL_poise_19

set_option maxHeartbeats 1600000 in
set_option maxRecDepth 100000 in
theorem c_L_setCold (l : Launch) (hlt : l.stackTraces = false) (D : va_G) (I J : ClassId) (h : Nat) (qb qt : Nat → Nat) (ao sz : Nat) (b z : XBr) (g : Nat → Int64) (p0 : Int32) (p1 : Int32)  : xML l D [(I, .int), (J, .long)] yL_setCold wsL_setCold { frames := 7, cells := 1, slots := 6, locals := 105 } [.ref h, .int p0, .int p1, .ref ao] sz ([cX h qb qt] ++ wB I qb b ++ wB I qt z ++ [cO J ao g]) (x_X2_setCold b p0 p1) (r_X2_setCold b p0 p1) (fun v : XBr × (Nat → Int64) => [cX h qb qt] ++ wB I qb (s_X2_setCold b p0 p1) ++ wB I qt v.1 ++ [cO J ao v.2]) 1 6 := by
  refine xk_startL (cc := cL_setCold) (maxL := 5) (ret := (some .int)) (hh := [(0, 10, 13, 21), (0, 10, 17, 13)]) (Qf := fun A => xQL D [(I, .int), (J, .long)] A (x_X2_setCold b p0 p1) (r_X2_setCold b p0 p1) (fun v : XBr × (Nat → Int64) => [cX h qb qt] ++ wB I qb (s_X2_setCold b p0 p1) ++ wB I qt v.1 ++ [cO J ao v.2])) (by decide) rfl (Nat.le_of_ble_eq_true rfl) ?_
  intro p e s m below meth c A H ls hst hAe hsz hl htab hXX
  obtain ⟨hx, hb, hr, hts, hown, hlocks, hml, hin, hN, hK, hP, hD, hA, hS⟩ := hst
  have hl : lv_has ls 5 [(0, .ref h), (1, .int p0), (2, .int p1), (3, .ref ao)] := hl
  have hP : va_P D vwCl ([cX h qb qt] ++ wB I qb b ++ wB I qt z ++ [cO J ao g]) H := hP
  have hK1 : va_K D vwCl [(I, .int)] s := hK.sub [0] rfl
  have k_eIA : (Cond.classLink RL 13 eIA).before _ s = true := hts (.classLink RL 13 eIA) (by decide +kernel)
  have k_eIO : (Cond.classLink RL 21 eIO).before _ s = true := hts (.classLink RL 21 eIO) (by decide +kernel)
  refine lv_aload_n hx hb dL_setCold_0 rfl (lv_at hl 3 rfl) ?_
  refine lv_iconst (v := (0 : Int32)) hx hb dL_setCold_1 (by decide) ?_
  refine lv_aload_n hx hb dL_setCold_2 rfl (lv_at hl 0 rfl) ?_
  refine lv_iload_n hx hb dL_setCold_3 rfl (lv_at hl 1 rfl) ?_
  refine lv_iload_n hx hb dL_setCold_4 rfl (lv_at hl 2 rfl) ?_
  refine xk_callX ([cO J ao g]) (fun v : XBr => [cX h qb qt] ++ wB I qb (s_X2_setCold b p0 p1) ++ wB I qt v ++ [cO J ao g]) [0, 1, 2, 3, 4, 5, 6, 7, 8, 9, 10, 11, 12, 13, 14, 15, 16, 17, 18] [19] [1, 2, 3, 4, 5, 6, 7, 8, 9, 10, 11, 12, 13, 14, 15, 16, 17, 18, 19, 0] hP hD hS hA (vx_runV (As := [.int p0, .int p1]) (rest := [.int (0 : Int32), .ref ao]) ⟨hx, hb, hml, hown, hts⟩ (c_X2_setCold l hlt D I h qb qt H.size b z p0 p1 ) (cwV 2 hts gL_setCold_X2_setCold rfl rfl rfl (by decide +kernel) ⟨Nat.le_of_ble_eq_true rfl, Nat.le_of_ble_eq_true rfl⟩) (xk_preVX (wc := [cX h qb qt] ++ wB I qb b ++ wB I qt z) (q0 := 0) (ci := 2) hN hXX hS hA hP hK1 hD [0, 1, 2, 3, 4, 5, 6, 7, 8, 9, 10, 11, 12, 13, 14, 15, 16, 17, 18] rfl rfl rfl rfl) rfl rfl hl.1 rfl (lv_room (Nat.le_of_ble_eq_true rfl)) dL_setCold_5 ⟨Nat.le_of_ble_eq_true rfl, Nat.le_of_ble_eq_true rfl⟩) rfl rfl rfl (by decide) rfl (fun _ => rfl) (fun E ce q9 v H locs hE hP hD hS hce hcv hcl => ?_) (fun v H locs hk0 hP hD hS => ?_)
  · have hP : va_P D vwCl ([cX h qb qt] ++ wB I qb (s_X2_setCold b p0 p1) ++ wB I qt v ++ [cO J ao g]) H := hP
    have hD : va_D A ([cX h qb qt] ++ wB I qb (s_X2_setCold b p0 p1) ++ wB I qt v ++ [cO J ao g]) := hD
    simp only [List.mem_cons, List.not_mem_nil, or_false, Prod.mk.injEq] at hE
    rcases hE with ⟨rfl, hk9⟩ | ⟨rfl, hk9⟩
    · refine vx_catch (name := eIO) hown [] ⟨0, 10, 13, 21⟩ [⟨0, 10, 17, 13⟩] (by rw [htab]; rfl) (fun z hz => by simp at hz) (by decide) (by decide) k_eIO (va_Nw.use rfl (hXX.1 (.castable eIO eIO) (by decide))) hce hcv hcl ?_
      refine lv_astore (lv' := (4, .ref q9) :: [(0, .ref h), (1, .int p0), (2, .int p1), (3, .ref ao)]) hx hb dL_setCold_13 hl (by decide) rfl (fun ls hl => ?_)
      refine lv_iconst (v := (1 : Int32)) hx hb dL_setCold_15 (by decide) ?_
      exact xk_iretL (wf := fun v : XBr × (Nat → Int64) => [cX h qb qt] ++ wB I qb (s_X2_setCold b p0 p1) ++ wB I qt v.1 ++ [cO J ao v.2]) (v, g) hx hb hr rfl hlocks hP hK hD hS hk9.symm (fun h => absurd (hk9.symm.trans h) (by decide)) dL_setCold_16
    · refine vx_catch (name := eIA) hown [⟨0, 10, 13, 21⟩] ⟨0, 10, 17, 13⟩ [] (by rw [htab]; rfl) (fun z hz => by
        rw [List.mem_singleton] at hz
        subst hz
        exact Or.inr ⟨by decide, eIO, k_eIO, hXX.2.1 (eIA, eIO) (by decide)⟩) (by decide) (by decide) k_eIA (va_Nw.use rfl (hXX.1 (.castable eIA eIA) (by decide))) hce hcv hcl ?_
      refine lv_astore (lv' := (4, .ref q9) :: [(0, .ref h), (1, .int p0), (2, .int p1), (3, .ref ao)]) hx hb dL_setCold_17 hl (by decide) rfl (fun ls hl => ?_)
      refine lv_iconst (v := (2 : Int32)) hx hb dL_setCold_19 (by decide) ?_
      exact xk_iretL (wf := fun v : XBr × (Nat → Int64) => [cX h qb qt] ++ wB I qb (s_X2_setCold b p0 p1) ++ wB I qt v.1 ++ [cO J ao v.2]) (v, g) hx hb hr rfl hlocks hP hK hD hS hk9.symm (fun h => absurd (hk9.symm.trans h) (by decide)) dL_setCold_20
  · have hP : va_P D vwCl ([cX h qb qt] ++ wB I qb (s_X2_setCold b p0 p1) ++ wB I qt v ++ [cO J ao g]) H := hP
    have hD : va_D A ([cX h qb qt] ++ wB I qb (s_X2_setCold b p0 p1) ++ wB I qt v ++ [cO J ao g]) := hD
    refine lv_i2l (v := (r_X2_setCold b p0 p1).toInt64) hx hb dL_setCold_8 rfl ?_
    refine va_last hx hb hK hP hD hS 19 1 rfl rfl (vinN (n := 1) (by decide) (by decide)) dL_setCold_9 (fun H locs hP hD hS => ?_)
    have hP : va_P D vwCl ([cX h qb qt] ++ wB I qb (s_X2_setCold b p0 p1) ++ wB I qt v ++ [cO J ao (vp_updL g (0 : Int32).toNatClampNeg (r_X2_setCold b p0 p1).toInt64)]) H := hP
    have hD : va_D A ([cX h qb qt] ++ wB I qb (s_X2_setCold b p0 p1) ++ wB I qt v ++ [cO J ao (vp_updL g (0 : Int32).toNatClampNeg (r_X2_setCold b p0 p1).toInt64)]) := hD
    refine lv_goto (tgt := 21) hx hb dL_setCold_10 (by decide) ?_
    refine lv_iconst (v := (0 : Int32)) hx hb dL_setCold_21 (by decide) ?_
    exact xk_iretL (wf := fun v : XBr × (Nat → Int64) => [cX h qb qt] ++ wB I qb (s_X2_setCold b p0 p1) ++ wB I qt v.1 ++ [cO J ao v.2]) (v, (vp_updL g (0 : Int32).toNatClampNeg (r_X2_setCold b p0 p1).toInt64)) hx hb hr rfl hlocks hP hK hD hS hk0.symm (fun _ => rfl) dL_setCold_22

set_option maxHeartbeats 1600000 in
set_option maxRecDepth 100000 in
theorem c_L_traveller (l : Launch) (hlt : l.stackTraces = false) (D : va_G) (I J : ClassId) (h : Nat) (qb qt : Nat → Nat) (ao sz : Nat) (b z : XBr) (g : Nat → Int64) (p0 : Int32) (p1 : Int32) (hn : nOk (b.2.2.1 0)) : xML l D [(I, .int), (J, .long)] yL_traveller wsL_traveller { frames := 7, cells := 1, slots := 6, locals := 104 } [.ref h, .int p0, .int p1, .ref ao] sz ([cX h qb qt] ++ wB I qb b ++ wB I qt z ++ [cO J ao g]) (x_X2_traveller b p0 p1) (r_X2_traveller b p0 p1) (fun v : XBr × (Nat → Int64) => [cX h qb qt] ++ wB I qb b ++ wB I qt v.1 ++ [cO J ao v.2]) 1 6 := by
  refine xk_startL (cc := cL_traveller) (maxL := 5) (ret := (some .int)) (hh := [(0, 10, 13, 21)]) (Qf := fun A => xQL D [(I, .int), (J, .long)] A (x_X2_traveller b p0 p1) (r_X2_traveller b p0 p1) (fun v : XBr × (Nat → Int64) => [cX h qb qt] ++ wB I qb b ++ wB I qt v.1 ++ [cO J ao v.2])) (by decide) rfl (Nat.le_of_ble_eq_true rfl) ?_
  intro p e s m below meth c A H ls hst hAe hsz hl htab hXX
  obtain ⟨hx, hb, hr, hts, hown, hlocks, hml, hin, hN, hK, hP, hD, hA, hS⟩ := hst
  have hl : lv_has ls 5 [(0, .ref h), (1, .int p0), (2, .int p1), (3, .ref ao)] := hl
  have hP : va_P D vwCl ([cX h qb qt] ++ wB I qb b ++ wB I qt z ++ [cO J ao g]) H := hP
  have hK1 : va_K D vwCl [(I, .int)] s := hK.sub [0] rfl
  have k_eIO : (Cond.classLink RL 21 eIO).before _ s = true := hts (.classLink RL 21 eIO) (by decide +kernel)
  refine lv_aload_n hx hb dL_traveller_0 rfl (lv_at hl 3 rfl) ?_
  refine lv_iconst (v := (0 : Int32)) hx hb dL_traveller_1 (by decide) ?_
  refine lv_aload_n hx hb dL_traveller_2 rfl (lv_at hl 0 rfl) ?_
  refine lv_iload_n hx hb dL_traveller_3 rfl (lv_at hl 1 rfl) ?_
  refine lv_iload_n hx hb dL_traveller_4 rfl (lv_at hl 2 rfl) ?_
  refine xk_callX ([cO J ao g]) (fun v : XBr => [cX h qb qt] ++ wB I qb b ++ wB I qt v ++ [cO J ao g]) [0, 1, 2, 3, 4, 5, 6, 7, 8, 9, 10, 11, 12, 13, 14, 15, 16, 17, 18] [19] [1, 2, 3, 4, 5, 6, 7, 8, 9, 10, 11, 12, 13, 14, 15, 16, 17, 18, 19, 0] hP hD hS hA (vx_runV (As := [.int p0, .int p1]) (rest := [.int (0 : Int32), .ref ao]) ⟨hx, hb, hml, hown, hts⟩ (c_X2_traveller l hlt D I h qb qt H.size b z p0 p1 hn) (cwV 2 hts gL_traveller_X2_traveller rfl rfl rfl (by decide +kernel) ⟨Nat.le_of_ble_eq_true rfl, Nat.le_of_ble_eq_true rfl⟩) (xk_preVX (wc := [cX h qb qt] ++ wB I qb b ++ wB I qt z) (q0 := 0) (ci := 2) hN hXX hS hA hP hK1 hD [0, 1, 2, 3, 4, 5, 6, 7, 8, 9, 10, 11, 12, 13, 14, 15, 16, 17, 18] rfl rfl rfl rfl) rfl rfl hl.1 rfl (lv_room (Nat.le_of_ble_eq_true rfl)) dL_traveller_5 ⟨Nat.le_of_ble_eq_true rfl, Nat.le_of_ble_eq_true rfl⟩) rfl rfl rfl (by decide) rfl (fun _ => rfl) (fun E ce q9 v H locs hE hP hD hS hce hcv hcl => ?_) (fun v H locs hk0 hP hD hS => ?_)
  · have hP : va_P D vwCl ([cX h qb qt] ++ wB I qb b ++ wB I qt v ++ [cO J ao g]) H := hP
    have hD : va_D A ([cX h qb qt] ++ wB I qb b ++ wB I qt v ++ [cO J ao g]) := hD
    simp only [List.mem_cons, List.not_mem_nil, or_false, Prod.mk.injEq] at hE
    rcases hE with ⟨rfl, hk9⟩
    · refine vx_catch (name := eIO) hown [] ⟨0, 10, 13, 21⟩ [] (by rw [htab]; rfl) (fun z hz => by simp at hz) (by decide) (by decide) k_eIO (va_Nw.use rfl (hXX.1 (.castable eIO eIO) (by decide))) hce hcv hcl ?_
      refine lv_astore (lv' := (4, .ref q9) :: [(0, .ref h), (1, .int p0), (2, .int p1), (3, .ref ao)]) hx hb dL_traveller_13 hl (by decide) rfl (fun ls hl => ?_)
      refine lv_iconst (v := (1 : Int32)) hx hb dL_traveller_15 (by decide) ?_
      exact xk_iretL (wf := fun v : XBr × (Nat → Int64) => [cX h qb qt] ++ wB I qb b ++ wB I qt v.1 ++ [cO J ao v.2]) (v, g) hx hb hr rfl hlocks hP hK hD hS hk9.symm (fun h => absurd (hk9.symm.trans h) (by decide)) dL_traveller_16
  · have hP : va_P D vwCl ([cX h qb qt] ++ wB I qb b ++ wB I qt v ++ [cO J ao g]) H := hP
    have hD : va_D A ([cX h qb qt] ++ wB I qb b ++ wB I qt v ++ [cO J ao g]) := hD
    refine lv_i2l (v := (r_X2_traveller b p0 p1).toInt64) hx hb dL_traveller_8 rfl ?_
    refine va_last hx hb hK hP hD hS 19 1 rfl rfl (vinN (n := 1) (by decide) (by decide)) dL_traveller_9 (fun H locs hP hD hS => ?_)
    have hP : va_P D vwCl ([cX h qb qt] ++ wB I qb b ++ wB I qt v ++ [cO J ao (vp_updL g (0 : Int32).toNatClampNeg (r_X2_traveller b p0 p1).toInt64)]) H := hP
    have hD : va_D A ([cX h qb qt] ++ wB I qb b ++ wB I qt v ++ [cO J ao (vp_updL g (0 : Int32).toNatClampNeg (r_X2_traveller b p0 p1).toInt64)]) := hD
    refine lv_goto (tgt := 17) hx hb dL_traveller_10 (by decide) ?_
    refine lv_iconst (v := (0 : Int32)) hx hb dL_traveller_17 (by decide) ?_
    exact xk_iretL (wf := fun v : XBr × (Nat → Int64) => [cX h qb qt] ++ wB I qb b ++ wB I qt v.1 ++ [cO J ao v.2]) (v, (vp_updL g (0 : Int32).toNatClampNeg (r_X2_traveller b p0 p1).toInt64)) hx hb hr rfl hlocks hP hK hD hS hk0.symm (fun _ => rfl) dL_traveller_18

set_option maxHeartbeats 1600000 in
set_option maxRecDepth 100000 in
theorem c_L_count (l : Launch) (hlt : l.stackTraces = false) (D : va_G) (I J : ClassId) (h : Nat) (qb qt : Nat → Nat) (ao sz : Nat) (b z : XBr) (g : Nat → Int64) (p0 : Int32)  : xML l D [(I, .int), (J, .long)] yL_count wsL_count { frames := 7, cells := 1, slots := 6, locals := 103 } [.ref h, .int p0, .ref ao] sz ([cX h qb qt] ++ wB I qb b ++ wB I qt z ++ [cO J ao g]) (x_X2_count b p0) (r_X2_count b p0) (fun v : XBr × (Nat → Int64) => [cX h qb qt] ++ wB I qb b ++ wB I qt v.1 ++ [cO J ao v.2]) 1 6 := by
  refine xk_startL (cc := cL_count) (maxL := 4) (ret := (some .int)) (hh := [(0, 9, 12, 21)]) (Qf := fun A => xQL D [(I, .int), (J, .long)] A (x_X2_count b p0) (r_X2_count b p0) (fun v : XBr × (Nat → Int64) => [cX h qb qt] ++ wB I qb b ++ wB I qt v.1 ++ [cO J ao v.2])) (by decide) rfl (Nat.le_of_ble_eq_true rfl) ?_
  intro p e s m below meth c A H ls hst hAe hsz hl htab hXX
  obtain ⟨hx, hb, hr, hts, hown, hlocks, hml, hin, hN, hK, hP, hD, hA, hS⟩ := hst
  have hl : lv_has ls 4 [(0, .ref h), (1, .int p0), (2, .ref ao)] := hl
  have hP : va_P D vwCl ([cX h qb qt] ++ wB I qb b ++ wB I qt z ++ [cO J ao g]) H := hP
  have hK1 : va_K D vwCl [(I, .int)] s := hK.sub [0] rfl
  have k_eIO : (Cond.classLink RL 21 eIO).before _ s = true := hts (.classLink RL 21 eIO) (by decide +kernel)
  refine lv_aload_n hx hb dL_count_0 rfl (lv_at hl 2 rfl) ?_
  refine lv_iconst (v := (0 : Int32)) hx hb dL_count_1 (by decide) ?_
  refine lv_aload_n hx hb dL_count_2 rfl (lv_at hl 0 rfl) ?_
  refine lv_iload_n hx hb dL_count_3 rfl (lv_at hl 1 rfl) ?_
  refine xk_callX ([cO J ao g]) (fun v : XBr => [cX h qb qt] ++ wB I qb b ++ wB I qt v ++ [cO J ao g]) [0, 1, 2, 3, 4, 5, 6, 7, 8, 9, 10, 11, 12, 13, 14, 15, 16, 17, 18] [19] [1, 2, 3, 4, 5, 6, 7, 8, 9, 10, 11, 12, 13, 14, 15, 16, 17, 18, 19, 0] hP hD hS hA (vx_runV (As := [.int p0]) (rest := [.int (0 : Int32), .ref ao]) ⟨hx, hb, hml, hown, hts⟩ (c_X2_count l hlt D I h qb qt H.size b z p0 ) (cwV 1 hts gL_count_X2_count rfl rfl rfl (by decide +kernel) ⟨Nat.le_of_ble_eq_true rfl, Nat.le_of_ble_eq_true rfl⟩) (xk_preVX (wc := [cX h qb qt] ++ wB I qb b ++ wB I qt z) (q0 := 0) (ci := 2) hN hXX hS hA hP hK1 hD [0, 1, 2, 3, 4, 5, 6, 7, 8, 9, 10, 11, 12, 13, 14, 15, 16, 17, 18] rfl rfl rfl rfl) rfl rfl hl.1 rfl (lv_room (Nat.le_of_ble_eq_true rfl)) dL_count_4 ⟨Nat.le_of_ble_eq_true rfl, Nat.le_of_ble_eq_true rfl⟩) rfl rfl rfl (by decide) rfl (fun _ => rfl) (fun E ce q9 v H locs hE hP hD hS hce hcv hcl => ?_) (fun v H locs hk0 hP hD hS => ?_)
  · have hP : va_P D vwCl ([cX h qb qt] ++ wB I qb b ++ wB I qt v ++ [cO J ao g]) H := hP
    have hD : va_D A ([cX h qb qt] ++ wB I qb b ++ wB I qt v ++ [cO J ao g]) := hD
    simp only [List.mem_cons, List.not_mem_nil, or_false, Prod.mk.injEq] at hE
    rcases hE with ⟨rfl, hk9⟩
    · refine vx_catch (name := eIO) hown [] ⟨0, 9, 12, 21⟩ [] (by rw [htab]; rfl) (fun z hz => by simp at hz) (by decide) (by decide) k_eIO (va_Nw.use rfl (hXX.1 (.castable eIO eIO) (by decide))) hce hcv hcl ?_
      refine lv_astore_n (lv' := (3, .ref q9) :: [(0, .ref h), (1, .int p0), (2, .ref ao)]) hx hb dL_count_12 rfl hl (by decide) rfl (fun ls hl => ?_)
      refine lv_iconst (v := (1 : Int32)) hx hb dL_count_13 (by decide) ?_
      exact xk_iretL (wf := fun v : XBr × (Nat → Int64) => [cX h qb qt] ++ wB I qb b ++ wB I qt v.1 ++ [cO J ao v.2]) (v, g) hx hb hr rfl hlocks hP hK hD hS hk9.symm (fun h => absurd (hk9.symm.trans h) (by decide)) dL_count_14
  · have hP : va_P D vwCl ([cX h qb qt] ++ wB I qb b ++ wB I qt v ++ [cO J ao g]) H := hP
    have hD : va_D A ([cX h qb qt] ++ wB I qb b ++ wB I qt v ++ [cO J ao g]) := hD
    refine lv_i2l (v := (r_X2_count b p0).toInt64) hx hb dL_count_7 rfl ?_
    refine va_last hx hb hK hP hD hS 19 1 rfl rfl (vinN (n := 1) (by decide) (by decide)) dL_count_8 (fun H locs hP hD hS => ?_)
    have hP : va_P D vwCl ([cX h qb qt] ++ wB I qb b ++ wB I qt v ++ [cO J ao (vp_updL g (0 : Int32).toNatClampNeg (r_X2_count b p0).toInt64)]) H := hP
    have hD : va_D A ([cX h qb qt] ++ wB I qb b ++ wB I qt v ++ [cO J ao (vp_updL g (0 : Int32).toNatClampNeg (r_X2_count b p0).toInt64)]) := hD
    refine lv_goto (tgt := 15) hx hb dL_count_9 (by decide) ?_
    refine lv_iconst (v := (0 : Int32)) hx hb dL_count_15 (by decide) ?_
    exact xk_iretL (wf := fun v : XBr × (Nat → Int64) => [cX h qb qt] ++ wB I qb b ++ wB I qt v.1 ++ [cO J ao v.2]) (v, (vp_updL g (0 : Int32).toNatClampNeg (r_X2_count b p0).toInt64)) hx hb hr rfl hlocks hP hK hD hS hk0.symm (fun _ => rfl) dL_count_16

set_option maxHeartbeats 1600000 in
set_option maxRecDepth 100000 in
theorem c_L_pass (l : Launch) (hlt : l.stackTraces = false) (D : va_G) (I J : ClassId) (h : Nat) (qb qt : Nat → Nat) (ao sz : Nat) (b z : XBr) (g : Nat → Int64) (p0 : Int32) (hn : nOk (b.2.2.1 0)) (hm1 : 0 ≤ (b.1 0).toInt) (hm2 : (b.1 0).toInt < 1000000000) : xML l D [(I, .int), (J, .long)] yL_pass wsL_pass { frames := 7, cells := 1, slots := 6, locals := 130 } [.ref h, .int p0, .ref ao] sz ([cX h qb qt] ++ wB I qb b ++ wB I qt z ++ [cO J ao g]) (x_X2_pass b p0) (r_X2_pass b p0) (fun v : XBr × (Nat → Int64) => [cX h qb qt] ++ wB I qb (s_X2_pass b p0) ++ wB I qt v.1 ++ [cO J ao v.2]) 1 6 := by
  refine xk_startL (cc := cL_pass) (maxL := 4) (ret := (some .int)) (hh := [(0, 9, 12, 13)]) (Qf := fun A => xQL D [(I, .int), (J, .long)] A (x_X2_pass b p0) (r_X2_pass b p0) (fun v : XBr × (Nat → Int64) => [cX h qb qt] ++ wB I qb (s_X2_pass b p0) ++ wB I qt v.1 ++ [cO J ao v.2])) (by decide) rfl (Nat.le_of_ble_eq_true rfl) ?_
  intro p e s m below meth c A H ls hst hAe hsz hl htab hXX
  obtain ⟨hx, hb, hr, hts, hown, hlocks, hml, hin, hN, hK, hP, hD, hA, hS⟩ := hst
  have hl : lv_has ls 4 [(0, .ref h), (1, .int p0), (2, .ref ao)] := hl
  have hP : va_P D vwCl ([cX h qb qt] ++ wB I qb b ++ wB I qt z ++ [cO J ao g]) H := hP
  have hK1 : va_K D vwCl [(I, .int)] s := hK.sub [0] rfl
  have k_eIA : (Cond.classLink RL 13 eIA).before _ s = true := hts (.classLink RL 13 eIA) (by decide +kernel)
  refine lv_aload_n hx hb dL_pass_0 rfl (lv_at hl 2 rfl) ?_
  refine lv_iconst (v := (0 : Int32)) hx hb dL_pass_1 (by decide) ?_
  refine lv_aload_n hx hb dL_pass_2 rfl (lv_at hl 0 rfl) ?_
  refine lv_iload_n hx hb dL_pass_3 rfl (lv_at hl 1 rfl) ?_
  refine xk_callX ([cO J ao g]) (fun v : XBr => [cX h qb qt] ++ wB I qb (s_X2_pass b p0) ++ wB I qt v ++ [cO J ao g]) [0, 1, 2, 3, 4, 5, 6, 7, 8, 9, 10, 11, 12, 13, 14, 15, 16, 17, 18] [19] [1, 2, 3, 4, 5, 6, 7, 8, 9, 10, 11, 12, 13, 14, 15, 16, 17, 18, 19, 0] hP hD hS hA (vx_runV (As := [.int p0]) (rest := [.int (0 : Int32), .ref ao]) ⟨hx, hb, hml, hown, hts⟩ (c_X2_pass l hlt D I h qb qt H.size b z p0 hn hm1 hm2) (cwV 1 hts gL_pass_X2_pass rfl rfl rfl (by decide +kernel) ⟨Nat.le_of_ble_eq_true rfl, Nat.le_of_ble_eq_true rfl⟩) (xk_preVX (wc := [cX h qb qt] ++ wB I qb b ++ wB I qt z) (q0 := 0) (ci := 2) hN hXX hS hA hP hK1 hD [0, 1, 2, 3, 4, 5, 6, 7, 8, 9, 10, 11, 12, 13, 14, 15, 16, 17, 18] rfl rfl rfl rfl) rfl rfl hl.1 rfl (lv_room (Nat.le_of_ble_eq_true rfl)) dL_pass_4 ⟨Nat.le_of_ble_eq_true rfl, Nat.le_of_ble_eq_true rfl⟩) rfl rfl rfl (by decide) rfl (fun _ => rfl) (fun E ce q9 v H locs hE hP hD hS hce hcv hcl => ?_) (fun v H locs hk0 hP hD hS => ?_)
  · have hP : va_P D vwCl ([cX h qb qt] ++ wB I qb (s_X2_pass b p0) ++ wB I qt v ++ [cO J ao g]) H := hP
    have hD : va_D A ([cX h qb qt] ++ wB I qb (s_X2_pass b p0) ++ wB I qt v ++ [cO J ao g]) := hD
    simp only [List.mem_cons, List.not_mem_nil, or_false, Prod.mk.injEq] at hE
    rcases hE with ⟨rfl, hk9⟩
    · refine vx_catch (name := eIA) hown [] ⟨0, 9, 12, 13⟩ [] (by rw [htab]; rfl) (fun z hz => by simp at hz) (by decide) (by decide) k_eIA (va_Nw.use rfl (hXX.1 (.castable eIA eIA) (by decide))) hce hcv hcl ?_
      refine lv_astore_n (lv' := (3, .ref q9) :: [(0, .ref h), (1, .int p0), (2, .ref ao)]) hx hb dL_pass_12 rfl hl (by decide) rfl (fun ls hl => ?_)
      refine lv_iconst (v := (1 : Int32)) hx hb dL_pass_13 (by decide) ?_
      exact xk_iretL (wf := fun v : XBr × (Nat → Int64) => [cX h qb qt] ++ wB I qb (s_X2_pass b p0) ++ wB I qt v.1 ++ [cO J ao v.2]) (v, g) hx hb hr rfl hlocks hP hK hD hS hk9.symm (fun h => absurd (hk9.symm.trans h) (by decide)) dL_pass_14
  · have hP : va_P D vwCl ([cX h qb qt] ++ wB I qb (s_X2_pass b p0) ++ wB I qt v ++ [cO J ao g]) H := hP
    have hD : va_D A ([cX h qb qt] ++ wB I qb (s_X2_pass b p0) ++ wB I qt v ++ [cO J ao g]) := hD
    refine lv_i2l (v := (r_X2_pass b p0).toInt64) hx hb dL_pass_7 rfl ?_
    refine va_last hx hb hK hP hD hS 19 1 rfl rfl (vinN (n := 1) (by decide) (by decide)) dL_pass_8 (fun H locs hP hD hS => ?_)
    have hP : va_P D vwCl ([cX h qb qt] ++ wB I qb (s_X2_pass b p0) ++ wB I qt v ++ [cO J ao (vp_updL g (0 : Int32).toNatClampNeg (r_X2_pass b p0).toInt64)]) H := hP
    have hD : va_D A ([cX h qb qt] ++ wB I qb (s_X2_pass b p0) ++ wB I qt v ++ [cO J ao (vp_updL g (0 : Int32).toNatClampNeg (r_X2_pass b p0).toInt64)]) := hD
    refine lv_goto (tgt := 15) hx hb dL_pass_9 (by decide) ?_
    refine lv_iconst (v := (0 : Int32)) hx hb dL_pass_15 (by decide) ?_
    exact xk_iretL (wf := fun v : XBr × (Nat → Int64) => [cX h qb qt] ++ wB I qb (s_X2_pass b p0) ++ wB I qt v.1 ++ [cO J ao v.2]) (v, (vp_updL g (0 : Int32).toNatClampNeg (r_X2_pass b p0).toInt64)) hx hb hr rfl hlocks hP hK hD hS hk0.symm (fun _ => rfl) dL_pass_16

set_option maxHeartbeats 1600000 in
set_option maxRecDepth 100000 in
theorem c_L_when (l : Launch) (hlt : l.stackTraces = false) (D : va_G) (I J : ClassId) (h : Nat) (qb qt : Nat → Nat) (ao sz : Nat) (b z : XBr) (g : Nat → Int64) (p0 : Int32) (hn : nOk (b.2.2.1 0)) (hm1 : 0 ≤ (b.1 0).toInt) (hm2 : (b.1 0).toInt < 1000000000) (hz : b.1 8 = 0 ∨ b.1 8 = 1) : xML l D [(I, .int), (J, .long)] yL_when wsL_when { frames := 7, cells := 1, slots := 6, locals := 108 } [.ref h, .int p0, .ref ao] sz ([cX h qb qt] ++ wB I qb b ++ wB I qt z ++ [cO J ao g]) (x_X2_when b p0) (r_X2_when b p0) (fun v : XBr × (Nat → Int64) => [cX h qb qt] ++ wB I qb b ++ wB I qt v.1 ++ [cO J ao v.2]) 1 6 := by
  refine xk_startL (cc := cL_when) (maxL := 4) (ret := (some .int)) (hh := [(0, 9, 12, 21)]) (Qf := fun A => xQL D [(I, .int), (J, .long)] A (x_X2_when b p0) (r_X2_when b p0) (fun v : XBr × (Nat → Int64) => [cX h qb qt] ++ wB I qb b ++ wB I qt v.1 ++ [cO J ao v.2])) (by decide) rfl (Nat.le_of_ble_eq_true rfl) ?_
  intro p e s m below meth c A H ls hst hAe hsz hl htab hXX
  obtain ⟨hx, hb, hr, hts, hown, hlocks, hml, hin, hN, hK, hP, hD, hA, hS⟩ := hst
  have hl : lv_has ls 4 [(0, .ref h), (1, .int p0), (2, .ref ao)] := hl
  have hP : va_P D vwCl ([cX h qb qt] ++ wB I qb b ++ wB I qt z ++ [cO J ao g]) H := hP
  have hK1 : va_K D vwCl [(I, .int)] s := hK.sub [0] rfl
  have k_eIO : (Cond.classLink RL 21 eIO).before _ s = true := hts (.classLink RL 21 eIO) (by decide +kernel)
  refine lv_aload_n hx hb dL_when_0 rfl (lv_at hl 2 rfl) ?_
  refine lv_iconst (v := (0 : Int32)) hx hb dL_when_1 (by decide) ?_
  refine lv_aload_n hx hb dL_when_2 rfl (lv_at hl 0 rfl) ?_
  refine lv_iload_n hx hb dL_when_3 rfl (lv_at hl 1 rfl) ?_
  refine xk_callX ([cO J ao g]) (fun v : XBr => [cX h qb qt] ++ wB I qb b ++ wB I qt v ++ [cO J ao g]) [0, 1, 2, 3, 4, 5, 6, 7, 8, 9, 10, 11, 12, 13, 14, 15, 16, 17, 18] [19] [1, 2, 3, 4, 5, 6, 7, 8, 9, 10, 11, 12, 13, 14, 15, 16, 17, 18, 19, 0] hP hD hS hA (vx_runV (As := [.int p0]) (rest := [.int (0 : Int32), .ref ao]) ⟨hx, hb, hml, hown, hts⟩ (c_X2_when l hlt D I h qb qt H.size b z p0 hn hm1 hm2 hz) (cwV 1 hts gL_when_X2_when rfl rfl rfl (by decide +kernel) ⟨Nat.le_of_ble_eq_true rfl, Nat.le_of_ble_eq_true rfl⟩) (xk_preVX (wc := [cX h qb qt] ++ wB I qb b ++ wB I qt z) (q0 := 0) (ci := 2) hN hXX hS hA hP hK1 hD [0, 1, 2, 3, 4, 5, 6, 7, 8, 9, 10, 11, 12, 13, 14, 15, 16, 17, 18] rfl rfl rfl rfl) rfl rfl hl.1 rfl (lv_room (Nat.le_of_ble_eq_true rfl)) dL_when_4 ⟨Nat.le_of_ble_eq_true rfl, Nat.le_of_ble_eq_true rfl⟩) rfl rfl rfl (by decide) rfl (fun _ => rfl) (fun E ce q9 v H locs hE hP hD hS hce hcv hcl => ?_) (fun v H locs hk0 hP hD hS => ?_)
  · have hP : va_P D vwCl ([cX h qb qt] ++ wB I qb b ++ wB I qt v ++ [cO J ao g]) H := hP
    have hD : va_D A ([cX h qb qt] ++ wB I qb b ++ wB I qt v ++ [cO J ao g]) := hD
    simp only [List.mem_cons, List.not_mem_nil, or_false, Prod.mk.injEq] at hE
    rcases hE with ⟨rfl, hk9⟩
    · refine vx_catch (name := eIO) hown [] ⟨0, 9, 12, 21⟩ [] (by rw [htab]; rfl) (fun z hz => by simp at hz) (by decide) (by decide) k_eIO (va_Nw.use rfl (hXX.1 (.castable eIO eIO) (by decide))) hce hcv hcl ?_
      refine lv_astore_n (lv' := (3, .ref q9) :: [(0, .ref h), (1, .int p0), (2, .ref ao)]) hx hb dL_when_12 rfl hl (by decide) rfl (fun ls hl => ?_)
      refine lv_iconst (v := (1 : Int32)) hx hb dL_when_13 (by decide) ?_
      exact xk_iretL (wf := fun v : XBr × (Nat → Int64) => [cX h qb qt] ++ wB I qb b ++ wB I qt v.1 ++ [cO J ao v.2]) (v, g) hx hb hr rfl hlocks hP hK hD hS hk9.symm (fun h => absurd (hk9.symm.trans h) (by decide)) dL_when_14
  · have hP : va_P D vwCl ([cX h qb qt] ++ wB I qb b ++ wB I qt v ++ [cO J ao g]) H := hP
    have hD : va_D A ([cX h qb qt] ++ wB I qb b ++ wB I qt v ++ [cO J ao g]) := hD
    refine lv_i2l (v := (r_X2_when b p0).toInt64) hx hb dL_when_7 rfl ?_
    refine va_last hx hb hK hP hD hS 19 1 rfl rfl (vinN (n := 1) (by decide) (by decide)) dL_when_8 (fun H locs hP hD hS => ?_)
    have hP : va_P D vwCl ([cX h qb qt] ++ wB I qb b ++ wB I qt v ++ [cO J ao (vp_updL g (0 : Int32).toNatClampNeg (r_X2_when b p0).toInt64)]) H := hP
    have hD : va_D A ([cX h qb qt] ++ wB I qb b ++ wB I qt v ++ [cO J ao (vp_updL g (0 : Int32).toNatClampNeg (r_X2_when b p0).toInt64)]) := hD
    refine lv_goto (tgt := 15) hx hb dL_when_9 (by decide) ?_
    refine lv_iconst (v := (0 : Int32)) hx hb dL_when_15 (by decide) ?_
    exact xk_iretL (wf := fun v : XBr × (Nat → Int64) => [cX h qb qt] ++ wB I qb b ++ wB I qt v.1 ++ [cO J ao v.2]) (v, (vp_updL g (0 : Int32).toNatClampNeg (r_X2_when b p0).toInt64)) hx hb hr rfl hlocks hP hK hD hS hk0.symm (fun _ => rfl) dL_when_16

set_option maxHeartbeats 1600000 in
set_option maxRecDepth 100000 in
theorem c_L_foresee (l : Launch) (hlt : l.stackTraces = false) (D : va_G) (I J : ClassId) (h : Nat) (qb qt : Nat → Nat) (ao sz : Nat) (b z : XBr) (g : Nat → Int64) (p0 : Int32) (p1 : Int32) (hn : nOk (b.2.2.1 0)) (hm1 : 0 ≤ (b.1 0).toInt) (hm2 : (b.1 0).toInt < 1000000000) (hz : b.1 8 = 0 ∨ b.1 8 = 1) : xML l D [(I, .int), (J, .long)] yL_foresee wsL_foresee { frames := 7, cells := 1, slots := 6, locals := 130 } [.ref h, .int p0, .int p1, .ref ao] sz ([cX h qb qt] ++ wB I qb b ++ wB I qt z ++ [cO J ao g]) (x_X2_foresee b p0 p1) (r_X2_foresee b p0 p1) (fun v : XBr × (Nat → Int64) => [cX h qb qt] ++ wB I qb b ++ wB I qt v.1 ++ [cO J ao v.2]) 1 6 := by
  refine xk_startL (cc := cL_foresee) (maxL := 5) (ret := (some .int)) (hh := [(0, 10, 13, 13), (0, 10, 17, 21)]) (Qf := fun A => xQL D [(I, .int), (J, .long)] A (x_X2_foresee b p0 p1) (r_X2_foresee b p0 p1) (fun v : XBr × (Nat → Int64) => [cX h qb qt] ++ wB I qb b ++ wB I qt v.1 ++ [cO J ao v.2])) (by decide) rfl (Nat.le_of_ble_eq_true rfl) ?_
  intro p e s m below meth c A H ls hst hAe hsz hl htab hXX
  obtain ⟨hx, hb, hr, hts, hown, hlocks, hml, hin, hN, hK, hP, hD, hA, hS⟩ := hst
  have hl : lv_has ls 5 [(0, .ref h), (1, .int p0), (2, .int p1), (3, .ref ao)] := hl
  have hP : va_P D vwCl ([cX h qb qt] ++ wB I qb b ++ wB I qt z ++ [cO J ao g]) H := hP
  have hK1 : va_K D vwCl [(I, .int)] s := hK.sub [0] rfl
  have k_eIA : (Cond.classLink RL 13 eIA).before _ s = true := hts (.classLink RL 13 eIA) (by decide +kernel)
  have k_eIO : (Cond.classLink RL 21 eIO).before _ s = true := hts (.classLink RL 21 eIO) (by decide +kernel)
  refine lv_aload_n hx hb dL_foresee_0 rfl (lv_at hl 3 rfl) ?_
  refine lv_iconst (v := (0 : Int32)) hx hb dL_foresee_1 (by decide) ?_
  refine lv_aload_n hx hb dL_foresee_2 rfl (lv_at hl 0 rfl) ?_
  refine lv_iload_n hx hb dL_foresee_3 rfl (lv_at hl 1 rfl) ?_
  refine lv_iload_n hx hb dL_foresee_4 rfl (lv_at hl 2 rfl) ?_
  refine xk_callX ([cO J ao g]) (fun v : XBr => [cX h qb qt] ++ wB I qb b ++ wB I qt v ++ [cO J ao g]) [0, 1, 2, 3, 4, 5, 6, 7, 8, 9, 10, 11, 12, 13, 14, 15, 16, 17, 18] [19] [1, 2, 3, 4, 5, 6, 7, 8, 9, 10, 11, 12, 13, 14, 15, 16, 17, 18, 19, 0] hP hD hS hA (vx_runV (As := [.int p0, .int p1]) (rest := [.int (0 : Int32), .ref ao]) ⟨hx, hb, hml, hown, hts⟩ (c_X2_foresee l hlt D I h qb qt H.size b z p0 p1 hn hm1 hm2 hz) (cwV 2 hts gL_foresee_X2_foresee rfl rfl rfl (by decide +kernel) ⟨Nat.le_of_ble_eq_true rfl, Nat.le_of_ble_eq_true rfl⟩) (xk_preVX (wc := [cX h qb qt] ++ wB I qb b ++ wB I qt z) (q0 := 0) (ci := 2) hN hXX hS hA hP hK1 hD [0, 1, 2, 3, 4, 5, 6, 7, 8, 9, 10, 11, 12, 13, 14, 15, 16, 17, 18] rfl rfl rfl rfl) rfl rfl hl.1 rfl (lv_room (Nat.le_of_ble_eq_true rfl)) dL_foresee_5 ⟨Nat.le_of_ble_eq_true rfl, Nat.le_of_ble_eq_true rfl⟩) rfl rfl rfl (by decide) rfl (fun _ => rfl) (fun E ce q9 v H locs hE hP hD hS hce hcv hcl => ?_) (fun v H locs hk0 hP hD hS => ?_)
  · have hP : va_P D vwCl ([cX h qb qt] ++ wB I qb b ++ wB I qt v ++ [cO J ao g]) H := hP
    have hD : va_D A ([cX h qb qt] ++ wB I qb b ++ wB I qt v ++ [cO J ao g]) := hD
    simp only [List.mem_cons, List.not_mem_nil, or_false, Prod.mk.injEq] at hE
    rcases hE with ⟨rfl, hk9⟩ | ⟨rfl, hk9⟩
    · refine vx_catch (name := eIA) hown [] ⟨0, 10, 13, 13⟩ [⟨0, 10, 17, 21⟩] (by rw [htab]; rfl) (fun z hz => by simp at hz) (by decide) (by decide) k_eIA (va_Nw.use rfl (hXX.1 (.castable eIA eIA) (by decide))) hce hcv hcl ?_
      refine lv_astore (lv' := (4, .ref q9) :: [(0, .ref h), (1, .int p0), (2, .int p1), (3, .ref ao)]) hx hb dL_foresee_13 hl (by decide) rfl (fun ls hl => ?_)
      refine lv_iconst (v := (1 : Int32)) hx hb dL_foresee_15 (by decide) ?_
      exact xk_iretL (wf := fun v : XBr × (Nat → Int64) => [cX h qb qt] ++ wB I qb b ++ wB I qt v.1 ++ [cO J ao v.2]) (v, g) hx hb hr rfl hlocks hP hK hD hS hk9.symm (fun h => absurd (hk9.symm.trans h) (by decide)) dL_foresee_16
    · refine vx_catch (name := eIO) hown [⟨0, 10, 13, 13⟩] ⟨0, 10, 17, 21⟩ [] (by rw [htab]; rfl) (fun z hz => by
        rw [List.mem_singleton] at hz
        subst hz
        exact Or.inr ⟨by decide, eIA, k_eIA, hXX.2.1 (eIO, eIA) (by decide)⟩) (by decide) (by decide) k_eIO (va_Nw.use rfl (hXX.1 (.castable eIO eIO) (by decide))) hce hcv hcl ?_
      refine lv_astore (lv' := (4, .ref q9) :: [(0, .ref h), (1, .int p0), (2, .int p1), (3, .ref ao)]) hx hb dL_foresee_17 hl (by decide) rfl (fun ls hl => ?_)
      refine lv_iconst (v := (2 : Int32)) hx hb dL_foresee_19 (by decide) ?_
      exact xk_iretL (wf := fun v : XBr × (Nat → Int64) => [cX h qb qt] ++ wB I qb b ++ wB I qt v.1 ++ [cO J ao v.2]) (v, g) hx hb hr rfl hlocks hP hK hD hS hk9.symm (fun h => absurd (hk9.symm.trans h) (by decide)) dL_foresee_20
  · have hP : va_P D vwCl ([cX h qb qt] ++ wB I qb b ++ wB I qt v ++ [cO J ao g]) H := hP
    have hD : va_D A ([cX h qb qt] ++ wB I qb b ++ wB I qt v ++ [cO J ao g]) := hD
    refine lv_i2l (v := (r_X2_foresee b p0 p1).toInt64) hx hb dL_foresee_8 rfl ?_
    refine va_last hx hb hK hP hD hS 19 1 rfl rfl (vinN (n := 1) (by decide) (by decide)) dL_foresee_9 (fun H locs hP hD hS => ?_)
    have hP : va_P D vwCl ([cX h qb qt] ++ wB I qb b ++ wB I qt v ++ [cO J ao (vp_updL g (0 : Int32).toNatClampNeg (r_X2_foresee b p0 p1).toInt64)]) H := hP
    have hD : va_D A ([cX h qb qt] ++ wB I qb b ++ wB I qt v ++ [cO J ao (vp_updL g (0 : Int32).toNatClampNeg (r_X2_foresee b p0 p1).toInt64)]) := hD
    refine lv_goto (tgt := 21) hx hb dL_foresee_10 (by decide) ?_
    refine lv_iconst (v := (0 : Int32)) hx hb dL_foresee_21 (by decide) ?_
    exact xk_iretL (wf := fun v : XBr × (Nat → Int64) => [cX h qb qt] ++ wB I qb b ++ wB I qt v.1 ++ [cO J ao v.2]) (v, (vp_updL g (0 : Int32).toNatClampNeg (r_X2_foresee b p0 p1).toInt64)) hx hb hr rfl hlocks hP hK hD hS hk0.symm (fun _ => rfl) dL_foresee_22

set_option maxHeartbeats 1600000 in
set_option maxRecDepth 100000 in
theorem c_L_bestCode (l : Launch) (hlt : l.stackTraces = false) (D : va_G) (I J : ClassId) (h : Nat) (qb qt : Nat → Nat) (ao sz : Nat) (b z : XBr) (g : Nat → Int64) (p0 : Int32) (hn : nOk (b.2.2.1 0)) (hm1 : 0 ≤ (b.1 0).toInt) (hm2 : (b.1 0).toInt < 1000000000) (hz : b.1 8 = 0 ∨ b.1 8 = 1) : xML l D [(I, .int), (J, .long)] yL_bestCode wsL_bestCode { frames := 7, cells := 1, slots := 6, locals := 156 } [.ref h, .int p0, .ref ao] sz ([cX h qb qt] ++ wB I qb b ++ wB I qt z ++ [cO J ao g]) (x_X2_bestCode b p0) (r_X2_bestCode b p0) (fun v : XBr × (Nat → Int64) => [cX h qb qt] ++ wB I qb b ++ wB I qt v.1 ++ [cO J ao v.2]) 1 6 := by
  refine xk_startL (cc := cL_bestCode) (maxL := 4) (ret := (some .int)) (hh := [(0, 9, 12, 13)]) (Qf := fun A => xQL D [(I, .int), (J, .long)] A (x_X2_bestCode b p0) (r_X2_bestCode b p0) (fun v : XBr × (Nat → Int64) => [cX h qb qt] ++ wB I qb b ++ wB I qt v.1 ++ [cO J ao v.2])) (by decide) rfl (Nat.le_of_ble_eq_true rfl) ?_
  intro p e s m below meth c A H ls hst hAe hsz hl htab hXX
  obtain ⟨hx, hb, hr, hts, hown, hlocks, hml, hin, hN, hK, hP, hD, hA, hS⟩ := hst
  have hl : lv_has ls 4 [(0, .ref h), (1, .int p0), (2, .ref ao)] := hl
  have hP : va_P D vwCl ([cX h qb qt] ++ wB I qb b ++ wB I qt z ++ [cO J ao g]) H := hP
  have hK1 : va_K D vwCl [(I, .int)] s := hK.sub [0] rfl
  have k_eIA : (Cond.classLink RL 13 eIA).before _ s = true := hts (.classLink RL 13 eIA) (by decide +kernel)
  refine lv_aload_n hx hb dL_bestCode_0 rfl (lv_at hl 2 rfl) ?_
  refine lv_iconst (v := (0 : Int32)) hx hb dL_bestCode_1 (by decide) ?_
  refine lv_aload_n hx hb dL_bestCode_2 rfl (lv_at hl 0 rfl) ?_
  refine lv_iload_n hx hb dL_bestCode_3 rfl (lv_at hl 1 rfl) ?_
  refine xk_callX ([cO J ao g]) (fun v : XBr => [cX h qb qt] ++ wB I qb b ++ wB I qt v ++ [cO J ao g]) [0, 1, 2, 3, 4, 5, 6, 7, 8, 9, 10, 11, 12, 13, 14, 15, 16, 17, 18] [19] [1, 2, 3, 4, 5, 6, 7, 8, 9, 10, 11, 12, 13, 14, 15, 16, 17, 18, 19, 0] hP hD hS hA (vx_runV (As := [.int p0]) (rest := [.int (0 : Int32), .ref ao]) ⟨hx, hb, hml, hown, hts⟩ (c_X2_bestCode l hlt D I h qb qt H.size b z p0 hn hm1 hm2 hz) (cwV 1 hts gL_bestCode_X2_bestCode rfl rfl rfl (by decide +kernel) ⟨Nat.le_of_ble_eq_true rfl, Nat.le_of_ble_eq_true rfl⟩) (xk_preVX (wc := [cX h qb qt] ++ wB I qb b ++ wB I qt z) (q0 := 0) (ci := 2) hN hXX hS hA hP hK1 hD [0, 1, 2, 3, 4, 5, 6, 7, 8, 9, 10, 11, 12, 13, 14, 15, 16, 17, 18] rfl rfl rfl rfl) rfl rfl hl.1 rfl (lv_room (Nat.le_of_ble_eq_true rfl)) dL_bestCode_4 ⟨Nat.le_of_ble_eq_true rfl, Nat.le_of_ble_eq_true rfl⟩) rfl rfl rfl (by decide) rfl (fun _ => rfl) (fun E ce q9 v H locs hE hP hD hS hce hcv hcl => ?_) (fun v H locs hk0 hP hD hS => ?_)
  · have hP : va_P D vwCl ([cX h qb qt] ++ wB I qb b ++ wB I qt v ++ [cO J ao g]) H := hP
    have hD : va_D A ([cX h qb qt] ++ wB I qb b ++ wB I qt v ++ [cO J ao g]) := hD
    simp only [List.mem_cons, List.not_mem_nil, or_false, Prod.mk.injEq] at hE
    rcases hE with ⟨rfl, hk9⟩
    · refine vx_catch (name := eIA) hown [] ⟨0, 9, 12, 13⟩ [] (by rw [htab]; rfl) (fun z hz => by simp at hz) (by decide) (by decide) k_eIA (va_Nw.use rfl (hXX.1 (.castable eIA eIA) (by decide))) hce hcv hcl ?_
      refine lv_astore_n (lv' := (3, .ref q9) :: [(0, .ref h), (1, .int p0), (2, .ref ao)]) hx hb dL_bestCode_12 rfl hl (by decide) rfl (fun ls hl => ?_)
      refine lv_iconst (v := (1 : Int32)) hx hb dL_bestCode_13 (by decide) ?_
      exact xk_iretL (wf := fun v : XBr × (Nat → Int64) => [cX h qb qt] ++ wB I qb b ++ wB I qt v.1 ++ [cO J ao v.2]) (v, g) hx hb hr rfl hlocks hP hK hD hS hk9.symm (fun h => absurd (hk9.symm.trans h) (by decide)) dL_bestCode_14
  · have hP : va_P D vwCl ([cX h qb qt] ++ wB I qb b ++ wB I qt v ++ [cO J ao g]) H := hP
    have hD : va_D A ([cX h qb qt] ++ wB I qb b ++ wB I qt v ++ [cO J ao g]) := hD
    refine lv_i2l (v := (r_X2_bestCode b p0).toInt64) hx hb dL_bestCode_7 rfl ?_
    refine va_last hx hb hK hP hD hS 19 1 rfl rfl (vinN (n := 1) (by decide) (by decide)) dL_bestCode_8 (fun H locs hP hD hS => ?_)
    have hP : va_P D vwCl ([cX h qb qt] ++ wB I qb b ++ wB I qt v ++ [cO J ao (vp_updL g (0 : Int32).toNatClampNeg (r_X2_bestCode b p0).toInt64)]) H := hP
    have hD : va_D A ([cX h qb qt] ++ wB I qb b ++ wB I qt v ++ [cO J ao (vp_updL g (0 : Int32).toNatClampNeg (r_X2_bestCode b p0).toInt64)]) := hD
    refine lv_goto (tgt := 15) hx hb dL_bestCode_9 (by decide) ?_
    refine lv_iconst (v := (0 : Int32)) hx hb dL_bestCode_15 (by decide) ?_
    exact xk_iretL (wf := fun v : XBr × (Nat → Int64) => [cX h qb qt] ++ wB I qb b ++ wB I qt v.1 ++ [cO J ao v.2]) (v, (vp_updL g (0 : Int32).toNatClampNeg (r_X2_bestCode b p0).toInt64)) hx hb hr rfl hlocks hP hK hD hS hk0.symm (fun _ => rfl) dL_bestCode_16

set_option maxHeartbeats 1600000 in
set_option maxRecDepth 100000 in
theorem c_L_bestPoise (l : Launch) (hlt : l.stackTraces = false) (D : va_G) (I J : ClassId) (h : Nat) (qb qt : Nat → Nat) (ao sz : Nat) (b z : XBr) (g : Nat → Int64) (p0 : Int32) (hn : nOk (b.2.2.1 0)) (hm1 : 0 ≤ (b.1 0).toInt) (hm2 : (b.1 0).toInt < 1000000000) (hz : b.1 8 = 0 ∨ b.1 8 = 1) : xML l D [(I, .int), (J, .long)] yL_bestPoise wsL_bestPoise { frames := 7, cells := 1, slots := 6, locals := 156 } [.ref h, .int p0, .ref ao] sz ([cX h qb qt] ++ wB I qb b ++ wB I qt z ++ [cO J ao g]) (x_X2_bestPoise b p0) (r_X2_bestPoise b p0) (fun v : XBr × (Nat → Int64) => [cX h qb qt] ++ wB I qb b ++ wB I qt v.1 ++ [cO J ao v.2]) 1 6 := by
  refine xk_startL (cc := cL_bestPoise) (maxL := 4) (ret := (some .int)) (hh := [(0, 9, 12, 13)]) (Qf := fun A => xQL D [(I, .int), (J, .long)] A (x_X2_bestPoise b p0) (r_X2_bestPoise b p0) (fun v : XBr × (Nat → Int64) => [cX h qb qt] ++ wB I qb b ++ wB I qt v.1 ++ [cO J ao v.2])) (by decide) rfl (Nat.le_of_ble_eq_true rfl) ?_
  intro p e s m below meth c A H ls hst hAe hsz hl htab hXX
  obtain ⟨hx, hb, hr, hts, hown, hlocks, hml, hin, hN, hK, hP, hD, hA, hS⟩ := hst
  have hl : lv_has ls 4 [(0, .ref h), (1, .int p0), (2, .ref ao)] := hl
  have hP : va_P D vwCl ([cX h qb qt] ++ wB I qb b ++ wB I qt z ++ [cO J ao g]) H := hP
  have hK1 : va_K D vwCl [(I, .int)] s := hK.sub [0] rfl
  have k_eIA : (Cond.classLink RL 13 eIA).before _ s = true := hts (.classLink RL 13 eIA) (by decide +kernel)
  refine lv_aload_n hx hb dL_bestPoise_0 rfl (lv_at hl 2 rfl) ?_
  refine lv_iconst (v := (0 : Int32)) hx hb dL_bestPoise_1 (by decide) ?_
  refine lv_aload_n hx hb dL_bestPoise_2 rfl (lv_at hl 0 rfl) ?_
  refine lv_iload_n hx hb dL_bestPoise_3 rfl (lv_at hl 1 rfl) ?_
  refine xk_callX ([cO J ao g]) (fun v : XBr => [cX h qb qt] ++ wB I qb b ++ wB I qt v ++ [cO J ao g]) [0, 1, 2, 3, 4, 5, 6, 7, 8, 9, 10, 11, 12, 13, 14, 15, 16, 17, 18] [19] [1, 2, 3, 4, 5, 6, 7, 8, 9, 10, 11, 12, 13, 14, 15, 16, 17, 18, 19, 0] hP hD hS hA (vx_runV (As := [.int p0]) (rest := [.int (0 : Int32), .ref ao]) ⟨hx, hb, hml, hown, hts⟩ (c_X2_bestPoise l hlt D I h qb qt H.size b z p0 hn hm1 hm2 hz) (cwV 1 hts gL_bestPoise_X2_bestPoise rfl rfl rfl (by decide +kernel) ⟨Nat.le_of_ble_eq_true rfl, Nat.le_of_ble_eq_true rfl⟩) (xk_preVX (wc := [cX h qb qt] ++ wB I qb b ++ wB I qt z) (q0 := 0) (ci := 2) hN hXX hS hA hP hK1 hD [0, 1, 2, 3, 4, 5, 6, 7, 8, 9, 10, 11, 12, 13, 14, 15, 16, 17, 18] rfl rfl rfl rfl) rfl rfl hl.1 rfl (lv_room (Nat.le_of_ble_eq_true rfl)) dL_bestPoise_4 ⟨Nat.le_of_ble_eq_true rfl, Nat.le_of_ble_eq_true rfl⟩) rfl rfl rfl (by decide) rfl (fun _ => rfl) (fun E ce q9 v H locs hE hP hD hS hce hcv hcl => ?_) (fun v H locs hk0 hP hD hS => ?_)
  · have hP : va_P D vwCl ([cX h qb qt] ++ wB I qb b ++ wB I qt v ++ [cO J ao g]) H := hP
    have hD : va_D A ([cX h qb qt] ++ wB I qb b ++ wB I qt v ++ [cO J ao g]) := hD
    simp only [List.mem_cons, List.not_mem_nil, or_false, Prod.mk.injEq] at hE
    rcases hE with ⟨rfl, hk9⟩
    · refine vx_catch (name := eIA) hown [] ⟨0, 9, 12, 13⟩ [] (by rw [htab]; rfl) (fun z hz => by simp at hz) (by decide) (by decide) k_eIA (va_Nw.use rfl (hXX.1 (.castable eIA eIA) (by decide))) hce hcv hcl ?_
      refine lv_astore_n (lv' := (3, .ref q9) :: [(0, .ref h), (1, .int p0), (2, .ref ao)]) hx hb dL_bestPoise_12 rfl hl (by decide) rfl (fun ls hl => ?_)
      refine lv_iconst (v := (1 : Int32)) hx hb dL_bestPoise_13 (by decide) ?_
      exact xk_iretL (wf := fun v : XBr × (Nat → Int64) => [cX h qb qt] ++ wB I qb b ++ wB I qt v.1 ++ [cO J ao v.2]) (v, g) hx hb hr rfl hlocks hP hK hD hS hk9.symm (fun h => absurd (hk9.symm.trans h) (by decide)) dL_bestPoise_14
  · have hP : va_P D vwCl ([cX h qb qt] ++ wB I qb b ++ wB I qt v ++ [cO J ao g]) H := hP
    have hD : va_D A ([cX h qb qt] ++ wB I qb b ++ wB I qt v ++ [cO J ao g]) := hD
    refine lv_i2l (v := (r_X2_bestPoise b p0).toInt64) hx hb dL_bestPoise_7 rfl ?_
    refine va_last hx hb hK hP hD hS 19 1 rfl rfl (vinN (n := 1) (by decide) (by decide)) dL_bestPoise_8 (fun H locs hP hD hS => ?_)
    have hP : va_P D vwCl ([cX h qb qt] ++ wB I qb b ++ wB I qt v ++ [cO J ao (vp_updL g (0 : Int32).toNatClampNeg (r_X2_bestPoise b p0).toInt64)]) H := hP
    have hD : va_D A ([cX h qb qt] ++ wB I qb b ++ wB I qt v ++ [cO J ao (vp_updL g (0 : Int32).toNatClampNeg (r_X2_bestPoise b p0).toInt64)]) := hD
    refine lv_goto (tgt := 15) hx hb dL_bestPoise_9 (by decide) ?_
    refine lv_iconst (v := (0 : Int32)) hx hb dL_bestPoise_15 (by decide) ?_
    exact xk_iretL (wf := fun v : XBr × (Nat → Int64) => [cX h qb qt] ++ wB I qb b ++ wB I qt v.1 ++ [cO J ao v.2]) (v, (vp_updL g (0 : Int32).toNatClampNeg (r_X2_bestPoise b p0).toInt64)) hx hb hr rfl hlocks hP hK hD hS hk0.symm (fun _ => rfl) dL_bestPoise_16
