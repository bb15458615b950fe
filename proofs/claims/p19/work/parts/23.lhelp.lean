/-! the law's two helpers that catch -/
def r_L_leave (b : XBr) (k : Int32) : Int32 := if x_X2_leave b k = 0 then r_X2_leave b k else -1
set_option maxHeartbeats 1600000 in
set_option maxRecDepth 100000 in
theorem c_L_leave (l : Launch) (hlt : l.stackTraces = false) (D : va_G) (I : ClassId) (h : Nat) (qb qt : Nat → Nat) (sz : Nat) (b z : XBr) (k : Int32) (hn : nOk (b.2.2.1 0)) (h1 : ¬ x_X2_leave b k = 1) : Met l yL_leave wsL_leave { frames := 7, cells := 1, slots := 6, locals := 104 } (xPcX D [(I, .int)] [.ref h, .int k] sz (WX I h qb qt b z)) (xQiE D [(I, .int)] (va_A (WX I h qb qt b z) sz) XBr (r_L_leave b k) (fun v => WX I h qb qt (s_X2_leave b k) v)) 1 6 (va_A (WX I h qb qt b z) sz) := by
  refine met_of_vx (XC := xXF) ?_ (fun E st t hx => hx.elim (fun u hu => hu.1))
  refine xk_startL (cc := cL_leave) (maxL := 3) (ret := (some .int)) (hh := [(0, 5, 6, 49)]) (Qf := fun A => xQiE D [(I, .int)] A XBr (r_L_leave b k) (fun v => WX I h qb qt (s_X2_leave b k) v)) (by decide) rfl (Nat.le_of_ble_eq_true rfl) ?_
  intro p e s m below meth c A H ls hst hAe hsz hl htab hXX
  obtain ⟨hx, hb, hr, hts, hown, hlocks, hml, hin, hN, hK, hP, hD, hA, hS⟩ := hst
  have hl : lv_has ls 3 [(0, .ref h), (1, .int k)] := hl
  have hP : va_P D vwCl (WX I h qb qt b z) H := hP
  have k_eIS : (Cond.classLink RL 49 eIS).before _ s = true := hts (.classLink RL 49 eIS) (by decide +kernel)
  refine lv_aload_n hx hb dL_leave_0 rfl (lv_at hl 0 rfl) ?_
  refine lv_iload_n hx hb dL_leave_1 rfl (lv_at hl 1 rfl) ?_
  refine xk_callX ([] : va_W) (fun v : XBr => WX I h qb qt (s_X2_leave b k) v) [0, 1, 2, 3, 4, 5, 6, 7, 8, 9, 10, 11, 12, 13, 14, 15, 16, 17, 18] [] [0, 1, 2, 3, 4, 5, 6, 7, 8, 9, 10, 11, 12, 13, 14, 15, 16, 17, 18] hP hD hS hA (vx_runV (As := [.int k]) (rest := []) ⟨hx, hb, hml, hown, hts⟩ (c_X2_leave l hlt D I h qb qt H.size b z k hn) (cwV 1 hts gL_leave_X2_leave rfl rfl rfl (by decide +kernel) ⟨Nat.le_of_ble_eq_true rfl, Nat.le_of_ble_eq_true rfl⟩) (xk_preVX (wc := WX I h qb qt b z) (q0 := 0) (ci := 2) hN hXX hS hA hP hK hD [0, 1, 2, 3, 4, 5, 6, 7, 8, 9, 10, 11, 12, 13, 14, 15, 16, 17, 18] rfl rfl rfl rfl) rfl rfl hl.1 rfl (lv_room (Nat.le_of_ble_eq_true rfl)) dL_leave_2 ⟨Nat.le_of_ble_eq_true rfl, Nat.le_of_ble_eq_true rfl⟩) rfl rfl rfl (by decide) rfl (fun _ => rfl) (fun E ce q9 v H locs hE hP hD hS hce hcv hcl => ?_) (fun v H locs hk0 hP hD hS => ?_)
  · have hP : va_P D vwCl (WX I h qb qt (s_X2_leave b k) v) H := hP
    have hD : va_D A (WX I h qb qt (s_X2_leave b k) v) := hD
    simp only [List.mem_cons, List.not_mem_nil, or_false, Prod.mk.injEq] at hE
    rcases hE with ⟨rfl, hk9⟩ | ⟨rfl, hk9⟩
    · exact absurd hk9 h1
    · refine vx_catch (name := eIS) hown [] ⟨0, 5, 6, 49⟩ [] (by rw [htab]; rfl) (fun z hz => by simp at hz) (by decide) (by decide) k_eIS (va_Nw.use rfl (hXX.1 (.castable eIS eIS) (by decide))) hce hcv hcl ?_
      refine lv_astore_n (lv' := (2, .ref q9) :: [(0, .ref h), (1, .int k)]) hx hb dL_leave_6 rfl hl (by decide) rfl (fun ls hl => ?_)
      refine lv_iconst (v := (-1 : Int32)) hx hb dL_leave_7 (by decide) ?_
      exact vx_ret (xk_iretE (wf := fun (_ : Unit) (v : XBr) => WX I h qb qt (s_X2_leave b k) v) (u := ()) (u1 := ()) v hx hb hr rfl hlocks hP hK hD hS (by unfold r_L_leave; rw [if_neg (by rw [hk9]; decide)]) rfl dL_leave_8)
  · have hP : va_P D vwCl (WX I h qb qt (s_X2_leave b k) v) H := hP
    have hD : va_D A (WX I h qb qt (s_X2_leave b k) v) := hD
    exact vx_ret (xk_iretE (wf := fun (_ : Unit) (v : XBr) => WX I h qb qt (s_X2_leave b k) v) (u := ()) (u1 := ()) v hx hb hr rfl hlocks hP hK hD hS (by unfold r_L_leave; rw [if_pos hk0]) rfl dL_leave_5)

def r_L_poise (b : XBr) (k : Int32) : Int32 := if x_X2_poise b k = 0 then r_X2_poise b k else -1
set_option maxHeartbeats 1600000 in
set_option maxRecDepth 100000 in
theorem c_L_poise (l : Launch) (hlt : l.stackTraces = false) (D : va_G) (I : ClassId) (h : Nat) (qb qt : Nat → Nat) (sz : Nat) (b z : XBr) (k : Int32) (h1 : ¬ x_X2_poise b k = 1) : Met l yL_poise wsL_poise { frames := 7, cells := 1, slots := 6, locals := 104 } (xPcX D [(I, .int)] [.ref h, .int k] sz (WX I h qb qt b z)) (xQiE D [(I, .int)] (va_A (WX I h qb qt b z) sz) XBr (r_L_poise b k) (fun v => WX I h qb qt (s_X2_poise b k) v)) 1 6 (va_A (WX I h qb qt b z) sz) := by
  refine met_of_vx (XC := xXF) ?_ (fun E st t hx => hx.elim (fun u hu => hu.1))
  refine xk_startL (cc := cL_poise) (maxL := 3) (ret := (some .int)) (hh := [(0, 5, 6, 49)]) (Qf := fun A => xQiE D [(I, .int)] A XBr (r_L_poise b k) (fun v => WX I h qb qt (s_X2_poise b k) v)) (by decide) rfl (Nat.le_of_ble_eq_true rfl) ?_
  intro p e s m below meth c A H ls hst hAe hsz hl htab hXX
  obtain ⟨hx, hb, hr, hts, hown, hlocks, hml, hin, hN, hK, hP, hD, hA, hS⟩ := hst
  have hl : lv_has ls 3 [(0, .ref h), (1, .int k)] := hl
  have hP : va_P D vwCl (WX I h qb qt b z) H := hP
  have k_eIS : (Cond.classLink RL 49 eIS).before _ s = true := hts (.classLink RL 49 eIS) (by decide +kernel)
  refine lv_aload_n hx hb dL_poise_0 rfl (lv_at hl 0 rfl) ?_
  refine lv_iload_n hx hb dL_poise_1 rfl (lv_at hl 1 rfl) ?_
  refine xk_callX ([] : va_W) (fun v : XBr => WX I h qb qt (s_X2_poise b k) v) [0, 1, 2, 3, 4, 5, 6, 7, 8, 9, 10, 11, 12, 13, 14, 15, 16, 17, 18] [] [0, 1, 2, 3, 4, 5, 6, 7, 8, 9, 10, 11, 12, 13, 14, 15, 16, 17, 18] hP hD hS hA (vx_runV (As := [.int k]) (rest := []) ⟨hx, hb, hml, hown, hts⟩ (c_X2_poise l hlt D I h qb qt H.size b z k ) (cwV 1 hts gL_poise_X2_poise rfl rfl rfl (by decide +kernel) ⟨Nat.le_of_ble_eq_true rfl, Nat.le_of_ble_eq_true rfl⟩) (xk_preVX (wc := WX I h qb qt b z) (q0 := 0) (ci := 2) hN hXX hS hA hP hK hD [0, 1, 2, 3, 4, 5, 6, 7, 8, 9, 10, 11, 12, 13, 14, 15, 16, 17, 18] rfl rfl rfl rfl) rfl rfl hl.1 rfl (lv_room (Nat.le_of_ble_eq_true rfl)) dL_poise_2 ⟨Nat.le_of_ble_eq_true rfl, Nat.le_of_ble_eq_true rfl⟩) rfl rfl rfl (by decide) rfl (fun _ => rfl) (fun E ce q9 v H locs hE hP hD hS hce hcv hcl => ?_) (fun v H locs hk0 hP hD hS => ?_)
  · have hP : va_P D vwCl (WX I h qb qt (s_X2_poise b k) v) H := hP
    have hD : va_D A (WX I h qb qt (s_X2_poise b k) v) := hD
    simp only [List.mem_cons, List.not_mem_nil, or_false, Prod.mk.injEq] at hE
    rcases hE with ⟨rfl, hk9⟩ | ⟨rfl, hk9⟩
    · exact absurd hk9 h1
    · refine vx_catch (name := eIS) hown [] ⟨0, 5, 6, 49⟩ [] (by rw [htab]; rfl) (fun z hz => by simp at hz) (by decide) (by decide) k_eIS (va_Nw.use rfl (hXX.1 (.castable eIS eIS) (by decide))) hce hcv hcl ?_
      refine lv_astore_n (lv' := (2, .ref q9) :: [(0, .ref h), (1, .int k)]) hx hb dL_poise_6 rfl hl (by decide) rfl (fun ls hl => ?_)
      refine lv_iconst (v := (-1 : Int32)) hx hb dL_poise_7 (by decide) ?_
      exact vx_ret (xk_iretE (wf := fun (_ : Unit) (v : XBr) => WX I h qb qt (s_X2_poise b k) v) (u := ()) (u1 := ()) v hx hb hr rfl hlocks hP hK hD hS (by unfold r_L_poise; rw [if_neg (by rw [hk9]; decide)]) rfl dL_poise_8)
  · have hP : va_P D vwCl (WX I h qb qt (s_X2_poise b k) v) H := hP
    have hD : va_D A (WX I h qb qt (s_X2_poise b k) v) := hD
    exact vx_ret (xk_iretE (wf := fun (_ : Unit) (v : XBr) => WX I h qb qt (s_X2_poise b k) v) (u := ()) (u1 := ()) v hx hb hr rfl hlocks hP hK hD hS (by unfold r_L_poise; rw [if_pos hk0]) rfl dL_poise_5)
