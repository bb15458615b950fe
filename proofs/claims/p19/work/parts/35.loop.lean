theorem hwf_of {n : Nat} {b : XBr} {kv wv : Int32} (h : Iv n b) (hm : (b.1 0).toInt < 100000) (hkw : 0 < n → ∃ j, j < n ∧ kv = nI j ∧ wv = r_X2_when b (nI j)) : ∀ i, i < n → nI i = kv → ¬ wv ≤ 0 → (wv = 1 ↔ fc (s_X0_goOneMinute b) i 2 = 2) := by
  intro i hi e hw
  have n40 := h.1.1
  obtain ⟨j, hj, e1, e2⟩ := hkw (by omega)
  have := nI_inj (i := i) (j := j) (by omega) (by omega) (e.trans e1)
  subst this
  obtain ⟨-, -, -, q⟩ := when_f h hj hm
  rw [e2] at hw ⊢
  exact q hw

set_option maxHeartbeats 4000000 in
set_option maxRecDepth 100000 in
theorem lw_time (l : Launch) (hlt : l.stackTraces = false) {p : Program} {e : Env} {s : State} {m : MethodId} {below : List Frame} {meth : Method} {c : Code} {D : va_G} {I : ClassId} {h ac : Nat} {qb qt : Nat → Nat} {b0 L : Nat} {sc : Nat → Int32} (hL : L ≤ 260) (C0 : lwC p s m c b0 L sc D I) (hr : meth.sig.returnType = ret) (hlocks : meth.locks = false) {cf : Nat → Int32} : ∀ (rr t n : Nat) (b z : XBr), rr + t = 60 → Iv n b → (b.1 0).toInt ≤ 3200 + (t : Int) → (∀ j, j < 8 → cf j = b.2.1 j) → ∀ (H : Heap) (locs : List Loc), va_P D vwCl (WX I h qb qt b z ++ [cA I ac 8 cf]) H → va_D (fun q : Nat => s.heap.size ≤ q) (WX I h qb qt b z ++ [cA I ac 8 cf]) → va_S (fun q : Nat => s.heap.size ≤ q) s.heap H locs → ∀ ls, lv_has ls 33 [(3, .int (nI t)), (2, .ref ac), (1, .ref h), (0, .ref b0)] → W p l e room_1 s m #[Value.ref b0] below meth c H locs (400 + 2000 * t + 0) (4000 + 12000 * t + 0) (lw_Z below #[Value.ref b0] s) (F0 m 48 ls []) := by
  have C1 := C0
  obtain ⟨hx, hb, hml, hown, hts, hX, hbl, hK1, hN, hXX, hover⟩ := C0
  have hA : ∀ q : Nat, s.heap.size ≤ q → (fun q : Nat => s.heap.size ≤ q) q := fun _ h => h
  have hbA : ¬ (fun q : Nat => s.heap.size ≤ q) b0 := Nat.not_le.mpr hbl
  intro rr
  induction rr with
  | zero =>
    intro t n b z hk hI hm hc H locs hP hD hS ls hl
    refine lv_iload_n hx hb dL_law_48 rfl (lv_at hl 0 rfl) ?_
    refine lv_bipush (v := (60 : Int32)) hx hb dL_law_49 (by decide) ?_
    refine lv_icmp_ge (tgt := 1351) hx hb dL_law_51 (by decide) (fun c_1 => ?_) (fun c_1 => ?_)
    · refine lv_iconst (v := (1 : Int32)) hx hb dL_law_1351 (by decide) ?_
      refine va_forget (fun q hq => hS.2.2 q hq) ?_
      refine W.widen (k := 600172) (n := 7300668) (by omega) (by omega) ?_
      exact lw_ret (d0 := s.drawn) (Drawn.sameBut.refl s.drawn lw_cs) hx hb hr hlocks dL_law_1352
    · exact absurd (nI_le (a := 60) (b := t) (by omega) (by omega)) c_1
  | succ rr ih =>
    intro t n b z hk hI hm hc H locs hP hD hS ls hl
    refine lv_iload_n hx hb dL_law_48 rfl (lv_at hl 0 rfl) ?_
    refine lv_bipush (v := (60 : Int32)) hx hb dL_law_49 (by decide) ?_
    refine lv_icmp_ge (tgt := 1351) hx hb dL_law_51 (by decide) (fun c_1 => ?_) (fun c_1 => ?_)
    · exact absurd c_1 (nI_ge (a := t) (b := 60) (by omega) (by omega))
    · have ht : t < 60 := by omega
      refine lw_sw l hlt hL C1 ht hI hm hc (fun n b z v hI hm hc H locs hP hD hS ls hl => ?_) H locs hP hD hS ls hl
      refine lw_fill l hlt hL C1 ht hI hm (fun aw r J z G hKJ hG H locs hP hD hS ls hl => ?_) H locs hP hD hS ls hl
      refine lw_A l hlt hL C1 ht hI hm hKJ hG (fun ax z nx kv wv tf enx hkw htf H locs hP hD hS ls hl => ?_) H locs hP hD hS ls hl
      refine lw_B l hlt hL C1 ht hI hm hKJ hG enx hkw htf (fun z H locs hP hD hS ls hl => ?_) H locs hP hD hS ls hl
      refine lw_C (v := v) l hlt hL C1 ht hI hm hKJ hG enx hkw htf hc (fun z H locs hP hD hS ls hl => ?_) H locs hP hD hS ls hl
      obtain ⟨hM, hI1⟩ := min_mn hI (show (b.1 0).toInt < 1000000 by omega)
      obtain ⟨-, hm2, -⟩ := iv_min hI (show (b.1 0).toInt < 1000000 by omega)
      have hwf := hwf_of hI (show (b.1 0).toInt < 100000 by omega) hkw
      refine lv_iconst (v := (0 : Int32)) hx hb dL_law_960 (by decide) ?_
      refine lv_istore (lv' := [(27, .int (cn1 (s_X0_goOneMinute b) 0)), (24, .int (bgI b)), (23, .int ((s_X0_goOneMinute b).1 1)), (19, .int wv), (18, .int kv), (12, .int nx), (11, .int (b.1 6)), (7, .int (b.1 0)), (6, .ref aw), (5, .int (nI n)), (3, .int (nI t)), (2, .ref ac), (1, .ref h), (0, .ref b0)]) hx hb dL_law_961 hl (by decide) rfl (fun ls hl => ?_)
      refine lv_iconst (v := (0 : Int32)) hx hb dL_law_963 (by decide) ?_
      refine lv_istore (lv' := [(28, .int (nI 0)), (27, .int (cn1 (s_X0_goOneMinute b) 0)), (24, .int (bgI b)), (23, .int ((s_X0_goOneMinute b).1 1)), (19, .int wv), (18, .int kv), (12, .int nx), (11, .int (b.1 6)), (7, .int (b.1 0)), (6, .ref aw), (5, .int (nI n)), (3, .int (nI t)), (2, .ref ac), (1, .ref h), (0, .ref b0)]) hx hb dL_law_964 hl (by decide) rfl (fun ls hl => ?_)
      refine W.widen (k := 400 + 2000 * t + 500 + 8 * 0) (n := 4000 + 12000 * t + 3500 + 48 * 0) (by omega) (by omega) ?_
      refine lw_D (v := v) l hlt hL C1 ht hI hm hKJ hG (ax := ax) (tf := tf) enx hM hI1 (by omega) hwf (fun z H locs hP hD hS ls hl => ?_) n 0 z rfl H locs hP hD hS ls hl
      have hP := xw_dropP (a := [cA I ac 8 cf]) (T := [cW J aw n r, cA I ax 4 tf] ++ rW I n r G) hP
      have hD := xw_dropD (a := [cA I ac 8 cf]) (T := [cW J aw n r, cA I ax 4 tf] ++ rW I n r G) hD
      refine lw_E l hlt hL C1 ht hI1 (by omega) (fun z H locs hP hD hS ls hl => ?_) H locs hP hD hS ls hl
      refine lv_iinc (v := (nI (t + 1))) (lv' := [(3, .int (nI (t + 1))), (2, .ref ac), (1, .ref h), (0, .ref b0)]) hx hb dL_law_1345 hl (k := 0) rfl (nI_succ t).symm (by decide) rfl (fun ls hl => ?_)
      refine lv_goto (tgt := 48) hx hb dL_law_1348 (by decide) ?_
      refine W.widen (k := 400 + 2000 * (t + 1) + 0) (n := 4000 + 12000 * (t + 1) + 0) (by omega) (by omega) ?_
      exact ih (t + 1) n (s_X0_goOneMinute b) z (by omega) hI1 (by omega) (fun j hj => (hc j hj).trans (congrFun hM.1.1 j).symm) H locs hP hD hS ls hl

set_option maxRecDepth 100000 in
theorem law_xX {args : Array Value} {s : State} {A : Nat → Prop} (hts : ∀ w ∈ lw_tbl, w.before args s = true) (hgv : (Jvm.Cond.and given_1 narrow_1).before args s = true) (hA : ∀ a : Nat, a < s.heap.size → ¬ A a) : xX A s s.heap := by
  have hfl := flat_of_before _ hgv
  refine ⟨fun w hw => ?_, fun q hq => ?_, ?_, ?_, fun q hq => ?_⟩
  · have h1 : ∀ w ∈ xwl, w ∈ lw_tbl := by decide +kernel
    have h2 : ∀ w ∈ xwl, w.onTables = true := by decide +kernel
    exact va_Nw.of (h2 w hw) (hts w (h1 w hw))
  · have h1 : ∀ q ∈ xnc, Cond.not (.castable q.1 q.2) ∈ flatC (Jvm.Cond.and given_1 narrow_1) := by decide +kernel
    exact va_Nc.of (hfl _ (h1 q hq))
  · exact vx_Zqof (hts (.laysStatic Bundle.tN "UNASSIGNED_STACK" Bundle.steD) (by decide +kernel)) (hts (.initialized Bundle.tN) (by decide +kernel)) (hfl (.isRef (.static Bundle.tN "UNASSIGNED_STACK" Bundle.steD)) (by decide +kernel)) hA
  · exact vx_Zqof (hts (.laysStatic Bundle.tN "SUPPRESSED_SENTINEL" Bundle.listD) (by decide +kernel)) (hts (.initialized Bundle.tN) (by decide +kernel)) (hfl (.isRef (.static Bundle.tN "SUPPRESSED_SENTINEL" Bundle.listD)) (by decide +kernel)) hA
  · have h1 : ∀ q ∈ strl, Cond.exactly (.string RX2 q.1) "java/lang/String" ∈ flatC (Jvm.Cond.and given_1 narrow_1) := by decide +kernel
    have h2 : ∀ q ∈ strl, Cond.stringRef RX2 q.1 q.2 ∈ lw_tbl := by decide +kernel
    obtain ⟨a, c, cA, kA, q1, -⟩ := Cond.exactly_spec (args := args) (first := s) (o := none) (s := s) (idx := []) (t := .string RX2 q.1) (cls := "java/lang/String") (hfl _ (h1 q hq))
    exact ⟨a, vk_R.of (hts _ (h2 q hq)) q1⟩


set_option maxHeartbeats 4000000 in
set_option maxRecDepth 100000 in
/-- THE LAW, from its entry -/
theorem whole_start {p : Program} {e : Env} {s : State} {m : MethodId} {below : List Frame} {meth : Method} {c : Code} (l : Launch) (hflags : l.flags = flags0) {b L : Nat} {xs : Nat → Int32} (hL : L ≤ 260) (C0 : lw_At p s m meth c b L xs) : W p l e room_1 s m #[Value.ref b] below meth c s.heap [] 0 0 (lw_Z below #[Value.ref b] s) (entryFrame m ([Value.ref b] : List Value).toArray 33) := by
  obtain ⟨hx, hb, hr, hml, hown, hts0, hX, hbl, hlocks, hgv⟩ := C0
  have hlt : l.stackTraces = false := by
    unfold Launch.stackTraces
    rw [hflags]
    decide
  have hts : ∀ w ∈ wsL_law, w.before #[Value.ref b] s = true := fun w h => hts0 w (wsL_law_in w h)
  have hA : ∀ q : Nat, s.heap.size ≤ q → (fun q : Nat => s.heap.size ≤ q) q := fun _ h => h
  have hN : xNw s := fun w hw => va_Nw.of (xN_on w hw) (hts0 w (xN_tbl w hw))
  have hXX : xX (fun q : Nat => s.heap.size ≤ q) s s.heap := law_xX hts0 hgv (fun a h => Nat.not_le.mpr h)
  obtain ⟨c0, iS0, hKn0⟩ := u_known (C := RX0) (T := TX0) (N := 11) (n := 11) hts0 inX0 (hts0 (.instantiable RX0 11) (by decide +kernel))
  obtain ⟨c1, iS1, hKn1⟩ := u_known (C := RX1) (T := TX1) (N := 12) (n := 12) hts0 inX1 (hts0 (.instantiable RX1 12) (by decide +kernel))
  obtain ⟨c2, iS2, hKn2⟩ := u_known (C := RX2) (T := TX2) (N := 2) (n := 2) hts0 inX2 (hts0 (.instantiable RX2 2) (by decide +kernel))
  obtain ⟨dC, dI, hKc⟩ : ∃ (dC : Nat → ClassId) (dI : Nat → Nat → Nat), ∀ (k : Nat) (q : vw_C), vwCl[k]? = some q → u_Kn s q.1 q.2.1 q.2.2 (dC k) (dI k) := by
    refine ⟨fun k => if k = 0 then c0 else if k = 1 then c1 else c2, fun k => if k = 0 then iS0 else if k = 1 then iS1 else iS2, ?_⟩
    intro k q hq
    match k, hq with
    | 0, hq => cases hq; exact hKn0
    | 1, hq => cases hq; exact hKn1
    | 2, hq => cases hq; exact hKn2
    | k + 3, hq => simp [vwCl] at hq
  obtain ⟨I, kI, pI, i1, i2, i3⟩ := Cond.arrayClass_spec (type := .int) (hts0 (.arrayClass .int) (by decide +kernel))
  have hK1 : va_K (dC, dI) vwCl [(I, .int)] s := by
    refine ⟨hKc, fun k q hq => ?_⟩
    match k, hq with
    | 0, hq => cases hq; exact ⟨fun n z => ⟨fun k h => (by cases h), kI, i2, pI, i3⟩, i1⟩
    | k + 1, hq => simp at hq
  have hS : va_S (fun q : Nat => s.heap.size ≤ q) s.heap s.heap [] := va_S.rf
  have C1 : lwC p s m c b L xs (dC, dI) I := ⟨hx, hb, hml, hown, hts, hX, hbl, hK1, hN, hXX, hts0 (.arrayOver (.array .int)) (by decide +kernel)⟩
  have hl := lv_entry ([.ref b]) (n := 33) (Nat.le_of_ble_eq_true rfl)
  rw [lg_entry_eq]
  generalize (lg_sl ([.ref b]) ++ List.replicate (33 - (lg_sl ([.ref b])).length) Slot.unset).toArray = ls at hl ⊢
  have hl : lv_has ls 33 [(0, .ref b)] := hl
  refine lv_aload_n hx hb dL_law_0 rfl (lv_at hl 0 rfl) ?_
  refine va_callr (va_runS (As := [.ref b]) (rest := []) ⟨hx, hb, hml, hown, hts⟩ (c_L_bridge l hlt (dC, dI) I b L xs hL s.heap.size) (va_cwS 1 hts gL_law_L_bridge rfl rfl rfl (by decide +kernel) ⟨Nat.le_of_ble_eq_true rfl, Nat.le_of_ble_eq_true rfl⟩) ⟨fun a U g mk q => by
    obtain ⟨q0, q1, q2, q3, q4, q5⟩ := q
    exact ⟨q0, q1, va_X.moved (u := U) (U := U.calling g mk a) (Vm.Alike.refl U.vm) q2, va_K.moved (u := U) (U := U.calling g mk a) (Vm.Alike.refl U.vm) q3, xNw.same (u := U) (U := U.calling g mk a) rfl q4, xX.same (u := U) (U := U.calling g mk a) rfl q5⟩, fun U hU hW => ⟨rfl, by rw [hU], by
    rw [hU]
    exact va_X.moved hW.alike hX, va_K.moved hW.alike hK1, hN.warm hW, by
    rw [hU]
    exact hXX.warm hW⟩⟩ rfl rfl hl.1 rfl (lv_room (Nat.le_of_ble_eq_true rfl)) dL_law_1 ⟨Nat.le_of_ble_eq_true rfl, Nat.le_of_ble_eq_true rfl⟩) hS (fun q _ h => h) (fun q h => h) (fun u h t H locs ht hal hpost hB hz hk hS => ?_)
  obtain ⟨qb, qt, bb, z⟩ := u
  obtain ⟨n, hI, hm⟩ := hpost
  obtain ⟨hP, hD⟩ := hB
  rw [ht] at hP
  have hI : Iv n bb := hI
  have hm : (bb.1 0).toInt ≤ 3200 := hm
  have hP : va_P (dC, dI) vwCl (WX I h qb qt bb z) H := hP
  have hD : va_D (fun q : Nat => s.heap.size ≤ q) (WX I h qb qt bb z) := hD
  refine lv_astore_n (lv' := [(1, .ref h), (0, .ref b)]) hx hb dL_law_4 rfl hl (by decide) rfl (fun ls hl => ?_)
  refine lv_bipush (v := (8 : Int32)) hx hb dL_law_5 (by decide) ?_
  refine va_newa (atype := .int) (ty := .int) (a0 := (8, .inl (fun _ => 0))) hx hb (hts (.arrayClass .int) (by decide +kernel)) rfl hK1 hP hD hS hA (fun _ => rfl) (by decide) (by decide) (by decide) (Nat.le_of_ble_eq_true rfl) (Nat.le_of_ble_eq_true rfl) dL_law_7 (fun ac cN H hK9 hP hD hS => ?_)
  have eN : cN = I := xk_cA hK9
  rw [eN] at hP hD
  have hP : va_P (dC, dI) vwCl (WX I h qb qt bb z ++ [cA I ac 8 (fun _ => 0)]) H := hP
  have hD : va_D (fun q : Nat => s.heap.size ≤ q) (WX I h qb qt bb z ++ [cA I ac 8 (fun _ => 0)]) := hD
  refine lv_astore_n (lv' := [(2, .ref ac), (1, .ref h), (0, .ref b)]) hx hb dL_law_9 rfl hl (by decide) rfl (fun ls hl => ?_)
  refine lv_iconst (v := (0 : Int32)) hx hb dL_law_10 (by decide) ?_
  refine lv_istore_n (lv' := [(3, .int (nI 0)), (2, .ref ac), (1, .ref h), (0, .ref b)]) hx hb dL_law_11 rfl hl (by decide) rfl (fun ls hl => ?_)
  refine W.widen (k := 310 + 2 * 0) (n := 3020 + 12 * 0) (Nat.le_of_ble_eq_true rfl) (Nat.le_of_ble_eq_true rfl) ?_
  refine lw_cold l hlt hL C1 hI (fun z cf hc H locs hP hD hS ls hl => ?_) 8 0 z (fun _ => 0) rfl (fun j hj => absurd hj (Nat.not_lt_zero j)) H locs hP hD hS ls hl
  refine lv_iconst (v := (0 : Int32)) hx hb dL_law_46 (by decide) ?_
  refine lv_istore_n (lv' := [(3, .int (nI 0)), (2, .ref ac), (1, .ref h), (0, .ref b)]) hx hb dL_law_47 rfl hl (by decide) rfl (fun ls hl => ?_)
  refine W.widen (k := 400 + 2000 * 0 + 0) (n := 4000 + 12000 * 0 + 0) (Nat.le_of_ble_eq_true rfl) (Nat.le_of_ble_eq_true rfl) ?_
  exact lw_time l hlt hL C1 hr hlocks 60 0 n bb z rfl hI (by omega) hc H locs hP hD hS ls hl
