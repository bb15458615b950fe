section XK4
abbrev xMvE (l : Launch) (D : va_G) (tys : List (ClassId × FieldType)) (y : MethodName) (ws : List Cond) (rm : Room) (av : List Value) (sz : Nat) (wc : va_W) (V : Type) (wf : V → va_W) (mc ms : Nat) := Met l y ws rm (xPc D tys av sz wc) (va_Qv (fun _ : V => True) (fun v => xB D tys (va_A wc sz) (wf v)) (va_A wc sz)) mc ms (va_A wc sz)
variable {p : Program} {l : Launch} {e : Env} {R : Room} {s : State} {m : MethodId} {args : Array Value} {below : List Frame} {meth : Method} {c : Code} {H : Heap} {locs : List Loc} {cells slots : Nat} {Q : State → Prop}
variable {cc : ByteArray} {pc : Nat} {ls : Array Slot} {rest st0 : List Value} {D : va_G} {tys : List (ClassId × FieldType)} {A : Nat → Prop} {H0 : Heap}
theorem xk_vretE {V : Type} {wf : V → va_W} (v0 : V) (hx : p.tables.exec = Jvm.exec) (hb : c.code = cc) (hr : meth.sig.returnType = none) (hlocks : meth.locks = false) (hP : va_P D vwCl (wf v0) H) (hK : va_K D vwCl tys s) (hD : va_D A (wf v0)) (hS : va_S A s.heap H locs) (hdg : decode cc pc = .ok (.return_, 1)) :
    W p l e R s m args below meth c H locs cells slots (MQ below (va_Qv (fun _ : V => True) (fun v => xB D tys A (wf v)) A) args s cells slots A) (F0 m pc ls []) :=
  W.vret hx hb hr (fun t ht hW => ⟨⟨v0, rfl, trivial, by rw [ht]; exact hP, va_K.moved hW.alike hK, hD⟩, hS.F ht⟩) hS.2.2 hdg hlocks
theorem xk_callvE {V : Type} {mc ms : Nat} {a9 : Array Value} {wsA wc : va_W} {w1 : V → va_W} (wr : va_W) (isC isR : List Nat) (hP : va_P D vwCl wsA H) (hD : va_D A wsA) (hS : va_S A H0 H locs) (hA : ∀ q, H0.size ≤ q → A q)
    (hr : va_Run p l e R s m args below meth c H locs cells slots mc ms (F0 m pc ls st0) rest (va_Qv (fun _ : V => True) (fun v => xB D tys (va_A wc H.size) (w1 v)) (va_A wc H.size) a9) (va_A wc H.size))
    (hC : isC.map (fun i => wsA[i]?) = wc.map some) (hR : isR.map (fun i => wsA[i]?) = wr.map some) (hn : va_nd isR = true) (hdis : ∀ i ∈ isR, i ∉ isC)
    (kk : ∀ (v : V) (H1 : Heap) (locs1 : List Loc), va_P D vwCl (wr ++ w1 v) H1 → va_D A (wr ++ w1 v) → va_S A H0 H1 locs1 → W p l e R s m args below meth c H1 locs1 (cells + mc) (slots + ms) Q (F0 m (pc + 3) ls rest)) : W p l e R s m args below meth c H locs cells slots Q (F0 m pc ls st0) := by
  have hF := va_free (wc := wc) hD hS hA isC hC
  refine va_callv hr hS (fun q _ h => hF q h) hF (fun u t H1 locs1 ht hvm hw hB hz1 hk1 hS1 => ?_)
  obtain ⟨hP1, hK1, hD1⟩ := hB
  rw [ht] at hP1
  obtain ⟨h1, h2⟩ := va_join (wr := wr) (w1 := w1 u) hP hD isC isR hC hR hn hdis hk1 hF hP1 hD1
  exact kk u H1 locs1 h1 h2 hS1
end XK4
/-! what stands behind the constructors -/
abbrev qT (h : Nat) (v : Nat → Nat) : Nat → Nat := fun j => if j = 2 then h else v j
abbrev qB (h : Nat) (v : Nat → Nat) : Nat → Nat := fun j => if j = 0 then h else v j
def T0 : XT := (fun j => if j = 4 then -1 else if j = 5 then -1 else 0, fun _ _ => 0)
def B0 : XBr := (fun j => if j = 2 then 15 else if j = 6 then -1 else 0, fun _ => 0, T0)
def S0 : MS := (fun j => if j = 2 then 15 else if j = 5 then -1 else 0, fun _ _ => 0)
def O0 : MO := (fun _ => 0, fun _ _ => 0)

set_option maxHeartbeats 1600000 in
set_option maxRecDepth 100000 in
theorem c_X1_init (l : Launch) (D : va_G) (I : ClassId) (h : Nat) (sz : Nat) : xMvE l D [(I, .int)] yX1_init wsX1_init { frames := 1, cells := 6, slots := 240, locals := 12 } [.ref h] sz ([(h, .inr (1, [.int (0 : Int32), .int (0 : Int32), .int (0 : Int32), .int (0 : Int32), .null, .null, .null, .null, .null, .null, .int (0 : Int32), .int (0 : Int32)]))]) (Nat → Nat) (fun v : Nat → Nat => wT I (qT h v) T0) 6 240 := by
  refine xk_start (cc := cX1_init) (maxL := 1) (ret := none) (Qf := fun A => va_Qv (fun _ : Nat → Nat => True) (fun v => xB D [(I, .int)] A ((fun v : Nat → Nat => wT I (qT h v) T0) v)) A) (by decide) rfl (Nat.le_of_ble_eq_true rfl) ?_
  intro p e s m below meth c A H ls hst hAe hsz hl
  obtain ⟨hx, hb, hr, hts, hown, hlocks, hml, hin, hN, hK, hP, hD, hA, hS⟩ := hst
  have hl : lv_has ls 1 [(0, .ref h)] := hl
  have hP : va_P D vwCl ([(h, .inr (1, [.int (0 : Int32), .int (0 : Int32), .int (0 : Int32), .int (0 : Int32), .null, .null, .null, .null, .null, .null, .int (0 : Int32), .int (0 : Int32)]))]) H := hP
  have hinX1 : ∀ w ∈ u_ws RX1 TX1 12, w ∈ wsX1_init := by decide +kernel
  have w_1 := hts (.methodLink RX1 3 objectInit) (by decide +kernel)
  have w_2 := hts (.instanceMethod objectInit) (by decide +kernel)
  have w_3 := hts (.code objectInit ⟨#[0xb1]⟩ 1 none) (by decide +kernel)
  have w_4 := hts (.fieldLink RX1 9 "BridgeBells$Travellers" "number" "I") (by decide +kernel)
  have w_5 := hts (.fieldLink RX1 15 "BridgeBells$Travellers" "passed" "I") (by decide +kernel)
  have w_6 := hts (.fieldLink RX1 18 "BridgeBells$Travellers" "bargesWaiting" "I") (by decide +kernel)
  have w_7 := hts (.fieldLink RX1 21 "BridgeBells$Travellers" "cartsWaiting" "I") (by decide +kernel)
  have w_8 := hts (.arrayClass .int) (by decide +kernel)
  have w_9 := hts (.fieldLink RX1 24 "BridgeBells$Travellers" "barge" "[I") (by decide +kernel)
  have w_10 := hts (.fieldLink RX1 28 "BridgeBells$Travellers" "needs" "[I") (by decide +kernel)
  have w_11 := hts (.fieldLink RX1 31 "BridgeBells$Travellers" "state" "[I") (by decide +kernel)
  have w_12 := hts (.fieldLink RX1 34 "BridgeBells$Travellers" "came" "[I") (by decide +kernel)
  have w_13 := hts (.fieldLink RX1 37 "BridgeBells$Travellers" "passedIn" "[I") (by decide +kernel)
  have w_14 := hts (.fieldLink RX1 40 "BridgeBells$Travellers" "waitEnd" "[I") (by decide +kernel)
  have w_15 := hts (.fieldLink RX1 43 "BridgeBells$Travellers" "firstBarge" "I") (by decide +kernel)
  have w_16 := hts (.fieldLink RX1 46 "BridgeBells$Travellers" "firstCart" "I") (by decide +kernel)
  refine lv_aload_n hx hb dX1_init_0 rfl (lv_at hl 0 rfl) ?_
  refine W.objInit hx hb hown w_1 w_2 w_3 rfl (by rw [hml]; exact hl.1) rfl dX1_init_1 (Nat.le_of_ble_eq_true rfl) (Nat.le_of_ble_eq_true rfl) ?_
  refine W.eq (g2 := F0 m 4 ls []) rfl ?_
  refine lv_aload_n hx hb dX1_init_4 rfl (lv_at hl 0 rfl) ?_
  refine lv_iconst (v := (0 : Int32)) hx hb dX1_init_5 (by decide) ?_
  refine va_put (D := D) (ci := 1) (v := .int (0 : Int32)) (ty := tyX1 0) (C := RX1) (T := TX1) (N := 12) hx hb hts hinX1 tyX1 tyX1_ok nmX1 hown hK hP hD hS 0 rfl rfl 0 (by decide) w_4 (fun _ h9 => h9) rfl (tyX1_ok 0 (by decide)) rfl rfl (Nat.le_of_ble_eq_true rfl) dX1_init_6 (fun H locs hP hD hS => ?_)
  have hP : va_P D vwCl ([(h, .inr (1, [.int (0 : Int32), .int (0 : Int32), .int (0 : Int32), .int (0 : Int32), .null, .null, .null, .null, .null, .null, .int (0 : Int32), .int (0 : Int32)]))]) H := hP
  have hD : va_D A ([(h, .inr (1, [.int (0 : Int32), .int (0 : Int32), .int (0 : Int32), .int (0 : Int32), .null, .null, .null, .null, .null, .null, .int (0 : Int32), .int (0 : Int32)]))]) := hD
  refine lv_aload_n hx hb dX1_init_9 rfl (lv_at hl 0 rfl) ?_
  refine lv_iconst (v := (0 : Int32)) hx hb dX1_init_10 (by decide) ?_
  refine va_put (D := D) (ci := 1) (v := .int (0 : Int32)) (ty := tyX1 1) (C := RX1) (T := TX1) (N := 12) hx hb hts hinX1 tyX1 tyX1_ok nmX1 hown hK hP hD hS 0 rfl rfl 1 (by decide) w_5 (fun _ h9 => h9) rfl (tyX1_ok 1 (by decide)) rfl rfl (Nat.le_of_ble_eq_true rfl) dX1_init_11 (fun H locs hP hD hS => ?_)
  have hP : va_P D vwCl ([(h, .inr (1, [.int (0 : Int32), .int (0 : Int32), .int (0 : Int32), .int (0 : Int32), .null, .null, .null, .null, .null, .null, .int (0 : Int32), .int (0 : Int32)]))]) H := hP
  have hD : va_D A ([(h, .inr (1, [.int (0 : Int32), .int (0 : Int32), .int (0 : Int32), .int (0 : Int32), .null, .null, .null, .null, .null, .null, .int (0 : Int32), .int (0 : Int32)]))]) := hD
  refine lv_aload_n hx hb dX1_init_14 rfl (lv_at hl 0 rfl) ?_
  refine lv_iconst (v := (0 : Int32)) hx hb dX1_init_15 (by decide) ?_
  refine va_put (D := D) (ci := 1) (v := .int (0 : Int32)) (ty := tyX1 2) (C := RX1) (T := TX1) (N := 12) hx hb hts hinX1 tyX1 tyX1_ok nmX1 hown hK hP hD hS 0 rfl rfl 2 (by decide) w_6 (fun _ h9 => h9) rfl (tyX1_ok 2 (by decide)) rfl rfl (Nat.le_of_ble_eq_true rfl) dX1_init_16 (fun H locs hP hD hS => ?_)
  have hP : va_P D vwCl ([(h, .inr (1, [.int (0 : Int32), .int (0 : Int32), .int (0 : Int32), .int (0 : Int32), .null, .null, .null, .null, .null, .null, .int (0 : Int32), .int (0 : Int32)]))]) H := hP
  have hD : va_D A ([(h, .inr (1, [.int (0 : Int32), .int (0 : Int32), .int (0 : Int32), .int (0 : Int32), .null, .null, .null, .null, .null, .null, .int (0 : Int32), .int (0 : Int32)]))]) := hD
  refine lv_aload_n hx hb dX1_init_19 rfl (lv_at hl 0 rfl) ?_
  refine lv_iconst (v := (0 : Int32)) hx hb dX1_init_20 (by decide) ?_
  refine va_put (D := D) (ci := 1) (v := .int (0 : Int32)) (ty := tyX1 3) (C := RX1) (T := TX1) (N := 12) hx hb hts hinX1 tyX1 tyX1_ok nmX1 hown hK hP hD hS 0 rfl rfl 3 (by decide) w_7 (fun _ h9 => h9) rfl (tyX1_ok 3 (by decide)) rfl rfl (Nat.le_of_ble_eq_true rfl) dX1_init_21 (fun H locs hP hD hS => ?_)
  have hP : va_P D vwCl ([(h, .inr (1, [.int (0 : Int32), .int (0 : Int32), .int (0 : Int32), .int (0 : Int32), .null, .null, .null, .null, .null, .null, .int (0 : Int32), .int (0 : Int32)]))]) H := hP
  have hD : va_D A ([(h, .inr (1, [.int (0 : Int32), .int (0 : Int32), .int (0 : Int32), .int (0 : Int32), .null, .null, .null, .null, .null, .null, .int (0 : Int32), .int (0 : Int32)]))]) := hD
  refine lv_aload_n hx hb dX1_init_24 rfl (lv_at hl 0 rfl) ?_
  refine lv_bipush (v := (40 : Int32)) hx hb dX1_init_25 (by decide) ?_
  refine va_newa (atype := .int) (ty := .int) (a0 := (40, .inl (fun _ => 0))) hx hb w_8 rfl hK hP hD hS hA (fun _ => rfl) (by decide) (by decide) (by decide) (Nat.le_of_ble_eq_true rfl) (Nat.le_of_ble_eq_true rfl) dX1_init_27 (fun q_1 cN H hK9 hP hD hS => ?_)
  have eI := (xk_cA hK9).symm
  subst eI
  have hP : va_P D vwCl ([(h, .inr (1, [.int (0 : Int32), .int (0 : Int32), .int (0 : Int32), .int (0 : Int32), .null, .null, .null, .null, .null, .null, .int (0 : Int32), .int (0 : Int32)]))] ++ [cA I q_1 40 (fun _ => (0 : Int32))]) H := hP
  have hD : va_D A ([(h, .inr (1, [.int (0 : Int32), .int (0 : Int32), .int (0 : Int32), .int (0 : Int32), .null, .null, .null, .null, .null, .null, .int (0 : Int32), .int (0 : Int32)]))] ++ [cA I q_1 40 (fun _ => (0 : Int32))]) := hD
  refine va_putF (D := D) (ci := 1) (v := .ref q_1) (ty := tyX1 4) (C := RX1) (T := TX1) (N := 12) hx hb hts hinX1 tyX1 tyX1_ok nmX1 hown hK hP hD hS 0 rfl rfl 4 (by decide) w_9 (fun _ h9 => h9) rfl hin rfl (tyX1_ok 4 (by decide)) rfl rfl (Nat.le_of_ble_eq_true rfl) dX1_init_29 (fun H locs hP hD hS => ?_)
  have hP : va_P D vwCl ([(h, .inr (1, [.int (0 : Int32), .int (0 : Int32), .int (0 : Int32), .int (0 : Int32), .ref q_1, .null, .null, .null, .null, .null, .int (0 : Int32), .int (0 : Int32)]))] ++ [cA I q_1 40 (fun _ => (0 : Int32))]) H := hP
  have hD : va_D A ([(h, .inr (1, [.int (0 : Int32), .int (0 : Int32), .int (0 : Int32), .int (0 : Int32), .ref q_1, .null, .null, .null, .null, .null, .int (0 : Int32), .int (0 : Int32)]))] ++ [cA I q_1 40 (fun _ => (0 : Int32))]) := hD
  refine lv_aload_n hx hb dX1_init_32 rfl (lv_at hl 0 rfl) ?_
  refine lv_bipush (v := (40 : Int32)) hx hb dX1_init_33 (by decide) ?_
  refine va_newa (atype := .int) (ty := .int) (a0 := (40, .inl (fun _ => 0))) hx hb w_8 rfl hK hP hD hS hA (fun _ => rfl) (by decide) (by decide) (by decide) (Nat.le_of_ble_eq_true rfl) (Nat.le_of_ble_eq_true rfl) dX1_init_35 (fun q_2 cN H hK9 hP hD hS => ?_)
  have eI := (xk_cA hK9).symm
  subst eI
  have hP : va_P D vwCl ([(h, .inr (1, [.int (0 : Int32), .int (0 : Int32), .int (0 : Int32), .int (0 : Int32), .ref q_1, .null, .null, .null, .null, .null, .int (0 : Int32), .int (0 : Int32)]))] ++ [cA I q_1 40 (fun _ => (0 : Int32))] ++ [cA I q_2 40 (fun _ => (0 : Int32))]) H := hP
  have hD : va_D A ([(h, .inr (1, [.int (0 : Int32), .int (0 : Int32), .int (0 : Int32), .int (0 : Int32), .ref q_1, .null, .null, .null, .null, .null, .int (0 : Int32), .int (0 : Int32)]))] ++ [cA I q_1 40 (fun _ => (0 : Int32))] ++ [cA I q_2 40 (fun _ => (0 : Int32))]) := hD
  refine va_putF (D := D) (ci := 1) (v := .ref q_2) (ty := tyX1 5) (C := RX1) (T := TX1) (N := 12) hx hb hts hinX1 tyX1 tyX1_ok nmX1 hown hK hP hD hS 0 rfl rfl 5 (by decide) w_10 (fun _ h9 => h9) rfl hin rfl (tyX1_ok 5 (by decide)) rfl rfl (Nat.le_of_ble_eq_true rfl) dX1_init_37 (fun H locs hP hD hS => ?_)
  have hP : va_P D vwCl ([(h, .inr (1, [.int (0 : Int32), .int (0 : Int32), .int (0 : Int32), .int (0 : Int32), .ref q_1, .ref q_2, .null, .null, .null, .null, .int (0 : Int32), .int (0 : Int32)]))] ++ [cA I q_1 40 (fun _ => (0 : Int32))] ++ [cA I q_2 40 (fun _ => (0 : Int32))]) H := hP
  have hD : va_D A ([(h, .inr (1, [.int (0 : Int32), .int (0 : Int32), .int (0 : Int32), .int (0 : Int32), .ref q_1, .ref q_2, .null, .null, .null, .null, .int (0 : Int32), .int (0 : Int32)]))] ++ [cA I q_1 40 (fun _ => (0 : Int32))] ++ [cA I q_2 40 (fun _ => (0 : Int32))]) := hD
  refine lv_aload_n hx hb dX1_init_40 rfl (lv_at hl 0 rfl) ?_
  refine lv_bipush (v := (40 : Int32)) hx hb dX1_init_41 (by decide) ?_
  refine va_newa (atype := .int) (ty := .int) (a0 := (40, .inl (fun _ => 0))) hx hb w_8 rfl hK hP hD hS hA (fun _ => rfl) (by decide) (by decide) (by decide) (Nat.le_of_ble_eq_true rfl) (Nat.le_of_ble_eq_true rfl) dX1_init_43 (fun q_3 cN H hK9 hP hD hS => ?_)
  have eI := (xk_cA hK9).symm
  subst eI
  have hP : va_P D vwCl ([(h, .inr (1, [.int (0 : Int32), .int (0 : Int32), .int (0 : Int32), .int (0 : Int32), .ref q_1, .ref q_2, .null, .null, .null, .null, .int (0 : Int32), .int (0 : Int32)]))] ++ [cA I q_1 40 (fun _ => (0 : Int32))] ++ [cA I q_2 40 (fun _ => (0 : Int32))] ++ [cA I q_3 40 (fun _ => (0 : Int32))]) H := hP
  have hD : va_D A ([(h, .inr (1, [.int (0 : Int32), .int (0 : Int32), .int (0 : Int32), .int (0 : Int32), .ref q_1, .ref q_2, .null, .null, .null, .null, .int (0 : Int32), .int (0 : Int32)]))] ++ [cA I q_1 40 (fun _ => (0 : Int32))] ++ [cA I q_2 40 (fun _ => (0 : Int32))] ++ [cA I q_3 40 (fun _ => (0 : Int32))]) := hD
  refine va_putF (D := D) (ci := 1) (v := .ref q_3) (ty := tyX1 6) (C := RX1) (T := TX1) (N := 12) hx hb hts hinX1 tyX1 tyX1_ok nmX1 hown hK hP hD hS 0 rfl rfl 6 (by decide) w_11 (fun _ h9 => h9) rfl hin rfl (tyX1_ok 6 (by decide)) rfl rfl (Nat.le_of_ble_eq_true rfl) dX1_init_45 (fun H locs hP hD hS => ?_)
  have hP : va_P D vwCl ([(h, .inr (1, [.int (0 : Int32), .int (0 : Int32), .int (0 : Int32), .int (0 : Int32), .ref q_1, .ref q_2, .ref q_3, .null, .null, .null, .int (0 : Int32), .int (0 : Int32)]))] ++ [cA I q_1 40 (fun _ => (0 : Int32))] ++ [cA I q_2 40 (fun _ => (0 : Int32))] ++ [cA I q_3 40 (fun _ => (0 : Int32))]) H := hP
  have hD : va_D A ([(h, .inr (1, [.int (0 : Int32), .int (0 : Int32), .int (0 : Int32), .int (0 : Int32), .ref q_1, .ref q_2, .ref q_3, .null, .null, .null, .int (0 : Int32), .int (0 : Int32)]))] ++ [cA I q_1 40 (fun _ => (0 : Int32))] ++ [cA I q_2 40 (fun _ => (0 : Int32))] ++ [cA I q_3 40 (fun _ => (0 : Int32))]) := hD
  refine lv_aload_n hx hb dX1_init_48 rfl (lv_at hl 0 rfl) ?_
  refine lv_bipush (v := (40 : Int32)) hx hb dX1_init_49 (by decide) ?_
  refine va_newa (atype := .int) (ty := .int) (a0 := (40, .inl (fun _ => 0))) hx hb w_8 rfl hK hP hD hS hA (fun _ => rfl) (by decide) (by decide) (by decide) (Nat.le_of_ble_eq_true rfl) (Nat.le_of_ble_eq_true rfl) dX1_init_51 (fun q_4 cN H hK9 hP hD hS => ?_)
  have eI := (xk_cA hK9).symm
  subst eI
  have hP : va_P D vwCl ([(h, .inr (1, [.int (0 : Int32), .int (0 : Int32), .int (0 : Int32), .int (0 : Int32), .ref q_1, .ref q_2, .ref q_3, .null, .null, .null, .int (0 : Int32), .int (0 : Int32)]))] ++ [cA I q_1 40 (fun _ => (0 : Int32))] ++ [cA I q_2 40 (fun _ => (0 : Int32))] ++ [cA I q_3 40 (fun _ => (0 : Int32))] ++ [cA I q_4 40 (fun _ => (0 : Int32))]) H := hP
  have hD : va_D A ([(h, .inr (1, [.int (0 : Int32), .int (0 : Int32), .int (0 : Int32), .int (0 : Int32), .ref q_1, .ref q_2, .ref q_3, .null, .null, .null, .int (0 : Int32), .int (0 : Int32)]))] ++ [cA I q_1 40 (fun _ => (0 : Int32))] ++ [cA I q_2 40 (fun _ => (0 : Int32))] ++ [cA I q_3 40 (fun _ => (0 : Int32))] ++ [cA I q_4 40 (fun _ => (0 : Int32))]) := hD
  refine va_putF (D := D) (ci := 1) (v := .ref q_4) (ty := tyX1 7) (C := RX1) (T := TX1) (N := 12) hx hb hts hinX1 tyX1 tyX1_ok nmX1 hown hK hP hD hS 0 rfl rfl 7 (by decide) w_12 (fun _ h9 => h9) rfl hin rfl (tyX1_ok 7 (by decide)) rfl rfl (Nat.le_of_ble_eq_true rfl) dX1_init_53 (fun H locs hP hD hS => ?_)
  have hP : va_P D vwCl ([(h, .inr (1, [.int (0 : Int32), .int (0 : Int32), .int (0 : Int32), .int (0 : Int32), .ref q_1, .ref q_2, .ref q_3, .ref q_4, .null, .null, .int (0 : Int32), .int (0 : Int32)]))] ++ [cA I q_1 40 (fun _ => (0 : Int32))] ++ [cA I q_2 40 (fun _ => (0 : Int32))] ++ [cA I q_3 40 (fun _ => (0 : Int32))] ++ [cA I q_4 40 (fun _ => (0 : Int32))]) H := hP
  have hD : va_D A ([(h, .inr (1, [.int (0 : Int32), .int (0 : Int32), .int (0 : Int32), .int (0 : Int32), .ref q_1, .ref q_2, .ref q_3, .ref q_4, .null, .null, .int (0 : Int32), .int (0 : Int32)]))] ++ [cA I q_1 40 (fun _ => (0 : Int32))] ++ [cA I q_2 40 (fun _ => (0 : Int32))] ++ [cA I q_3 40 (fun _ => (0 : Int32))] ++ [cA I q_4 40 (fun _ => (0 : Int32))]) := hD
  refine lv_aload_n hx hb dX1_init_56 rfl (lv_at hl 0 rfl) ?_
  refine lv_bipush (v := (40 : Int32)) hx hb dX1_init_57 (by decide) ?_
  refine va_newa (atype := .int) (ty := .int) (a0 := (40, .inl (fun _ => 0))) hx hb w_8 rfl hK hP hD hS hA (fun _ => rfl) (by decide) (by decide) (by decide) (Nat.le_of_ble_eq_true rfl) (Nat.le_of_ble_eq_true rfl) dX1_init_59 (fun q_5 cN H hK9 hP hD hS => ?_)
  have eI := (xk_cA hK9).symm
  subst eI
  have hP : va_P D vwCl ([(h, .inr (1, [.int (0 : Int32), .int (0 : Int32), .int (0 : Int32), .int (0 : Int32), .ref q_1, .ref q_2, .ref q_3, .ref q_4, .null, .null, .int (0 : Int32), .int (0 : Int32)]))] ++ [cA I q_1 40 (fun _ => (0 : Int32))] ++ [cA I q_2 40 (fun _ => (0 : Int32))] ++ [cA I q_3 40 (fun _ => (0 : Int32))] ++ [cA I q_4 40 (fun _ => (0 : Int32))] ++ [cA I q_5 40 (fun _ => (0 : Int32))]) H := hP
  have hD : va_D A ([(h, .inr (1, [.int (0 : Int32), .int (0 : Int32), .int (0 : Int32), .int (0 : Int32), .ref q_1, .ref q_2, .ref q_3, .ref q_4, .null, .null, .int (0 : Int32), .int (0 : Int32)]))] ++ [cA I q_1 40 (fun _ => (0 : Int32))] ++ [cA I q_2 40 (fun _ => (0 : Int32))] ++ [cA I q_3 40 (fun _ => (0 : Int32))] ++ [cA I q_4 40 (fun _ => (0 : Int32))] ++ [cA I q_5 40 (fun _ => (0 : Int32))]) := hD
  refine va_putF (D := D) (ci := 1) (v := .ref q_5) (ty := tyX1 8) (C := RX1) (T := TX1) (N := 12) hx hb hts hinX1 tyX1 tyX1_ok nmX1 hown hK hP hD hS 0 rfl rfl 8 (by decide) w_13 (fun _ h9 => h9) rfl hin rfl (tyX1_ok 8 (by decide)) rfl rfl (Nat.le_of_ble_eq_true rfl) dX1_init_61 (fun H locs hP hD hS => ?_)
  have hP : va_P D vwCl ([(h, .inr (1, [.int (0 : Int32), .int (0 : Int32), .int (0 : Int32), .int (0 : Int32), .ref q_1, .ref q_2, .ref q_3, .ref q_4, .ref q_5, .null, .int (0 : Int32), .int (0 : Int32)]))] ++ [cA I q_1 40 (fun _ => (0 : Int32))] ++ [cA I q_2 40 (fun _ => (0 : Int32))] ++ [cA I q_3 40 (fun _ => (0 : Int32))] ++ [cA I q_4 40 (fun _ => (0 : Int32))] ++ [cA I q_5 40 (fun _ => (0 : Int32))]) H := hP
  have hD : va_D A ([(h, .inr (1, [.int (0 : Int32), .int (0 : Int32), .int (0 : Int32), .int (0 : Int32), .ref q_1, .ref q_2, .ref q_3, .ref q_4, .ref q_5, .null, .int (0 : Int32), .int (0 : Int32)]))] ++ [cA I q_1 40 (fun _ => (0 : Int32))] ++ [cA I q_2 40 (fun _ => (0 : Int32))] ++ [cA I q_3 40 (fun _ => (0 : Int32))] ++ [cA I q_4 40 (fun _ => (0 : Int32))] ++ [cA I q_5 40 (fun _ => (0 : Int32))]) := hD
  refine lv_aload_n hx hb dX1_init_64 rfl (lv_at hl 0 rfl) ?_
  refine lv_bipush (v := (40 : Int32)) hx hb dX1_init_65 (by decide) ?_
  refine va_newa (atype := .int) (ty := .int) (a0 := (40, .inl (fun _ => 0))) hx hb w_8 rfl hK hP hD hS hA (fun _ => rfl) (by decide) (by decide) (by decide) (Nat.le_of_ble_eq_true rfl) (Nat.le_of_ble_eq_true rfl) dX1_init_67 (fun q_6 cN H hK9 hP hD hS => ?_)
  have eI := (xk_cA hK9).symm
  subst eI
  have hP : va_P D vwCl ([(h, .inr (1, [.int (0 : Int32), .int (0 : Int32), .int (0 : Int32), .int (0 : Int32), .ref q_1, .ref q_2, .ref q_3, .ref q_4, .ref q_5, .null, .int (0 : Int32), .int (0 : Int32)]))] ++ [cA I q_1 40 (fun _ => (0 : Int32))] ++ [cA I q_2 40 (fun _ => (0 : Int32))] ++ [cA I q_3 40 (fun _ => (0 : Int32))] ++ [cA I q_4 40 (fun _ => (0 : Int32))] ++ [cA I q_5 40 (fun _ => (0 : Int32))] ++ [cA I q_6 40 (fun _ => (0 : Int32))]) H := hP
  have hD : va_D A ([(h, .inr (1, [.int (0 : Int32), .int (0 : Int32), .int (0 : Int32), .int (0 : Int32), .ref q_1, .ref q_2, .ref q_3, .ref q_4, .ref q_5, .null, .int (0 : Int32), .int (0 : Int32)]))] ++ [cA I q_1 40 (fun _ => (0 : Int32))] ++ [cA I q_2 40 (fun _ => (0 : Int32))] ++ [cA I q_3 40 (fun _ => (0 : Int32))] ++ [cA I q_4 40 (fun _ => (0 : Int32))] ++ [cA I q_5 40 (fun _ => (0 : Int32))] ++ [cA I q_6 40 (fun _ => (0 : Int32))]) := hD
  refine va_putF (D := D) (ci := 1) (v := .ref q_6) (ty := tyX1 9) (C := RX1) (T := TX1) (N := 12) hx hb hts hinX1 tyX1 tyX1_ok nmX1 hown hK hP hD hS 0 rfl rfl 9 (by decide) w_14 (fun _ h9 => h9) rfl hin rfl (tyX1_ok 9 (by decide)) rfl rfl (Nat.le_of_ble_eq_true rfl) dX1_init_69 (fun H locs hP hD hS => ?_)
  have hP : va_P D vwCl ([(h, .inr (1, [.int (0 : Int32), .int (0 : Int32), .int (0 : Int32), .int (0 : Int32), .ref q_1, .ref q_2, .ref q_3, .ref q_4, .ref q_5, .ref q_6, .int (0 : Int32), .int (0 : Int32)]))] ++ [cA I q_1 40 (fun _ => (0 : Int32))] ++ [cA I q_2 40 (fun _ => (0 : Int32))] ++ [cA I q_3 40 (fun _ => (0 : Int32))] ++ [cA I q_4 40 (fun _ => (0 : Int32))] ++ [cA I q_5 40 (fun _ => (0 : Int32))] ++ [cA I q_6 40 (fun _ => (0 : Int32))]) H := hP
  have hD : va_D A ([(h, .inr (1, [.int (0 : Int32), .int (0 : Int32), .int (0 : Int32), .int (0 : Int32), .ref q_1, .ref q_2, .ref q_3, .ref q_4, .ref q_5, .ref q_6, .int (0 : Int32), .int (0 : Int32)]))] ++ [cA I q_1 40 (fun _ => (0 : Int32))] ++ [cA I q_2 40 (fun _ => (0 : Int32))] ++ [cA I q_3 40 (fun _ => (0 : Int32))] ++ [cA I q_4 40 (fun _ => (0 : Int32))] ++ [cA I q_5 40 (fun _ => (0 : Int32))] ++ [cA I q_6 40 (fun _ => (0 : Int32))]) := hD
  refine lv_aload_n hx hb dX1_init_72 rfl (lv_at hl 0 rfl) ?_
  refine lv_iconst (v := (-1 : Int32)) hx hb dX1_init_73 (by decide) ?_
  refine va_put (D := D) (ci := 1) (v := .int (-1 : Int32)) (ty := tyX1 10) (C := RX1) (T := TX1) (N := 12) hx hb hts hinX1 tyX1 tyX1_ok nmX1 hown hK hP hD hS 0 rfl rfl 10 (by decide) w_15 (fun _ h9 => h9) rfl (tyX1_ok 10 (by decide)) rfl rfl (Nat.le_of_ble_eq_true rfl) dX1_init_74 (fun H locs hP hD hS => ?_)
  have hP : va_P D vwCl ([(h, .inr (1, [.int (0 : Int32), .int (0 : Int32), .int (0 : Int32), .int (0 : Int32), .ref q_1, .ref q_2, .ref q_3, .ref q_4, .ref q_5, .ref q_6, .int (-1 : Int32), .int (0 : Int32)]))] ++ [cA I q_1 40 (fun _ => (0 : Int32))] ++ [cA I q_2 40 (fun _ => (0 : Int32))] ++ [cA I q_3 40 (fun _ => (0 : Int32))] ++ [cA I q_4 40 (fun _ => (0 : Int32))] ++ [cA I q_5 40 (fun _ => (0 : Int32))] ++ [cA I q_6 40 (fun _ => (0 : Int32))]) H := hP
  have hD : va_D A ([(h, .inr (1, [.int (0 : Int32), .int (0 : Int32), .int (0 : Int32), .int (0 : Int32), .ref q_1, .ref q_2, .ref q_3, .ref q_4, .ref q_5, .ref q_6, .int (-1 : Int32), .int (0 : Int32)]))] ++ [cA I q_1 40 (fun _ => (0 : Int32))] ++ [cA I q_2 40 (fun _ => (0 : Int32))] ++ [cA I q_3 40 (fun _ => (0 : Int32))] ++ [cA I q_4 40 (fun _ => (0 : Int32))] ++ [cA I q_5 40 (fun _ => (0 : Int32))] ++ [cA I q_6 40 (fun _ => (0 : Int32))]) := hD
  refine lv_aload_n hx hb dX1_init_77 rfl (lv_at hl 0 rfl) ?_
  refine lv_iconst (v := (-1 : Int32)) hx hb dX1_init_78 (by decide) ?_
  refine va_put (D := D) (ci := 1) (v := .int (-1 : Int32)) (ty := tyX1 11) (C := RX1) (T := TX1) (N := 12) hx hb hts hinX1 tyX1 tyX1_ok nmX1 hown hK hP hD hS 0 rfl rfl 11 (by decide) w_16 (fun _ h9 => h9) rfl (tyX1_ok 11 (by decide)) rfl rfl (Nat.le_of_ble_eq_true rfl) dX1_init_79 (fun H locs hP hD hS => ?_)
  have hP : va_P D vwCl ([(h, .inr (1, [.int (0 : Int32), .int (0 : Int32), .int (0 : Int32), .int (0 : Int32), .ref q_1, .ref q_2, .ref q_3, .ref q_4, .ref q_5, .ref q_6, .int (-1 : Int32), .int (-1 : Int32)]))] ++ [cA I q_1 40 (fun _ => (0 : Int32))] ++ [cA I q_2 40 (fun _ => (0 : Int32))] ++ [cA I q_3 40 (fun _ => (0 : Int32))] ++ [cA I q_4 40 (fun _ => (0 : Int32))] ++ [cA I q_5 40 (fun _ => (0 : Int32))] ++ [cA I q_6 40 (fun _ => (0 : Int32))]) H := hP
  have hD : va_D A ([(h, .inr (1, [.int (0 : Int32), .int (0 : Int32), .int (0 : Int32), .int (0 : Int32), .ref q_1, .ref q_2, .ref q_3, .ref q_4, .ref q_5, .ref q_6, .int (-1 : Int32), .int (-1 : Int32)]))] ++ [cA I q_1 40 (fun _ => (0 : Int32))] ++ [cA I q_2 40 (fun _ => (0 : Int32))] ++ [cA I q_3 40 (fun _ => (0 : Int32))] ++ [cA I q_4 40 (fun _ => (0 : Int32))] ++ [cA I q_5 40 (fun _ => (0 : Int32))] ++ [cA I q_6 40 (fun _ => (0 : Int32))]) := hD
  refine W.widen (k := 6) (n := 240) (Nat.le_of_ble_eq_true rfl) (Nat.le_of_ble_eq_true rfl) ?_
  exact xk_vretE (wf := fun v : Nat → Nat => wT I (qT h v) T0) (fun j : Nat => if j = 3 then q_1 else if j = 4 then q_2 else if j = 5 then q_3 else if j = 6 then q_4 else if j = 7 then q_5 else if j = 8 then q_6 else 0) hx hb hr hlocks hP hK hD hS dX1_init_82

set_option maxHeartbeats 1600000 in
set_option maxRecDepth 100000 in
theorem c_X0_init (l : Launch) (D : va_G) (I : ClassId) (h : Nat) (sz : Nat) : xMvE l D [(I, .int)] yX0_init wsX0_init { frames := 2, cells := 8, slots := 260, locals := 32 } [.ref h] sz ([(h, .inr (0, [.int (0 : Int32), .int (0 : Int32), .int (0 : Int32), .int (0 : Int32), .int (0 : Int32), .int (0 : Int32), .null, .null, .int (0 : Int32), .int (0 : Int32), .int (0 : Int32)]))]) (Nat → Nat) (fun v : Nat → Nat => wB I (qB h v) B0) 8 260 := by
  refine xk_start (cc := cX0_init) (maxL := 1) (ret := none) (Qf := fun A => va_Qv (fun _ : Nat → Nat => True) (fun v => xB D [(I, .int)] A ((fun v : Nat → Nat => wB I (qB h v) B0) v)) A) (by decide) rfl (Nat.le_of_ble_eq_true rfl) ?_
  intro p e s m below meth c A H ls hst hAe hsz hl
  obtain ⟨hx, hb, hr, hts, hown, hlocks, hml, hin, hN, hK, hP, hD, hA, hS⟩ := hst
  have hl : lv_has ls 1 [(0, .ref h)] := hl
  have hP : va_P D vwCl ([(h, .inr (0, [.int (0 : Int32), .int (0 : Int32), .int (0 : Int32), .int (0 : Int32), .int (0 : Int32), .int (0 : Int32), .null, .null, .int (0 : Int32), .int (0 : Int32), .int (0 : Int32)]))]) H := hP
  have hinX0 : ∀ w ∈ u_ws RX0 TX0 11, w ∈ wsX0_init := by decide +kernel
  have hinX1 : ∀ w ∈ u_ws RX1 TX1 12, w ∈ wsX0_init := by decide +kernel
  have w_1 := hts (.methodLink RX0 3 objectInit) (by decide +kernel)
  have w_2 := hts (.instanceMethod objectInit) (by decide +kernel)
  have w_3 := hts (.code objectInit ⟨#[0xb1]⟩ 1 none) (by decide +kernel)
  have w_4 := hts (.fieldLink RX0 9 "BridgeBells$Bridge" "minute" "I") (by decide +kernel)
  have w_5 := hts (.fieldLink RX0 15 "BridgeBells$Bridge" "angle" "I") (by decide +kernel)
  have w_6 := hts (.fieldLink RX0 18 "BridgeBells$Bridge" "counterpoise" "I") (by decide +kernel)
  have w_7 := hts (.fieldLink RX0 21 "BridgeBells$Bridge" "ice" "I") (by decide +kernel)
  have w_8 := hts (.fieldLink RX0 24 "BridgeBells$Bridge" "code" "I") (by decide +kernel)
  have w_9 := hts (.fieldLink RX0 27 "BridgeBells$Bridge" "waitedInAll" "I") (by decide +kernel)
  have w_10 := hts (.arrayClass .int) (by decide +kernel)
  have w_11 := hts (.fieldLink RX0 30 "BridgeBells$Bridge" "cold" "[I") (by decide +kernel)
  have w_12 := hts (.classLink RX0 34 RX1) (by decide +kernel)
  have w_13 := hts (.instantiable RX1 12) (by decide +kernel)
  have w_14 := hts (.initialized RX1) (by decide +kernel)
  have w_15 := hts (.instanceMethod yX1_init) (by decide +kernel)
  have w_16 := hts (.fieldLink RX0 37 "BridgeBells$Bridge" "travellers" "LBridgeBells$Travellers;") (by decide +kernel)
  have w_17 := hts (.fieldLink RX0 41 "BridgeBells$Bridge" "passing" "I") (by decide +kernel)
  have w_18 := hts (.fieldLink RX0 44 "BridgeBells$Bridge" "toGo" "I") (by decide +kernel)
  have w_19 := hts (.fieldLink RX0 47 "BridgeBells$Bridge" "latestWasBarge" "Z") (by decide +kernel)
  refine lv_aload_n hx hb dX0_init_0 rfl (lv_at hl 0 rfl) ?_
  refine W.objInit hx hb hown w_1 w_2 w_3 rfl (by rw [hml]; exact hl.1) rfl dX0_init_1 (Nat.le_of_ble_eq_true rfl) (Nat.le_of_ble_eq_true rfl) ?_
  refine W.eq (g2 := F0 m 4 ls []) rfl ?_
  refine lv_aload_n hx hb dX0_init_4 rfl (lv_at hl 0 rfl) ?_
  refine lv_iconst (v := (0 : Int32)) hx hb dX0_init_5 (by decide) ?_
  refine va_put (D := D) (ci := 0) (v := .int (0 : Int32)) (ty := tyX0 0) (C := RX0) (T := TX0) (N := 11) hx hb hts hinX0 tyX0 tyX0_ok nmX0 hown hK hP hD hS 0 rfl rfl 0 (by decide) w_4 (fun _ h9 => h9) rfl (tyX0_ok 0 (by decide)) rfl rfl (Nat.le_of_ble_eq_true rfl) dX0_init_6 (fun H locs hP hD hS => ?_)
  have hP : va_P D vwCl ([(h, .inr (0, [.int (0 : Int32), .int (0 : Int32), .int (0 : Int32), .int (0 : Int32), .int (0 : Int32), .int (0 : Int32), .null, .null, .int (0 : Int32), .int (0 : Int32), .int (0 : Int32)]))]) H := hP
  have hD : va_D A ([(h, .inr (0, [.int (0 : Int32), .int (0 : Int32), .int (0 : Int32), .int (0 : Int32), .int (0 : Int32), .int (0 : Int32), .null, .null, .int (0 : Int32), .int (0 : Int32), .int (0 : Int32)]))]) := hD
  refine lv_aload_n hx hb dX0_init_9 rfl (lv_at hl 0 rfl) ?_
  refine lv_iconst (v := (0 : Int32)) hx hb dX0_init_10 (by decide) ?_
  refine va_put (D := D) (ci := 0) (v := .int (0 : Int32)) (ty := tyX0 1) (C := RX0) (T := TX0) (N := 11) hx hb hts hinX0 tyX0 tyX0_ok nmX0 hown hK hP hD hS 0 rfl rfl 1 (by decide) w_5 (fun _ h9 => h9) rfl (tyX0_ok 1 (by decide)) rfl rfl (Nat.le_of_ble_eq_true rfl) dX0_init_11 (fun H locs hP hD hS => ?_)
  have hP : va_P D vwCl ([(h, .inr (0, [.int (0 : Int32), .int (0 : Int32), .int (0 : Int32), .int (0 : Int32), .int (0 : Int32), .int (0 : Int32), .null, .null, .int (0 : Int32), .int (0 : Int32), .int (0 : Int32)]))]) H := hP
  have hD : va_D A ([(h, .inr (0, [.int (0 : Int32), .int (0 : Int32), .int (0 : Int32), .int (0 : Int32), .int (0 : Int32), .int (0 : Int32), .null, .null, .int (0 : Int32), .int (0 : Int32), .int (0 : Int32)]))]) := hD
  refine lv_aload_n hx hb dX0_init_14 rfl (lv_at hl 0 rfl) ?_
  refine lv_bipush (v := (15 : Int32)) hx hb dX0_init_15 (by decide) ?_
  refine va_put (D := D) (ci := 0) (v := .int (15 : Int32)) (ty := tyX0 2) (C := RX0) (T := TX0) (N := 11) hx hb hts hinX0 tyX0 tyX0_ok nmX0 hown hK hP hD hS 0 rfl rfl 2 (by decide) w_6 (fun _ h9 => h9) rfl (tyX0_ok 2 (by decide)) rfl rfl (Nat.le_of_ble_eq_true rfl) dX0_init_17 (fun H locs hP hD hS => ?_)
  have hP : va_P D vwCl ([(h, .inr (0, [.int (0 : Int32), .int (0 : Int32), .int (15 : Int32), .int (0 : Int32), .int (0 : Int32), .int (0 : Int32), .null, .null, .int (0 : Int32), .int (0 : Int32), .int (0 : Int32)]))]) H := hP
  have hD : va_D A ([(h, .inr (0, [.int (0 : Int32), .int (0 : Int32), .int (15 : Int32), .int (0 : Int32), .int (0 : Int32), .int (0 : Int32), .null, .null, .int (0 : Int32), .int (0 : Int32), .int (0 : Int32)]))]) := hD
  refine lv_aload_n hx hb dX0_init_20 rfl (lv_at hl 0 rfl) ?_
  refine lv_iconst (v := (0 : Int32)) hx hb dX0_init_21 (by decide) ?_
  refine va_put (D := D) (ci := 0) (v := .int (0 : Int32)) (ty := tyX0 3) (C := RX0) (T := TX0) (N := 11) hx hb hts hinX0 tyX0 tyX0_ok nmX0 hown hK hP hD hS 0 rfl rfl 3 (by decide) w_7 (fun _ h9 => h9) rfl (tyX0_ok 3 (by decide)) rfl rfl (Nat.le_of_ble_eq_true rfl) dX0_init_22 (fun H locs hP hD hS => ?_)
  have hP : va_P D vwCl ([(h, .inr (0, [.int (0 : Int32), .int (0 : Int32), .int (15 : Int32), .int (0 : Int32), .int (0 : Int32), .int (0 : Int32), .null, .null, .int (0 : Int32), .int (0 : Int32), .int (0 : Int32)]))]) H := hP
  have hD : va_D A ([(h, .inr (0, [.int (0 : Int32), .int (0 : Int32), .int (15 : Int32), .int (0 : Int32), .int (0 : Int32), .int (0 : Int32), .null, .null, .int (0 : Int32), .int (0 : Int32), .int (0 : Int32)]))]) := hD
  refine lv_aload_n hx hb dX0_init_25 rfl (lv_at hl 0 rfl) ?_
  refine lv_iconst (v := (0 : Int32)) hx hb dX0_init_26 (by decide) ?_
  refine va_put (D := D) (ci := 0) (v := .int (0 : Int32)) (ty := tyX0 4) (C := RX0) (T := TX0) (N := 11) hx hb hts hinX0 tyX0 tyX0_ok nmX0 hown hK hP hD hS 0 rfl rfl 4 (by decide) w_8 (fun _ h9 => h9) rfl (tyX0_ok 4 (by decide)) rfl rfl (Nat.le_of_ble_eq_true rfl) dX0_init_27 (fun H locs hP hD hS => ?_)
  have hP : va_P D vwCl ([(h, .inr (0, [.int (0 : Int32), .int (0 : Int32), .int (15 : Int32), .int (0 : Int32), .int (0 : Int32), .int (0 : Int32), .null, .null, .int (0 : Int32), .int (0 : Int32), .int (0 : Int32)]))]) H := hP
  have hD : va_D A ([(h, .inr (0, [.int (0 : Int32), .int (0 : Int32), .int (15 : Int32), .int (0 : Int32), .int (0 : Int32), .int (0 : Int32), .null, .null, .int (0 : Int32), .int (0 : Int32), .int (0 : Int32)]))]) := hD
  refine lv_aload_n hx hb dX0_init_30 rfl (lv_at hl 0 rfl) ?_
  refine lv_iconst (v := (0 : Int32)) hx hb dX0_init_31 (by decide) ?_
  refine va_put (D := D) (ci := 0) (v := .int (0 : Int32)) (ty := tyX0 5) (C := RX0) (T := TX0) (N := 11) hx hb hts hinX0 tyX0 tyX0_ok nmX0 hown hK hP hD hS 0 rfl rfl 5 (by decide) w_9 (fun _ h9 => h9) rfl (tyX0_ok 5 (by decide)) rfl rfl (Nat.le_of_ble_eq_true rfl) dX0_init_32 (fun H locs hP hD hS => ?_)
  have hP : va_P D vwCl ([(h, .inr (0, [.int (0 : Int32), .int (0 : Int32), .int (15 : Int32), .int (0 : Int32), .int (0 : Int32), .int (0 : Int32), .null, .null, .int (0 : Int32), .int (0 : Int32), .int (0 : Int32)]))]) H := hP
  have hD : va_D A ([(h, .inr (0, [.int (0 : Int32), .int (0 : Int32), .int (15 : Int32), .int (0 : Int32), .int (0 : Int32), .int (0 : Int32), .null, .null, .int (0 : Int32), .int (0 : Int32), .int (0 : Int32)]))]) := hD
  refine lv_aload_n hx hb dX0_init_35 rfl (lv_at hl 0 rfl) ?_
  refine lv_bipush (v := (8 : Int32)) hx hb dX0_init_36 (by decide) ?_
  refine va_newa (atype := .int) (ty := .int) (a0 := (8, .inl (fun _ => 0))) hx hb w_10 rfl hK hP hD hS hA (fun _ => rfl) (by decide) (by decide) (by decide) (Nat.le_of_ble_eq_true rfl) (Nat.le_of_ble_eq_true rfl) dX0_init_38 (fun q_1 cN H hK9 hP hD hS => ?_)
  have eI := (xk_cA hK9).symm
  subst eI
  have hP : va_P D vwCl ([(h, .inr (0, [.int (0 : Int32), .int (0 : Int32), .int (15 : Int32), .int (0 : Int32), .int (0 : Int32), .int (0 : Int32), .null, .null, .int (0 : Int32), .int (0 : Int32), .int (0 : Int32)]))] ++ [cA I q_1 8 (fun _ => (0 : Int32))]) H := hP
  have hD : va_D A ([(h, .inr (0, [.int (0 : Int32), .int (0 : Int32), .int (15 : Int32), .int (0 : Int32), .int (0 : Int32), .int (0 : Int32), .null, .null, .int (0 : Int32), .int (0 : Int32), .int (0 : Int32)]))] ++ [cA I q_1 8 (fun _ => (0 : Int32))]) := hD
  refine va_putF (D := D) (ci := 0) (v := .ref q_1) (ty := tyX0 6) (C := RX0) (T := TX0) (N := 11) hx hb hts hinX0 tyX0 tyX0_ok nmX0 hown hK hP hD hS 0 rfl rfl 6 (by decide) w_11 (fun _ h9 => h9) rfl hin rfl (tyX0_ok 6 (by decide)) rfl rfl (Nat.le_of_ble_eq_true rfl) dX0_init_40 (fun H locs hP hD hS => ?_)
  have hP : va_P D vwCl ([(h, .inr (0, [.int (0 : Int32), .int (0 : Int32), .int (15 : Int32), .int (0 : Int32), .int (0 : Int32), .int (0 : Int32), .ref q_1, .null, .int (0 : Int32), .int (0 : Int32), .int (0 : Int32)]))] ++ [cA I q_1 8 (fun _ => (0 : Int32))]) H := hP
  have hD : va_D A ([(h, .inr (0, [.int (0 : Int32), .int (0 : Int32), .int (15 : Int32), .int (0 : Int32), .int (0 : Int32), .int (0 : Int32), .ref q_1, .null, .int (0 : Int32), .int (0 : Int32), .int (0 : Int32)]))] ++ [cA I q_1 8 (fun _ => (0 : Int32))]) := hD
  refine lv_aload_n hx hb dX0_init_43 rfl (lv_at hl 0 rfl) ?_
  refine va_new (ci := 1) (fs := [.int (0 : Int32), .int (0 : Int32), .int (0 : Int32), .int (0 : Int32), .null, .null, .null, .null, .null, .null, .int (0 : Int32), .int (0 : Int32)]) (C := RX1) (T := TX1) (N := 12) hx hb hts hinX1 tyX1 tyX1_ok hown w_12 w_13 w_14 hK hP hD hS hA rfl (fun j hj => by rcases (show j = 0 ∨ j = 1 ∨ j = 2 ∨ j = 3 ∨ j = 4 ∨ j = 5 ∨ j = 6 ∨ j = 7 ∨ j = 8 ∨ j = 9 ∨ j = 10 ∨ j = 11 by omega) with rfl | rfl | rfl | rfl | rfl | rfl | rfl | rfl | rfl | rfl | rfl | rfl <;> rfl) (Nat.le_of_ble_eq_true rfl) (Nat.le_of_ble_eq_true rfl) dX0_init_44 (fun q_2 H hP hD hS => ?_)
  have hP : va_P D vwCl ([(h, .inr (0, [.int (0 : Int32), .int (0 : Int32), .int (15 : Int32), .int (0 : Int32), .int (0 : Int32), .int (0 : Int32), .ref q_1, .null, .int (0 : Int32), .int (0 : Int32), .int (0 : Int32)]))] ++ [cA I q_1 8 (fun _ => (0 : Int32))] ++ [(q_2, .inr (1, [.int (0 : Int32), .int (0 : Int32), .int (0 : Int32), .int (0 : Int32), .null, .null, .null, .null, .null, .null, .int (0 : Int32), .int (0 : Int32)]))]) H := hP
  have hD : va_D A ([(h, .inr (0, [.int (0 : Int32), .int (0 : Int32), .int (15 : Int32), .int (0 : Int32), .int (0 : Int32), .int (0 : Int32), .ref q_1, .null, .int (0 : Int32), .int (0 : Int32), .int (0 : Int32)]))] ++ [cA I q_1 8 (fun _ => (0 : Int32))] ++ [(q_2, .inr (1, [.int (0 : Int32), .int (0 : Int32), .int (0 : Int32), .int (0 : Int32), .null, .null, .null, .null, .null, .null, .int (0 : Int32), .int (0 : Int32)]))]) := hD
  refine lv_dup hx hb dX0_init_47 rfl ?_
  refine xk_callvE ([(h, .inr (0, [.int (0 : Int32), .int (0 : Int32), .int (15 : Int32), .int (0 : Int32), .int (0 : Int32), .int (0 : Int32), .ref q_1, .null, .int (0 : Int32), .int (0 : Int32), .int (0 : Int32)])), cA I q_1 8 (fun _ => (0 : Int32))]) [2] [0, 1] hP hD hS hA (va_runIN (host := "BridgeBells") (As := []) (rest := [.ref q_2, .ref h]) ⟨hx, hb, hml, hown, hts⟩ (c_X1_init l D I q_2 H.size) ⟨va_cnB 0 hts gX0_init_X1_init_n36 rfl rfl rfl (hN.at 1 rfl) w_14 (by decide +kernel) ⟨Nat.le_of_ble_eq_true rfl, Nat.le_of_ble_eq_true rfl⟩, rfl, w_15⟩ (xk_pre (wc := [(q_2, .inr (1, [.int (0 : Int32), .int (0 : Int32), .int (0 : Int32), .int (0 : Int32), .null, .null, .null, .null, .null, .null, .int (0 : Int32), .int (0 : Int32)]))]) hN hP hK hD [2] rfl rfl) rfl rfl hl.1 rfl (lv_room (Nat.le_of_ble_eq_true rfl)) dX0_init_48 ⟨Nat.le_of_ble_eq_true rfl, Nat.le_of_ble_eq_true rfl⟩) rfl rfl rfl (by decide) (fun v_3 H locs hP hD hS => ?_)
  have hP : va_P D vwCl ([(h, .inr (0, [.int (0 : Int32), .int (0 : Int32), .int (15 : Int32), .int (0 : Int32), .int (0 : Int32), .int (0 : Int32), .ref q_1, .null, .int (0 : Int32), .int (0 : Int32), .int (0 : Int32)]))] ++ [cA I q_1 8 (fun _ => (0 : Int32))] ++ wT I (qT q_2 v_3) T0) H := hP
  have hD : va_D A ([(h, .inr (0, [.int (0 : Int32), .int (0 : Int32), .int (15 : Int32), .int (0 : Int32), .int (0 : Int32), .int (0 : Int32), .ref q_1, .null, .int (0 : Int32), .int (0 : Int32), .int (0 : Int32)]))] ++ [cA I q_1 8 (fun _ => (0 : Int32))] ++ wT I (qT q_2 v_3) T0) := hD
  refine va_putF (D := D) (ci := 0) (v := .ref q_2) (ty := tyX0 7) (C := RX0) (T := TX0) (N := 11) hx hb hts hinX0 tyX0 tyX0_ok nmX0 hown hK hP hD hS 0 rfl rfl 7 (by decide) w_16 (fun _ h9 => h9) rfl hin rfl (tyX0_ok 7 (by decide)) rfl rfl (Nat.le_of_ble_eq_true rfl) dX0_init_51 (fun H locs hP hD hS => ?_)
  have hP : va_P D vwCl ([(h, .inr (0, [.int (0 : Int32), .int (0 : Int32), .int (15 : Int32), .int (0 : Int32), .int (0 : Int32), .int (0 : Int32), .ref q_1, .ref q_2, .int (0 : Int32), .int (0 : Int32), .int (0 : Int32)]))] ++ [cA I q_1 8 (fun _ => (0 : Int32))] ++ wT I (qT q_2 v_3) T0) H := hP
  have hD : va_D A ([(h, .inr (0, [.int (0 : Int32), .int (0 : Int32), .int (15 : Int32), .int (0 : Int32), .int (0 : Int32), .int (0 : Int32), .ref q_1, .ref q_2, .int (0 : Int32), .int (0 : Int32), .int (0 : Int32)]))] ++ [cA I q_1 8 (fun _ => (0 : Int32))] ++ wT I (qT q_2 v_3) T0) := hD
  refine lv_aload_n hx hb dX0_init_54 rfl (lv_at hl 0 rfl) ?_
  refine lv_iconst (v := (-1 : Int32)) hx hb dX0_init_55 (by decide) ?_
  refine va_put (D := D) (ci := 0) (v := .int (-1 : Int32)) (ty := tyX0 8) (C := RX0) (T := TX0) (N := 11) hx hb hts hinX0 tyX0 tyX0_ok nmX0 hown hK hP hD hS 0 rfl rfl 8 (by decide) w_17 (fun _ h9 => h9) rfl (tyX0_ok 8 (by decide)) rfl rfl (Nat.le_of_ble_eq_true rfl) dX0_init_56 (fun H locs hP hD hS => ?_)
  have hP : va_P D vwCl ([(h, .inr (0, [.int (0 : Int32), .int (0 : Int32), .int (15 : Int32), .int (0 : Int32), .int (0 : Int32), .int (0 : Int32), .ref q_1, .ref q_2, .int (-1 : Int32), .int (0 : Int32), .int (0 : Int32)]))] ++ [cA I q_1 8 (fun _ => (0 : Int32))] ++ wT I (qT q_2 v_3) T0) H := hP
  have hD : va_D A ([(h, .inr (0, [.int (0 : Int32), .int (0 : Int32), .int (15 : Int32), .int (0 : Int32), .int (0 : Int32), .int (0 : Int32), .ref q_1, .ref q_2, .int (-1 : Int32), .int (0 : Int32), .int (0 : Int32)]))] ++ [cA I q_1 8 (fun _ => (0 : Int32))] ++ wT I (qT q_2 v_3) T0) := hD
  refine lv_aload_n hx hb dX0_init_59 rfl (lv_at hl 0 rfl) ?_
  refine lv_iconst (v := (0 : Int32)) hx hb dX0_init_60 (by decide) ?_
  refine va_put (D := D) (ci := 0) (v := .int (0 : Int32)) (ty := tyX0 9) (C := RX0) (T := TX0) (N := 11) hx hb hts hinX0 tyX0 tyX0_ok nmX0 hown hK hP hD hS 0 rfl rfl 9 (by decide) w_18 (fun _ h9 => h9) rfl (tyX0_ok 9 (by decide)) rfl rfl (Nat.le_of_ble_eq_true rfl) dX0_init_61 (fun H locs hP hD hS => ?_)
  have hP : va_P D vwCl ([(h, .inr (0, [.int (0 : Int32), .int (0 : Int32), .int (15 : Int32), .int (0 : Int32), .int (0 : Int32), .int (0 : Int32), .ref q_1, .ref q_2, .int (-1 : Int32), .int (0 : Int32), .int (0 : Int32)]))] ++ [cA I q_1 8 (fun _ => (0 : Int32))] ++ wT I (qT q_2 v_3) T0) H := hP
  have hD : va_D A ([(h, .inr (0, [.int (0 : Int32), .int (0 : Int32), .int (15 : Int32), .int (0 : Int32), .int (0 : Int32), .int (0 : Int32), .ref q_1, .ref q_2, .int (-1 : Int32), .int (0 : Int32), .int (0 : Int32)]))] ++ [cA I q_1 8 (fun _ => (0 : Int32))] ++ wT I (qT q_2 v_3) T0) := hD
  refine lv_aload_n hx hb dX0_init_64 rfl (lv_at hl 0 rfl) ?_
  refine lv_iconst (v := (0 : Int32)) hx hb dX0_init_65 (by decide) ?_
  refine va_put (D := D) (ci := 0) (v := .int (0 : Int32)) (ty := tyX0 10) (C := RX0) (T := TX0) (N := 11) hx hb hts hinX0 tyX0 tyX0_ok nmX0 hown hK hP hD hS 0 rfl rfl 10 (by decide) w_19 (fun _ h9 => h9) rfl (tyX0_ok 10 (by decide)) rfl rfl (Nat.le_of_ble_eq_true rfl) dX0_init_66 (fun H locs hP hD hS => ?_)
  have hP : va_P D vwCl ([(h, .inr (0, [.int (0 : Int32), .int (0 : Int32), .int (15 : Int32), .int (0 : Int32), .int (0 : Int32), .int (0 : Int32), .ref q_1, .ref q_2, .int (-1 : Int32), .int (0 : Int32), .int (0 : Int32)]))] ++ [cA I q_1 8 (fun _ => (0 : Int32))] ++ wT I (qT q_2 v_3) T0) H := hP
  have hD : va_D A ([(h, .inr (0, [.int (0 : Int32), .int (0 : Int32), .int (15 : Int32), .int (0 : Int32), .int (0 : Int32), .int (0 : Int32), .ref q_1, .ref q_2, .int (-1 : Int32), .int (0 : Int32), .int (0 : Int32)]))] ++ [cA I q_1 8 (fun _ => (0 : Int32))] ++ wT I (qT q_2 v_3) T0) := hD
  refine W.widen (k := 8) (n := 260) (Nat.le_of_ble_eq_true rfl) (Nat.le_of_ble_eq_true rfl) ?_
  exact xk_vretE (wf := fun v : Nat → Nat => wB I (qB h v) B0) (fun j : Nat => if j = 1 then q_1 else (qT q_2 v_3) j) hx hb hr hlocks hP hK hD hS dX0_init_69

set_option maxHeartbeats 1600000 in
set_option maxRecDepth 100000 in
theorem c_X2_init (l : Launch) (D : va_G) (I : ClassId) (h : Nat) (sz : Nat) : xMvE l D [(I, .int)] yX2_init wsX2_init { frames := 3, cells := 18, slots := 542, locals := 52 } [.ref h] sz ([(h, .inr (2, [.null, .null]))]) ((Nat → Nat) × (Nat → Nat)) (fun v : (Nat → Nat) × (Nat → Nat) => [cX h v.1 v.2] ++ wB I v.1 B0 ++ wB I v.2 B0) 18 542 := by
  refine xk_start (cc := cX2_init) (maxL := 1) (ret := none) (Qf := fun A => va_Qv (fun _ : (Nat → Nat) × (Nat → Nat) => True) (fun v => xB D [(I, .int)] A ((fun v : (Nat → Nat) × (Nat → Nat) => [cX h v.1 v.2] ++ wB I v.1 B0 ++ wB I v.2 B0) v)) A) (by decide) rfl (Nat.le_of_ble_eq_true rfl) ?_
  intro p e s m below meth c A H ls hst hAe hsz hl
  obtain ⟨hx, hb, hr, hts, hown, hlocks, hml, hin, hN, hK, hP, hD, hA, hS⟩ := hst
  have hl : lv_has ls 1 [(0, .ref h)] := hl
  have hP : va_P D vwCl ([(h, .inr (2, [.null, .null]))]) H := hP
  have hinX0 : ∀ w ∈ u_ws RX0 TX0 11, w ∈ wsX2_init := by decide +kernel
  have hinX2 : ∀ w ∈ u_ws RX2 TX2 2, w ∈ wsX2_init := by decide +kernel
  have w_1 := hts (.methodLink RX2 1 objectInit) (by decide +kernel)
  have w_2 := hts (.instanceMethod objectInit) (by decide +kernel)
  have w_3 := hts (.code objectInit ⟨#[0xb1]⟩ 1 none) (by decide +kernel)
  have w_4 := hts (.classLink RX2 7 RX0) (by decide +kernel)
  have w_5 := hts (.instantiable RX0 11) (by decide +kernel)
  have w_6 := hts (.initialized RX0) (by decide +kernel)
  have w_7 := hts (.instanceMethod yX0_init) (by decide +kernel)
  have w_8 := hts (.fieldLink RX2 10 "BridgeBells" "bridge" "LBridgeBells$Bridge;") (by decide +kernel)
  have w_9 := hts (.fieldLink RX2 16 "BridgeBells" "trial" "LBridgeBells$Bridge;") (by decide +kernel)
  refine lv_aload_n hx hb dX2_init_0 rfl (lv_at hl 0 rfl) ?_
  refine W.objInit hx hb hown w_1 w_2 w_3 rfl (by rw [hml]; exact hl.1) rfl dX2_init_1 (Nat.le_of_ble_eq_true rfl) (Nat.le_of_ble_eq_true rfl) ?_
  refine W.eq (g2 := F0 m 4 ls []) rfl ?_
  refine lv_aload_n hx hb dX2_init_4 rfl (lv_at hl 0 rfl) ?_
  refine va_new (ci := 0) (fs := [.int (0 : Int32), .int (0 : Int32), .int (0 : Int32), .int (0 : Int32), .int (0 : Int32), .int (0 : Int32), .null, .null, .int (0 : Int32), .int (0 : Int32), .int (0 : Int32)]) (C := RX0) (T := TX0) (N := 11) hx hb hts hinX0 tyX0 tyX0_ok hown w_4 w_5 w_6 hK hP hD hS hA rfl (fun j hj => by rcases (show j = 0 ∨ j = 1 ∨ j = 2 ∨ j = 3 ∨ j = 4 ∨ j = 5 ∨ j = 6 ∨ j = 7 ∨ j = 8 ∨ j = 9 ∨ j = 10 by omega) with rfl | rfl | rfl | rfl | rfl | rfl | rfl | rfl | rfl | rfl | rfl <;> rfl) (Nat.le_of_ble_eq_true rfl) (Nat.le_of_ble_eq_true rfl) dX2_init_5 (fun q_1 H hP hD hS => ?_)
  have hP : va_P D vwCl ([(h, .inr (2, [.null, .null]))] ++ [(q_1, .inr (0, [.int (0 : Int32), .int (0 : Int32), .int (0 : Int32), .int (0 : Int32), .int (0 : Int32), .int (0 : Int32), .null, .null, .int (0 : Int32), .int (0 : Int32), .int (0 : Int32)]))]) H := hP
  have hD : va_D A ([(h, .inr (2, [.null, .null]))] ++ [(q_1, .inr (0, [.int (0 : Int32), .int (0 : Int32), .int (0 : Int32), .int (0 : Int32), .int (0 : Int32), .int (0 : Int32), .null, .null, .int (0 : Int32), .int (0 : Int32), .int (0 : Int32)]))]) := hD
  refine lv_dup hx hb dX2_init_8 rfl ?_
  refine xk_callvE ([(h, .inr (2, [.null, .null]))]) [1] [0] hP hD hS hA (va_runIN (host := "BridgeBells") (As := []) (rest := [.ref q_1, .ref h]) ⟨hx, hb, hml, hown, hts⟩ (c_X0_init l D I q_1 H.size) ⟨va_cnB 0 hts gX2_init_X0_init_n9 rfl rfl rfl (hN.at 0 rfl) w_6 (by decide +kernel) ⟨Nat.le_of_ble_eq_true rfl, Nat.le_of_ble_eq_true rfl⟩, rfl, w_7⟩ (xk_pre (wc := [(q_1, .inr (0, [.int (0 : Int32), .int (0 : Int32), .int (0 : Int32), .int (0 : Int32), .int (0 : Int32), .int (0 : Int32), .null, .null, .int (0 : Int32), .int (0 : Int32), .int (0 : Int32)]))]) hN hP hK hD [1] rfl rfl) rfl rfl hl.1 rfl (lv_room (Nat.le_of_ble_eq_true rfl)) dX2_init_9 ⟨Nat.le_of_ble_eq_true rfl, Nat.le_of_ble_eq_true rfl⟩) rfl rfl rfl (by decide) (fun v_2 H locs hP hD hS => ?_)
  have hP : va_P D vwCl ([(h, .inr (2, [.null, .null]))] ++ wB I (qB q_1 v_2) B0) H := hP
  have hD : va_D A ([(h, .inr (2, [.null, .null]))] ++ wB I (qB q_1 v_2) B0) := hD
  refine va_putF (D := D) (ci := 2) (v := .ref q_1) (ty := tyX2 0) (C := RX2) (T := TX2) (N := 2) hx hb hts hinX2 tyX2 tyX2_ok nmX2 hown hK hP hD hS 0 rfl rfl 0 (by decide) w_8 (fun _ h9 => h9) rfl hin rfl (tyX2_ok 0 (by decide)) rfl rfl (Nat.le_of_ble_eq_true rfl) dX2_init_12 (fun H locs hP hD hS => ?_)
  have hP : va_P D vwCl ([(h, .inr (2, [.ref q_1, .null]))] ++ wB I (qB q_1 v_2) B0) H := hP
  have hD : va_D A ([(h, .inr (2, [.ref q_1, .null]))] ++ wB I (qB q_1 v_2) B0) := hD
  refine lv_aload_n hx hb dX2_init_15 rfl (lv_at hl 0 rfl) ?_
  refine va_new (ci := 0) (fs := [.int (0 : Int32), .int (0 : Int32), .int (0 : Int32), .int (0 : Int32), .int (0 : Int32), .int (0 : Int32), .null, .null, .int (0 : Int32), .int (0 : Int32), .int (0 : Int32)]) (C := RX0) (T := TX0) (N := 11) hx hb hts hinX0 tyX0 tyX0_ok hown w_4 w_5 w_6 hK hP hD hS hA rfl (fun j hj => by rcases (show j = 0 ∨ j = 1 ∨ j = 2 ∨ j = 3 ∨ j = 4 ∨ j = 5 ∨ j = 6 ∨ j = 7 ∨ j = 8 ∨ j = 9 ∨ j = 10 by omega) with rfl | rfl | rfl | rfl | rfl | rfl | rfl | rfl | rfl | rfl | rfl <;> rfl) (Nat.le_of_ble_eq_true rfl) (Nat.le_of_ble_eq_true rfl) dX2_init_16 (fun q_3 H hP hD hS => ?_)
  have hP : va_P D vwCl ([(h, .inr (2, [.ref q_1, .null]))] ++ wB I (qB q_1 v_2) B0 ++ [(q_3, .inr (0, [.int (0 : Int32), .int (0 : Int32), .int (0 : Int32), .int (0 : Int32), .int (0 : Int32), .int (0 : Int32), .null, .null, .int (0 : Int32), .int (0 : Int32), .int (0 : Int32)]))]) H := hP
  have hD : va_D A ([(h, .inr (2, [.ref q_1, .null]))] ++ wB I (qB q_1 v_2) B0 ++ [(q_3, .inr (0, [.int (0 : Int32), .int (0 : Int32), .int (0 : Int32), .int (0 : Int32), .int (0 : Int32), .int (0 : Int32), .null, .null, .int (0 : Int32), .int (0 : Int32), .int (0 : Int32)]))]) := hD
  refine lv_dup hx hb dX2_init_19 rfl ?_
  refine xk_callvE ([(h, .inr (2, [.ref q_1, .null])), cXB (qB q_1 v_2) B0.1, cA I ((qB q_1 v_2) 1) 8 B0.2.1, cXT (qB q_1 v_2) B0.2.2.1, cA I ((qB q_1 v_2) 3) 40 (B0.2.2.2 0), cA I ((qB q_1 v_2) 4) 40 (B0.2.2.2 1), cA I ((qB q_1 v_2) 5) 40 (B0.2.2.2 2), cA I ((qB q_1 v_2) 6) 40 (B0.2.2.2 3), cA I ((qB q_1 v_2) 7) 40 (B0.2.2.2 4), cA I ((qB q_1 v_2) 8) 40 (B0.2.2.2 5)]) [10] [0, 1, 2, 3, 4, 5, 6, 7, 8, 9] hP hD hS hA (va_runIN (host := "BridgeBells") (As := []) (rest := [.ref q_3, .ref h]) ⟨hx, hb, hml, hown, hts⟩ (c_X0_init l D I q_3 H.size) ⟨va_cnB 0 hts gX2_init_X0_init_n9 rfl rfl rfl (hN.at 0 rfl) w_6 (by decide +kernel) ⟨Nat.le_of_ble_eq_true rfl, Nat.le_of_ble_eq_true rfl⟩, rfl, w_7⟩ (xk_pre (wc := [(q_3, .inr (0, [.int (0 : Int32), .int (0 : Int32), .int (0 : Int32), .int (0 : Int32), .int (0 : Int32), .int (0 : Int32), .null, .null, .int (0 : Int32), .int (0 : Int32), .int (0 : Int32)]))]) hN hP hK hD [10] rfl rfl) rfl rfl hl.1 rfl (lv_room (Nat.le_of_ble_eq_true rfl)) dX2_init_20 ⟨Nat.le_of_ble_eq_true rfl, Nat.le_of_ble_eq_true rfl⟩) rfl rfl rfl (by decide) (fun v_4 H locs hP hD hS => ?_)
  have hP : va_P D vwCl ([(h, .inr (2, [.ref q_1, .null]))] ++ wB I (qB q_1 v_2) B0 ++ wB I (qB q_3 v_4) B0) H := hP
  have hD : va_D A ([(h, .inr (2, [.ref q_1, .null]))] ++ wB I (qB q_1 v_2) B0 ++ wB I (qB q_3 v_4) B0) := hD
  refine va_putF (D := D) (ci := 2) (v := .ref q_3) (ty := tyX2 1) (C := RX2) (T := TX2) (N := 2) hx hb hts hinX2 tyX2 tyX2_ok nmX2 hown hK hP hD hS 0 rfl rfl 1 (by decide) w_9 (fun _ h9 => h9) rfl hin rfl (tyX2_ok 1 (by decide)) rfl rfl (Nat.le_of_ble_eq_true rfl) dX2_init_23 (fun H locs hP hD hS => ?_)
  have hP : va_P D vwCl ([(h, .inr (2, [.ref q_1, .ref q_3]))] ++ wB I (qB q_1 v_2) B0 ++ wB I (qB q_3 v_4) B0) H := hP
  have hD : va_D A ([(h, .inr (2, [.ref q_1, .ref q_3]))] ++ wB I (qB q_1 v_2) B0 ++ wB I (qB q_3 v_4) B0) := hD
  refine W.widen (k := 18) (n := 542) (Nat.le_of_ble_eq_true rfl) (Nat.le_of_ble_eq_true rfl) ?_
  exact xk_vretE (wf := fun v : (Nat → Nat) × (Nat → Nat) => [cX h v.1 v.2] ++ wB I v.1 B0 ++ wB I v.2 B0) (qB q_1 v_2, qB q_3 v_4) hx hb hr hlocks hP hK hD hS dX2_init_26
