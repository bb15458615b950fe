/-! OWN KIT 6: calls of the class by the law: the class' cells in front, the rest behind -/
theorem w_left {wc wr : va_W} {k : Nat} {q : Nat × va_E} (h : wc[k]? = some q) : (wc ++ wr)[k]? = some q := by
  rw [List.getElem?_append_left (List.getElem?_eq_some_iff.mp h).1]
  exact h
theorem w_right {wc wr : va_W} {k : Nat} {q : Nat × va_E} (h : wr[k]? = some q) : (wc ++ wr)[wc.length + k]? = some q := by
  rw [List.getElem?_append_right (Nat.le_add_right _ _), Nat.add_sub_cancel_left]
  exact h
theorem met_of_vx {l : Launch} {y : MethodName} {ws : List Cond} {rm : Room} {Pc : Array Value → State → Prop} {Qc : Array Value → State → Outcome → State → Prop} {XC : String → State → State → Prop} {mc ms : Nat} {free : Addr → Prop} (h : vx_Met l y ws rm Pc Qc XC mc ms free) (hX : ∀ E st t, ¬ XC E st t) : Met l y ws rm Pc Qc mc ms free := by
  intro p e ha hc hk s m args below hf happ hp hk'
  obtain ⟨n, o, h1, h2, h3, h4⟩ := h p e ha hc hk s m args below hf happ hp hk'
  refine ⟨n, o, h1, h2, h3, ?_⟩
  rcases h4 with h4 | ⟨q, -, E, ce, L, hx, -⟩
  · exact h4
  · exact absurd hx (hX _ _ _)
theorem met_post {l : Launch} {y : MethodName} {ws : List Cond} {rm : Room} {Pc : Array Value → State → Prop} {Qc Qc' : Array Value → State → Outcome → State → Prop} {mc ms : Nat} {free : Addr → Prop} (h : Met l y ws rm Pc Qc mc ms free) (hQ : ∀ a s o t, Qc a s o t → Qc' a s o t) : Met l y ws rm Pc Qc' mc ms free := by
  intro p e ha hc hk s m args below hf happ hp hk'
  obtain ⟨n, o, h1, h2, h3, h4, h5⟩ := h p e ha hc hk s m args below hf happ hp hk'
  exact ⟨n, o, h1, h2, h3, hQ _ _ _ _ h4, h5⟩
/-- a method that throws, where it doesn't -/
theorem met_of_xMX {l : Launch} {D : va_G} {tys : List (ClassId × FieldType)} {y : MethodName} {ws : List Cond} {rm : Room} {av : List Value} {sz : Nat} {wc : va_W} {V : Type} {nm : List (String × Int32)} {R R' kx : Int32} {wf : V → va_W} {mc ms : Nat} (h : xMX l D tys y ws rm av sz wc V nm R kx wf mc ms) (hk : kx = 0) (hn : ∀ E, (E, (0 : Int32)) ∉ nm) (hR : R = R') :
    Met l y ws rm (xPcX D tys av sz wc) (xQiE D tys (va_A wc sz) V R' wf) mc ms (va_A wc sz) := by
  subst hk
  subst hR
  refine met_post (met_of_vx h (fun E st t hx => ?_)) (fun a s o t hq => ?_)
  · obtain ⟨u, -, hb, -⟩ := hx
    exact hn E hb.1
  · obtain ⟨⟨r, u, h1, h2, h3⟩, h4⟩ := hq
    exact ⟨⟨r, u, h1, h2.2, h3⟩, h4⟩
theorem nm1 (a : String) : ∀ E, (E, (0 : Int32)) ∉ [(a, (1 : Int32))] := by
  intro E h
  simp only [List.mem_cons, List.not_mem_nil, or_false, Prod.mk.injEq] at h
  exact absurd h.2 (by decide)
theorem nm2 (a b : String) : ∀ E, (E, (0 : Int32)) ∉ [(a, (1 : Int32)), (b, (2 : Int32))] := by
  intro E h
  simp only [List.mem_cons, List.not_mem_nil, or_false, Prod.mk.injEq] at h
  rcases h with h | h
  · exact absurd h.2 (by decide)
  · exact absurd h.2 (by decide)
section XK6
abbrev WX (I : ClassId) (h : Nat) (qb qt : Nat → Nat) (b z : XBr) : va_W := [cX h qb qt] ++ wB I qb b ++ wB I qt z
variable {p : Program} {l : Launch} {e : Env} {R : Room} {s : State} {m : MethodId} {args : Array Value} {below : List Frame} {meth : Method} {c : Code} {H : Heap} {locs : List Loc} {cells slots : Nat} {Q : State → Prop}
variable {cc : ByteArray} {pc : Nat} {ls : Array Slot} {rest st0 : List Value} {D : va_G} {tys : List (ClassId × FieldType)} {A : Nat → Prop} {H0 : Heap}
theorem xr_free {wc wr : va_W} (hD : va_D A (wc ++ wr)) (hS : va_S A H0 H locs) (hA : ∀ q, H0.size ≤ q → A q) : ∀ q, va_A wc H.size q → A q := by
  intro q h
  rcases h with ⟨k, e, h⟩ | h
  · exact hD.2 k (q, e) (w_left h)
  · exact hA q (Nat.le_trans hS.1 h)
theorem xr_joined {wc wr w1 : va_W} {H1 : Heap} {t : State} (hP : va_P D vwCl (wc ++ wr) H) (hD : va_D A (wc ++ wr)) (hS : va_S A H0 H locs) (hA : ∀ q, H0.size ≤ q → A q) (ht : t.heap = H1) (hB : xB D tys (va_A wc H.size) w1 t) (hk : ∀ q : Nat, q < H.size → ¬ va_A wc H.size q → H1[q]? = H[q]?) : va_P D vwCl (w1 ++ wr) H1 ∧ va_D A (w1 ++ wr) := by
  obtain ⟨hP1, hK1, hD1⟩ := hB
  rw [ht] at hP1
  have hF := xr_free hD hS hA
  have hn : ∀ (k : Nat) (q : Nat × va_E), wr[k]? = some q → q.1 < H.size ∧ ¬ va_A wc H.size q.1 := fun k q hq => by
    have h1 := w_right (wc := wc) hq
    have h2 := (hP _ q h1).lt
    refine ⟨h2, fun h => ?_⟩
    rcases h with ⟨j, e, hj⟩ | h
    · have hjl := (List.getElem?_eq_some_iff.mp hj).1
      have h3 := hD.1 _ _ _ _ h1 (w_left (wr := wr) hj) rfl
      omega
    · omega
  refine ⟨hP1.app (fun k q hq => (hP _ q (w_right hq)).kept (hk q.1 (hn k q hq).1 (hn k q hq).2)), (hD1.weaken (fun _ _ _ h => hF _ h)).app ⟨fun i j p q hi hj h => ?_, fun k q hq => hD.2 _ q (w_right hq)⟩ (fun i j p q hi hj e => (hn j q hj).2 (e ▸ hD1.2 i p hi))⟩
  have := hD.1 _ _ _ _ (w_right (wc := wc) hi) (w_right (wc := wc) hj) h
  omega
theorem xr_pre {av : List Value} {wc wr : va_W} (hN : xNw s) (hP : va_P D vwCl (wc ++ wr) H) (hK : va_K D vwCl tys s) (hD : va_D A (wc ++ wr)) : PreS s H (xPc D tys av H.size wc) av :=
  ⟨fun a U g mk q => by
    obtain ⟨q0, q1, qP, qK, qD, qN⟩ := q
    exact ⟨q0, q1, qP, va_K.moved (u := U) (U := U.calling g mk a) (Vm.Alike.refl U.vm) qK, qD, xNw.same (u := U) (U := U.calling g mk a) rfl qN⟩,
   fun U hU hW => ⟨rfl, by rw [hU], by rw [hU]; exact fun k q hk => hP k q (w_left hk), va_K.moved hW.alike hK, ⟨fun i j p q hi hj h => hD.1 i j p q (w_left hi) (w_left hj) h, fun _ _ _ => trivial⟩, hN.warm hW⟩⟩
theorem xr_preV {av : List Value} {wc wr : va_W} {a ci : Nat} {q : vw_C} {fs : List Value} (hN : xNw s) (hP : va_P D vwCl (wc ++ wr) H) (hK : va_K D vwCl tys s) (hD : va_D A (wc ++ wr)) (he : (wc ++ wr)[0]? = some (a, .inr (ci, fs))) (hc : vwCl[ci]? = some q) : PreV s H q.1 a (xPc D tys (.ref a :: av) H.size wc) av :=
  have h := xr_pre (av := .ref a :: av) hN hP hK hD
  ⟨h.1, va_recv hK hP hc he, h.2⟩
theorem xr_preX {av : List Value} {wc wr : va_W} (hN : xNw s) (hXX : xX A s s.heap) (hS : va_S A s.heap H locs) (hA : ∀ q, s.heap.size ≤ q → A q) (hP : va_P D vwCl (wc ++ wr) H) (hK : va_K D vwCl tys s) (hD : va_D A (wc ++ wr)) : PreS s H (xPcX D tys av H.size wc) av :=
  ⟨fun a U g mk q => by
    obtain ⟨q0, q1, qP, qK, qD, qN, qX⟩ := q
    exact ⟨q0, q1, qP, va_K.moved (u := U) (U := U.calling g mk a) (Vm.Alike.refl U.vm) qK, qD, xNw.same (u := U) (U := U.calling g mk a) rfl qN, xX.same (u := U) (U := U.calling g mk a) rfl qX⟩,
   fun U hU hW => ⟨rfl, by rw [hU], by rw [hU]; exact fun k q hk => hP k q (w_left hk), va_K.moved hW.alike hK, ⟨fun i j p q hi hj h => hD.1 i j p q (w_left hi) (w_left hj) h, fun _ _ _ => trivial⟩, hN.warm hW, by
    rw [hU]
    exact ((hXX.kept hS.2.1).narrow (xr_free hD hS hA)).warm hW⟩⟩
theorem xr_preVX {av : List Value} {wc wr : va_W} {a ci : Nat} {q : vw_C} {fs : List Value} (hN : xNw s) (hXX : xX A s s.heap) (hS : va_S A s.heap H locs) (hA : ∀ q, s.heap.size ≤ q → A q) (hP : va_P D vwCl (wc ++ wr) H) (hK : va_K D vwCl tys s) (hD : va_D A (wc ++ wr)) (he : (wc ++ wr)[0]? = some (a, .inr (ci, fs))) (hc : vwCl[ci]? = some q) : PreV s H q.1 a (xPcX D tys (.ref a :: av) H.size wc) av :=
  have h := xr_preX (av := .ref a :: av) hN hXX hS hA hP hK hD
  ⟨h.1, va_recv hK hP hc he, h.2⟩
theorem xr_calliE {V : Type} {mc ms : Nat} {a9 : Array Value} {Rv : Int32} {wc wr : va_W} {w1 : V → va_W} (hP : va_P D vwCl (wc ++ wr) H) (hD : va_D A (wc ++ wr)) (hS : va_S A H0 H locs) (hA : ∀ q, H0.size ≤ q → A q)
    (hr : va_Run p l e R s m args below meth c H locs cells slots mc ms (F0 m pc ls st0) rest (xQiE D tys (va_A wc H.size) V Rv w1 a9) (va_A wc H.size))
    (kk : ∀ (v : V) (H1 : Heap) (locs1 : List Loc), va_P D vwCl (w1 v ++ wr) H1 → va_D A (w1 v ++ wr) → va_S A H0 H1 locs1 → W p l e R s m args below meth c H1 locs1 (cells + mc) (slots + ms) Q (F0 m (pc + 3) ls (.int Rv :: rest))) : W p l e R s m args below meth c H locs cells slots Q (F0 m pc ls st0) := by
  have hF := xr_free hD hS hA
  refine va_calli hr hS (fun q _ h => hF q h) hF (fun r u t H1 locs1 ht hvm hw hB hz1 hk1 hS1 => ?_)
  have hw : r = Rv := hw
  subst hw
  obtain ⟨h1, h2⟩ := xr_joined hP hD hS hA ht hB hk1
  exact kk u H1 locs1 h1 h2 hS1
theorem xr_calli {mc ms : Nat} {a9 : Array Value} {Rv R' : Int32} {wc wr w1 : va_W} (hR : Rv = R') (hP : va_P D vwCl (wc ++ wr) H) (hD : va_D A (wc ++ wr)) (hS : va_S A H0 H locs) (hA : ∀ q, H0.size ≤ q → A q)
    (hr : va_Run p l e R s m args below meth c H locs cells slots mc ms (F0 m pc ls st0) rest (xQi D tys (va_A wc H.size) Rv w1 a9) (va_A wc H.size))
    (kk : ∀ (H1 : Heap) (locs1 : List Loc), va_P D vwCl (w1 ++ wr) H1 → va_D A (w1 ++ wr) → va_S A H0 H1 locs1 → W p l e R s m args below meth c H1 locs1 (cells + mc) (slots + ms) Q (F0 m (pc + 3) ls (.int R' :: rest))) : W p l e R s m args below meth c H locs cells slots Q (F0 m pc ls st0) := by
  subst hR
  have hF := xr_free hD hS hA
  refine va_calli hr hS (fun q _ h => hF q h) hF (fun r u t H1 locs1 ht hvm hw hB hz1 hk1 hS1 => ?_)
  have hw : r = Rv := hw
  subst hw
  obtain ⟨h1, h2⟩ := xr_joined hP hD hS hA ht hB hk1
  exact kk H1 locs1 h1 h2 hS1
theorem xr_calll {mc ms : Nat} {a9 : Array Value} {Rv : Int64} {wc wr w1 : va_W} (hP : va_P D vwCl (wc ++ wr) H) (hD : va_D A (wc ++ wr)) (hS : va_S A H0 H locs) (hA : ∀ q, H0.size ≤ q → A q)
    (hr : va_Run p l e R s m args below meth c H locs cells slots mc ms (F0 m pc ls st0) rest (xQl D tys (va_A wc H.size) Rv w1 a9) (va_A wc H.size))
    (kk : ∀ (H1 : Heap) (locs1 : List Loc), va_P D vwCl (w1 ++ wr) H1 → va_D A (w1 ++ wr) → va_S A H0 H1 locs1 → W p l e R s m args below meth c H1 locs1 (cells + mc) (slots + ms) Q (F0 m (pc + 3) ls (.long Rv :: rest))) : W p l e R s m args below meth c H locs cells slots Q (F0 m pc ls st0) := by
  have hF := xr_free hD hS hA
  refine va_calll hr hS (fun q _ h => hF q h) hF (fun r u t H1 locs1 ht hvm hw hB hz1 hk1 hS1 => ?_)
  have hw : r = Rv := hw
  subst hw
  obtain ⟨h1, h2⟩ := xr_joined hP hD hS hA ht hB hk1
  exact kk H1 locs1 h1 h2 hS1
theorem xr_calld {mc ms : Nat} {a9 : Array Value} {Rv : UInt64} {wc wr w1 : va_W} (hP : va_P D vwCl (wc ++ wr) H) (hD : va_D A (wc ++ wr)) (hS : va_S A H0 H locs) (hA : ∀ q, H0.size ≤ q → A q)
    (hr : va_Run p l e R s m args below meth c H locs cells slots mc ms (F0 m pc ls st0) rest (xQd D tys (va_A wc H.size) Rv w1 a9) (va_A wc H.size))
    (kk : ∀ (H1 : Heap) (locs1 : List Loc), va_P D vwCl (w1 ++ wr) H1 → va_D A (w1 ++ wr) → va_S A H0 H1 locs1 → W p l e R s m args below meth c H1 locs1 (cells + mc) (slots + ms) Q (F0 m (pc + 3) ls (.double Rv :: rest))) : W p l e R s m args below meth c H locs cells slots Q (F0 m pc ls st0) := by
  have hF := xr_free hD hS hA
  refine va_calld hr hS (fun q _ h => hF q h) hF (fun r u t H1 locs1 ht hvm hw hB hz1 hk1 hS1 => ?_)
  have hw : r = Rv := hw
  subst hw
  obtain ⟨h1, h2⟩ := xr_joined hP hD hS hA ht hB hk1
  exact kk H1 locs1 h1 h2 hS1
/-- below: a number below n -/
def r_L_below (v n : Int32) : Int32 := (v &&& 2147483647) - (v &&& 2147483647) / n * n
theorem c_L_below (l : Launch) (D : va_G) (I : ClassId) (sz : Nat) (v n : Int32) (hn : ¬ n = 0) : xMi l D [(I, .int)] yL_below wsL_below { frames := 0, cells := 0, slots := 0, locals := 0 } [.int v, .int n] sz [] (r_L_below v n) [] 0 0 := by
  refine xk_start (cc := cL_below) (maxL := 2) (ret := (some .int)) (Qf := fun A => xQi D [(I, .int)] A (r_L_below v n) []) (by decide) rfl (Nat.le_of_ble_eq_true rfl) ?_
  intro p e s m below meth c A H ls hst hAe hsz hl
  obtain ⟨hx, hb, hr, hts, hown, hlocks, hml, hin, hN, hK, hP, hD, hA, hS⟩ := hst
  have hl : lv_has ls 2 [(0, .int v), (1, .int n)] := hl
  refine lv_iload_n hx hb dL_below_0 rfl (lv_at hl 0 rfl) ?_
  refine lv_ldc hx hb hown (hts (.constant RL 7 (2147483647)) (by decide +kernel)) dL_below_1 ?_
  refine lv_iand hx hb dL_below_3 ?_
  refine lv_iload_n hx hb dL_below_4 rfl (lv_at hl 1 rfl) ?_
  refine lv_irem hx hb dL_below_5 hn ?_
  exact xk_iret (wf := fun _ : Unit => ([] : va_W)) (u := ()) hx hb hr rfl hlocks hP hK hD hS rfl rfl dL_below_6
theorem and31 (v : Int32) : 0 ≤ (v &&& 2147483647).toInt := by
  have h2 : (v &&& (2147483647 : Int32)).toBitVec.msb = false := by
    rw [Int32.toBitVec_and, BitVec.msb_and]
    have h9 : (2147483647 : Int32).toBitVec.msb = false := by decide
    rw [h9, Bool.and_false]
  rw [BitVec.msb_eq_toInt] at h2
  have h3 := of_decide_eq_false h2
  show 0 ≤ (v &&& (2147483647 : Int32)).toBitVec.toInt
  omega
theorem below_nI (v n : Int32) (N : Nat) (hn : n = nI N) (h0 : 0 < N) (h1 : N < 1000) : ∃ j : Nat, j < N ∧ r_L_below v n = nI j := by
  have h3 := and31 v
  have hb := Int32.toInt_lt (v &&& 2147483647)
  have hb2 : (2 : Int) ^ 31 = 2147483648 := by decide
  unfold r_L_below
  generalize v &&& 2147483647 = x at h3 hb
  have e : n.toInt = (N : Int) := by rw [hn]; exact nI_toInt (by omega)
  have hm1 : ¬ n = -1 := by
    intro q
    rw [q] at e
    have : (-1 : Int32).toInt = -1 := by decide
    omega
  have hd : (x / n).toInt = x.toInt / (N : Int) := by
    rw [Int32.toInt_div_of_ne_right _ _ hm1, e, Int.tdiv_eq_ediv_of_nonneg h3]
  have hNp : (0 : Int) < N := by omega
  have hq0 : 0 ≤ x.toInt / (N : Int) := Int.ediv_nonneg h3 (by omega)
  have hme := Int.emod_def x.toInt (N : Int)
  have hm0 := Int.emod_nonneg x.toInt (show (N : Int) ≠ 0 by omega)
  have hm2 := Int.emod_lt_of_pos x.toInt hNp
  have hmul : (x / n * n).toInt = x.toInt / (N : Int) * (N : Int) := by
    rw [Int32.toInt_mul, hd, e]
    have : x.toInt / (N : Int) * (N : Int) = (N : Int) * (x.toInt / (N : Int)) := Int.mul_comm _ _
    exact i_bm (by omega) (by omega)
  have hsub : (x - x / n * n).toInt = x.toInt % (N : Int) := by
    have : x.toInt / (N : Int) * (N : Int) = (N : Int) * (x.toInt / (N : Int)) := Int.mul_comm _ _
    rw [toInt_subS (by rw [hmul]; omega) (by rw [hmul]; omega), hmul]
    omega
  refine ⟨(x.toInt % (N : Int)).toNat, by omega, Int32.toInt_inj.mp ?_⟩
  rw [hsub, nI_toInt (by omega)]
  omega
/-- one of the script's numbers, or made up behind its end: any number -/
theorem c_L_cell (l : Launch) (b0 L : Nat) (sc : Nat → Int32) (k : Int32) (hk : 0 ≤ k.toInt) (hL : L ≤ 260) (sz : Nat) : Met l yL_cell wsL_cell { frames := 0, cells := 0, slots := 0, locals := 0 } (va_Pc [.ref b0, .int k] (fun U => U.heap.size = sz ∧ va_X b0 L sc U U.heap)) (va_Qi (fun (_ : Int32) (_ : Unit) => True) (fun _ _ => True) (fun q => sz ≤ q)) 0 0 (fun q => sz ≤ q) := by
  refine Met.ofW (cc := cL_cell) (maxL := 2) (ret := some .int) (by decide) rfl ?_
  intro p e s m args below meth c s₁ B hml hv
  obtain ⟨rfl, hsz, hX⟩ := hv
  subst hsz
  have hts := atoms_spec (ws := wsL_cell) B.pre
  have hown := findClass_of_methodNamed B.named
  have hx := B.exec
  have hb := B.bytes
  have hr := B.returns
  have hlocks := B.notSynchronized
  have hl := lv_entry [.ref b0, .int k] (n := 2) (Nat.le_of_ble_eq_true rfl)
  rw [lg_entry_eq]
  generalize (lg_sl ([.ref b0, .int k]) ++ List.replicate (2 - (lg_sl ([.ref b0, .int k])).length) Slot.unset).toArray = ls at hl ⊢
  have hl : lv_has ls 2 [(0, .ref b0), (1, .int k)] := hl
  have hbl : b0 < s.heap.size := by
    obtain ⟨scr, h1, -⟩ := hX
    exact (Array.getElem?_eq_some_iff.mp h1).1
  have hS : va_S (fun q => s.heap.size ≤ q) s.heap s.heap [] := va_S.rf
  have hbA : ¬ (fun q => s.heap.size ≤ q) b0 := Nat.not_le.mpr hbl
  refine lv_iload_n hx hb dL_cell_0 rfl (lv_at hl 1 rfl) ?_
  refine lv_aload_n hx hb dL_cell_1 rfl (lv_at hl 0 rfl) ?_
  refine va_slen hx hb hX hbl hbA hS dL_cell_2 ?_
  refine lv_icmp_ge (tgt := 12) hx hb dL_cell_3 (by decide) (fun c_1 => ?_) (fun c_1 => ?_)
  · refine lv_ldc hx hb hown (hts (.constant RL 8 (790386105)) (by decide +kernel)) dL_cell_12 ?_
    refine lv_iload_n hx hb dL_cell_14 rfl (lv_at hl 1 rfl) ?_
    refine lv_iconst (v := (3 : Int32)) hx hb dL_cell_15 (by decide) ?_
    refine lv_iadd hx hb dL_cell_16 ?_
    refine lv_imul hx hb dL_cell_17 ?_
    exact W.zret hx hb hr rfl (fun t ht hW => ⟨⟨_, (), rfl, trivial, trivial⟩, hS.F ht⟩) hS.2.2 dL_cell_18 hlocks
  · refine lv_aload_n hx hb dL_cell_6 rfl (lv_at hl 0 rfl) ?_
    refine lv_iload_n hx hb dL_cell_7 rfl (lv_at hl 1 rfl) ?_
    refine va_sld hx hb hX hbl hbA hS (fun h => ?_) dL_cell_8 ?_
    · rcases h with h | h
      · rw [Int32.lt_iff_toInt_lt] at h
        have : (0 : Int32).toInt = 0 := by decide
        omega
      · apply c_1
        rw [Int32.le_iff_toInt_le]
        show (nI L).toInt ≤ _
        rw [nI_toInt (by omega)]
        rw [clampInt] at h
        omega
    refine lv_goto (tgt := 18) hx hb dL_cell_9 (by decide) ?_
    exact W.zret hx hb hr rfl (fun t ht hW => ⟨⟨_, (), rfl, trivial, trivial⟩, hS.F ht⟩) hS.2.2 dL_cell_18 hlocks
/-- a cell, called: the heap stays -/
theorem xr_cell {ws : va_W} {a9 : Array Value} (hP : va_P D vwCl ws H) (hD : va_D A ws) (hS : va_S A H0 H locs) (hA : ∀ q, H0.size ≤ q → A q)
    (hr : va_Run p l e R s m args below meth c H locs cells slots 0 0 (F0 m pc ls st0) rest (va_Qi (fun (_ : Int32) (_ : Unit) => True) (fun _ _ => True) (fun q => H.size ≤ q) a9) (fun q => H.size ≤ q))
    (kk : ∀ (v : Int32) (H1 : Heap) (locs1 : List Loc), va_P D vwCl ws H1 → va_D A ws → va_S A H0 H1 locs1 → W p l e R s m args below meth c H1 locs1 (cells + 0) (slots + 0) Q (F0 m (pc + 3) ls (.int v :: rest))) : W p l e R s m args below meth c H locs cells slots Q (F0 m pc ls st0) := by
  refine va_calli hr hS (fun q _ h => hA q (Nat.le_trans hS.1 h)) (fun q h => hA q (Nat.le_trans hS.1 h)) (fun r u t H1 locs1 ht hvm hw hB hz1 hk1 hS1 => ?_)
  exact kk r H1 locs1 (hP.kept (fun k q hq => hk1 q.1 (hP k q hq).lt (Nat.not_le.mpr (hP k q hq).lt))) hD hS1
theorem xr_preC {b0 L : Nat} {sc : Nat → Int32} {k : Int32} (hX : va_X b0 L sc s s.heap) (hbl : b0 < s.heap.size) (hbA : ¬ A b0) (hS : va_S A s.heap H locs) : PreS s H (va_Pc [.ref b0, .int k] (fun U => U.heap.size = H.size ∧ va_X b0 L sc U U.heap)) [.ref b0, .int k] :=
  ⟨fun a U g mk q => by
    obtain ⟨q0, q1, q2⟩ := q
    exact ⟨q0, q1, va_X.moved (u := U) (U := U.calling g mk a) (Vm.Alike.refl U.vm) q2⟩,
   fun U hU hW => ⟨rfl, by rw [hU], by
    rw [hU]
    exact va_X.moved hW.alike (hX.kept (hS.2.1 b0 hbl hbA))⟩⟩
/-- reading a row of rows -/
theorem va_aldA {a : Nat} {ws : va_W} (hexec : p.tables.exec = Jvm.exec) (hb : c.code = cc) (hK : va_K D vwCl tys s) (hP : va_P D vwCl ws H) (q0 t0 : Nat) {cA : ClassId} {t : FieldType} {n : Nat} {f : Nat → Option Nat} (ha : ws[q0]? = some (a, .inl (cA, n, .inr (.inr (.inr (.inr f)))))) (ht : tys[t0]? = some (cA, .array t)) {i : Int32} (hin : vp_in i n) {x : Nat} (hf : f i.toNatClampNeg = some x) (hdg : decode cc pc = .ok (.aaload, 1))
    (kk : W p l e R s m args below meth c H locs cells slots Q (F0 m (pc + 1) ls (.ref x :: rest))) : W p l e R s m args below meth c H locs cells slots Q (F0 m pc ls (.int i :: .ref a :: rest)) := by
  have hlt : i.toNatClampNeg < n := Nat.not_le.mp fun q => hin (Or.inr q)
  have kk : W p l e R s m args below meth c H locs cells slots Q (F0 m (pc + 1) ls (va_rf (f i.toNatClampNeg) :: rest)) := by rw [hf]; exact kk
  exact W.aald (v := va_rf (f i.toNatClampNeg)) (ty := .array t) hexec hb (hP q0 _ ha) ((hK.2 t0 _ ht).1 n (fun j => va_rf (f j))) rfl (fun q => by cases q) (by show ¬ (i < 0 ∨ (arrV _ _ _).slots.size ≤ _); rw [arrV_size]; exact hin) (by show (arrV _ _ _).slots[_]? = _; rw [arrV_read _ _ hlt]) rfl rfl hdg kk
end XK6
