/-! OWN KIT: contracts whose answer and world are functions; calls and ends in one row each -/
section XK
abbrev nwl : List Cond := [.methodLinkNest RX2 9 yX0_init "BridgeBells", .methodLinkNest RX0 36 yX1_init "BridgeBells"]
def xNw (U : State) : Prop := ∀ w ∈ nwl, va_Nw w U
theorem xN_on : ∀ w ∈ nwl, w.onTables = true := by decide +kernel
theorem xN_tbl : ∀ w ∈ nwl, w ∈ lw_tbl := by decide +kernel
theorem xNw.same {u U : State} (h : u.vm = U.vm) (hZ : xNw u) : xNw U := fun w hw => va_Nw.same (xN_on w hw) h (hZ w hw)
theorem xNw.warm {s U : State} (hW : s.WarmedH U.vm) (h : xNw s) : xNw U := by
  intro w hw
  have h0 := h w hw
  simp only [nwl, List.mem_cons, List.not_mem_nil, or_false] at hw
  rcases hw with rfl | rfl
  all_goals first | exact va_Nw.warmF hW h0 | exact va_Nw.warmM hW h0
theorem xNw.use {s : State} (h : xNw s) (i : Nat) {w : Cond} (hw : nwl[i]? = some w) {a : Array Value} : w.before a s = true := va_Nw.use (xN_on w (List.mem_of_getElem? hw)) (h w (List.mem_of_getElem? hw))
theorem xNw.at {s : State} (h : xNw s) (i : Nat) {w : Cond} (hw : nwl[i]? = some w) : va_Nw w s := h w (List.mem_of_getElem? hw)
/-- a start: the arguments, the cells, the tables -/
def xPc (D : va_G) (tys : List (ClassId × FieldType)) (av : List Value) (sz : Nat) (ws : va_W) : Array Value → State → Prop := va_Pc av (fun U => U.heap.size = sz ∧ va_P D vwCl ws U.heap ∧ va_K D vwCl tys U ∧ va_D (fun _ => True) ws ∧ xNw U)
def xB (D : va_G) (tys : List (ClassId × FieldType)) (A : Nat → Prop) (ws : va_W) (t : State) : Prop := va_P D vwCl ws t.heap ∧ va_K D vwCl tys t ∧ va_D A ws
abbrev xQi (D : va_G) (tys : List (ClassId × FieldType)) (A : Nat → Prop) (R : Int32) (w1 : va_W) := va_Qi (fun (r : Int32) (_ : Unit) => r = R) (fun _ => xB D tys A w1) A
abbrev xQl (D : va_G) (tys : List (ClassId × FieldType)) (A : Nat → Prop) (R : Int64) (w1 : va_W) := va_Ql (fun (r : Int64) (_ : Unit) => r = R) (fun _ => xB D tys A w1) A
abbrev xQd (D : va_G) (tys : List (ClassId × FieldType)) (A : Nat → Prop) (R : UInt64) (w1 : va_W) := va_Qd (fun (r : UInt64) (_ : Unit) => r = R) (fun _ => xB D tys A w1) A
abbrev xQv (D : va_G) (tys : List (ClassId × FieldType)) (A : Nat → Prop) (w1 : va_W) := va_Qv (fun (_ : Unit) => True) (fun _ => xB D tys A w1) A
abbrev xMi (l : Launch) (D : va_G) (tys : List (ClassId × FieldType)) (y : MethodName) (ws : List Cond) (rm : Room) (av : List Value) (sz : Nat) (wc : va_W) (R : Int32) (w1 : va_W) (mc ms : Nat) := Met l y ws rm (xPc D tys av sz wc) (xQi D tys (va_A wc sz) R w1) mc ms (va_A wc sz)
abbrev xMl (l : Launch) (D : va_G) (tys : List (ClassId × FieldType)) (y : MethodName) (ws : List Cond) (rm : Room) (av : List Value) (sz : Nat) (wc : va_W) (R : Int64) (w1 : va_W) (mc ms : Nat) := Met l y ws rm (xPc D tys av sz wc) (xQl D tys (va_A wc sz) R w1) mc ms (va_A wc sz)
abbrev xMd (l : Launch) (D : va_G) (tys : List (ClassId × FieldType)) (y : MethodName) (ws : List Cond) (rm : Room) (av : List Value) (sz : Nat) (wc : va_W) (R : UInt64) (w1 : va_W) (mc ms : Nat) := Met l y ws rm (xPc D tys av sz wc) (xQd D tys (va_A wc sz) R w1) mc ms (va_A wc sz)
abbrev xMv (l : Launch) (D : va_G) (tys : List (ClassId × FieldType)) (y : MethodName) (ws : List Cond) (rm : Room) (av : List Value) (sz : Nat) (wc : va_W) (w1 : va_W) (mc ms : Nat) := Met l y ws rm (xPc D tys av sz wc) (xQv D tys (va_A wc sz) w1) mc ms (va_A wc sz)
/-- what a body has at its start -/
def xSt (p : Program) (s : State) (m : MethodId) (meth : Method) (c : Code) (cc : ByteArray) (ret : Option FieldType) (ws : List Cond) (y : MethodName) (args : Array Value) (maxL : Nat) (D : va_G) (tys : List (ClassId × FieldType)) (wc : va_W) (A : Nat → Prop) (H : Heap) : Prop :=
  p.tables.exec = Jvm.exec ∧ c.code = cc ∧ meth.sig.returnType = ret ∧ (∀ w ∈ ws, w.before args s = true) ∧ s.vm.findClass y.cls = some m.cls ∧ meth.locks = false ∧ c.maxLocals = maxL ∧ meth.name = y.name ∧ xNw s ∧ va_K D vwCl tys s ∧ va_P D vwCl wc H ∧ va_D A wc ∧ (∀ q : Nat, s.heap.size ≤ q → A q) ∧ va_S A s.heap H []
theorem xk_start {l : Launch} {y : MethodName} {ws ws' : List Cond} {rm : Room} {D : va_G} {tys : List (ClassId × FieldType)} {av : List Value} {sz : Nat} {wc : va_W} {Qf : (Nat → Prop) → Array Value → State → Outcome → State → Prop} {mc ms : Nat} {cc : ByteArray} {maxL : Nat} {ret : Option FieldType}
    (hy : plainName y.cls = true) (hw : ws = Cond.code y cc maxL ret :: ws') (hn : (lg_sl av).length ≤ maxL)
    (body : ∀ (p : Program) (e : Env) (s : State) (m : MethodId) (below : List Frame) (meth : Method) (c : Code) (A : Nat → Prop) (H : Heap) (ls : Array Slot), xSt p s m meth c cc ret ws y av.toArray maxL D tys wc A H → va_A wc s.heap.size = A → s.heap.size = sz → lv_has ls maxL (lv_args 0 av) → W p l e rm s m av.toArray below meth c H [] 0 0 (MQ below (Qf A) av.toArray s mc ms A) (F0 m 0 ls [])) :
    Met l y ws rm (xPc D tys av sz wc) (Qf (va_A wc sz)) mc ms (va_A wc sz) := by
  refine Met.ofW (cc := cc) (maxL := maxL) (ret := ret) hy hw ?_
  intro p e s m args below meth c s₁ B hml hv
  obtain ⟨rfl, hsz, hP, hK, hD0, hN⟩ := hv
  subst hsz
  have hl := lv_entry av (n := maxL) hn
  rw [lg_entry_eq]
  exact body p e s m below meth c (va_A wc s.heap.size) s.heap _ ⟨B.exec, B.bytes, B.returns, atoms_spec (ws := ws) B.pre, findClass_of_methodNamed B.named, B.notSynchronized, hml, (name_of_methodNamed B.named B.method).1, hN, hK, hP, hD0.self, fun q h => Or.inr h, va_S.rf⟩ rfl rfl hl
theorem xk_startF {l : Launch} {y : MethodName} {ws ws' : List Cond} {rm : Room} {D : va_G} {tys : List (ClassId × FieldType)} {av : List Value} {sz : Nat} {wc : va_W} {Qf : (Nat → Prop) → Array Value → State → Outcome → State → Prop} {mc ms : Nat} {cc : ByteArray} {maxL : Nat} {ret : Option FieldType}
    (hy : plainFor y = true) (hw : ws = Cond.code y cc maxL ret :: ws') (hn : (lg_sl av).length ≤ maxL)
    (body : ∀ (p : Program) (e : Env) (s : State) (m : MethodId) (below : List Frame) (meth : Method) (c : Code) (A : Nat → Prop) (H : Heap) (ls : Array Slot), xSt p s m meth c cc ret ws y av.toArray maxL D tys wc A H → va_A wc s.heap.size = A → s.heap.size = sz → lv_has ls maxL (lv_args 0 av) → W p l e rm s m av.toArray below meth c H [] 0 0 (MQ below (Qf A) av.toArray s mc ms A) (F0 m 0 ls [])) :
    Met l y ws rm (xPc D tys av sz wc) (Qf (va_A wc sz)) mc ms (va_A wc sz) := by
  refine MetFree.of_bodySF (code := cc) (maxLocals := maxL) (ret := ret) hy ?_ ?_
  · intro args s m h hn
    obtain ⟨meth, c, h1, h2, h3, h4, h5, h6, -, -⟩ := Cond.code_spec hn (atoms_spec (ws := ws) h _ (by rw [hw]; exact List.mem_cons_self))
    exact ⟨meth, c, h1, h2, h3, h4, h5, h6⟩
  · intro p e s m args below meth c s₁ B hml hv _
    have hh0 : s₁.heap = s.heap := by rw [B.state]; rfl
    obtain ⟨rfl, hsz, hP, hK, hD0, hN⟩ := hv
    subst hsz
    have hl := lv_entry av (n := maxL) hn
    have K := body p e s m below meth c (va_A wc s.heap.size) s.heap _ ⟨B.exec, B.bytes, B.returns, atoms_spec (ws := ws) B.pre, findClass_of_methodNamed B.named, B.notSynchronized, hml, (name_of_methodNamed B.named B.method).1, hN, hK, hP, hD0.self, fun q h => Or.inr h, va_S.rf⟩ rfl rfl hl
    rw [← lg_entry_eq] at K
    obtain ⟨t, a1, o, b1, b2, b3⟩ := K s₁ hh0 (Stand.of_body B)
    exact ⟨t, o, a1, b1, b2, ⟨b3.1, b3.2⟩⟩
variable {p : Program} {l : Launch} {e : Env} {R : Room} {s : State} {m : MethodId} {args : Array Value} {below : List Frame} {meth : Method} {c : Code} {H : Heap} {locs : List Loc} {cells slots : Nat} {Q : State → Prop}
variable {cc : ByteArray} {pc : Nat} {ls : Array Slot} {rest st0 : List Value} {D : va_G} {tys : List (ClassId × FieldType)} {A : Nat → Prop} {H0 : Heap}
theorem xfm {α β : Type} {f : α → Option β} : ∀ {is : List α} {w : List β}, is.map f = w.map some → is.filterMap f = w
  | [], w, h => by
    cases w with
    | nil => rfl
    | cons => simp at h
  | i :: is, w, h => by
    cases w with
    | nil => simp at h
    | cons b w =>
      simp only [List.map_cons, List.cons.injEq] at h
      rw [List.filterMap_cons, h.1]
      exact congrArg (b :: ·) (xfm h.2)
theorem xk_iret {V : Type} {wf : V → va_W} {u u1 : V} {v Rv : Int32} {ty : FieldType} (hx : p.tables.exec = Jvm.exec) (hb : c.code = cc) (hr : meth.sig.returnType = some ty) (hn : narrow ty (.int v) = .int v) (hlocks : meth.locks = false) (hP : va_P D vwCl (wf u) H) (hK : va_K D vwCl tys s) (hD : va_D A (wf u)) (hS : va_S A s.heap H locs) (hv : v = Rv) (hu : u = u1) (hdg : decode cc pc = .ok (.ireturn, 1)) :
    W p l e R s m args below meth c H locs cells slots (MQ below (xQi D tys A Rv (wf u1)) args s cells slots A) (F0 m pc ls [.int v]) := by
  subst hu
  exact W.zret hx hb hr hn (fun t ht hW => ⟨⟨v, (), rfl, hv, by rw [ht]; exact hP, va_K.moved hW.alike hK, hD⟩, hS.F ht⟩) hS.2.2 hdg hlocks
theorem xk_lret {V : Type} {wf : V → va_W} {u u1 : V} {v Rv : Int64} (hx : p.tables.exec = Jvm.exec) (hb : c.code = cc) (hr : meth.sig.returnType = some .long) (hlocks : meth.locks = false) (hP : va_P D vwCl (wf u) H) (hK : va_K D vwCl tys s) (hD : va_D A (wf u)) (hS : va_S A s.heap H locs) (hv : v = Rv) (hu : u = u1) (hdg : decode cc pc = .ok (.lreturn, 1)) :
    W p l e R s m args below meth c H locs cells slots (MQ below (xQl D tys A Rv (wf u1)) args s cells slots A) (F0 m pc ls [.long v]) := by
  subst hu
  exact W.lret hx hb hr (fun t ht hW => ⟨⟨v, (), rfl, hv, by rw [ht]; exact hP, va_K.moved hW.alike hK, hD⟩, hS.F ht⟩) hS.2.2 hdg hlocks
theorem xk_dret {V : Type} {wf : V → va_W} {u u1 : V} {v Rv : UInt64} (hx : p.tables.exec = Jvm.exec) (hb : c.code = cc) (hr : meth.sig.returnType = some .double) (hlocks : meth.locks = false) (hP : va_P D vwCl (wf u) H) (hK : va_K D vwCl tys s) (hD : va_D A (wf u)) (hS : va_S A s.heap H locs) (hv : v = Rv) (hu : u = u1) (hdg : decode cc pc = .ok (.dreturn, 1)) :
    W p l e R s m args below meth c H locs cells slots (MQ below (xQd D tys A Rv (wf u1)) args s cells slots A) (F0 m pc ls [.double v]) := by
  subst hu
  exact W.dret hx hb hr (fun t ht hW => ⟨⟨v, (), rfl, hv, by rw [ht]; exact hP, va_K.moved hW.alike hK, hD⟩, hS.F ht⟩) hS.2.2 hdg hlocks
theorem xk_vret {V : Type} {wf : V → va_W} {u u1 : V} (hx : p.tables.exec = Jvm.exec) (hb : c.code = cc) (hr : meth.sig.returnType = none) (hlocks : meth.locks = false) (hP : va_P D vwCl (wf u) H) (hK : va_K D vwCl tys s) (hD : va_D A (wf u)) (hS : va_S A s.heap H locs) (hu : u = u1) (hdg : decode cc pc = .ok (.return_, 1)) :
    W p l e R s m args below meth c H locs cells slots (MQ below (xQv D tys A (wf u1)) args s cells slots A) (F0 m pc ls []) := by
  subst hu
  exact W.vret hx hb hr (fun t ht hW => ⟨⟨(), rfl, trivial, by rw [ht]; exact hP, va_K.moved hW.alike hK, hD⟩, hS.F ht⟩) hS.2.2 hdg hlocks
/-- a callee's start, over the cells that it gets -/
theorem xk_pre {av : List Value} {wsA wc : va_W} (hN : xNw s) (hP : va_P D vwCl wsA H) (hK : va_K D vwCl tys s) (hD : va_D A wsA) (isC : List Nat) (hn : va_nd isC = true) (hC : isC.map (fun i => wsA[i]?) = wc.map some) : PreS s H (xPc D tys av H.size wc) av :=
  ⟨fun a U g mk q => by
    obtain ⟨q0, q1, qP, qK, qD, qN⟩ := q
    exact ⟨q0, q1, qP, va_K.moved (u := U) (U := U.calling g mk a) (Vm.Alike.refl U.vm) qK, qD, xNw.same (u := U) (U := U.calling g mk a) rfl qN⟩,
   fun U hU hW => ⟨rfl, by rw [hU], by rw [hU]; exact hP.sub isC (xfm hC), va_K.moved hW.alike hK, (hD.sub isC hn hC).weaken (fun _ _ _ _ => trivial), hN.warm hW⟩⟩
theorem xk_preV {av : List Value} {wsA wc : va_W} {a q0 ci : Nat} {q : vw_C} {fs : List Value} (hN : xNw s) (hP : va_P D vwCl wsA H) (hK : va_K D vwCl tys s) (hD : va_D A wsA) (isC : List Nat) (hn : va_nd isC = true) (hC : isC.map (fun i => wsA[i]?) = wc.map some) (he : wsA[q0]? = some (a, .inr (ci, fs))) (hc : vwCl[ci]? = some q) : PreV s H q.1 a (xPc D tys (.ref a :: av) H.size wc) av :=
  have h := xk_pre (av := .ref a :: av) hN hP hK hD isC hn hC
  ⟨h.1, va_recv hK hP hc he, h.2⟩
/-- behind a call: the caller's cells in their old order -/
theorem xk_joined {wsA wc wr w1 w2 : va_W} {H1 : Heap} {t : State} (hP : va_P D vwCl wsA H) (hD : va_D A wsA) (hS : va_S A H0 H locs) (hA : ∀ q, H0.size ≤ q → A q) (isC isR perm : List Nat) (hC : isC.map (fun i => wsA[i]?) = wc.map some) (hR : isR.map (fun i => wsA[i]?) = wr.map some) (hn : va_nd isR = true) (hdis : ∀ i ∈ isR, i ∉ isC) (hpn : va_nd perm = true) (hp : perm.map (fun i => (wr ++ w1)[i]?) = w2.map some)
    (ht : t.heap = H1) (hB : xB D tys (va_A wc H.size) w1 t) (hk : ∀ q : Nat, q < H.size → ¬ va_A wc H.size q → H1[q]? = H[q]?) : va_P D vwCl w2 H1 ∧ va_D A w2 := by
  obtain ⟨hP1, hK1, hD1⟩ := hB
  rw [ht] at hP1
  obtain ⟨h1, h2⟩ := va_join (wr := wr) (w1 := w1) hP hD isC isR hC hR hn hdis hk (va_free (wc := wc) hD hS hA isC hC) hP1 hD1
  exact ⟨h1.sub perm (xfm hp), h2.sub perm hpn hp⟩
theorem xk_calli {mc ms : Nat} {a9 : Array Value} {Rv : Int32} {wsA wc w1 : va_W} (wr w2 : va_W) (isC isR perm : List Nat) (hP : va_P D vwCl wsA H) (hD : va_D A wsA) (hS : va_S A H0 H locs) (hA : ∀ q, H0.size ≤ q → A q)
    (hr : va_Run p l e R s m args below meth c H locs cells slots mc ms (F0 m pc ls st0) rest (xQi D tys (va_A wc H.size) Rv w1 a9) (va_A wc H.size))
    (hC : isC.map (fun i => wsA[i]?) = wc.map some) (hR : isR.map (fun i => wsA[i]?) = wr.map some) (hn : va_nd isR = true) (hdis : ∀ i ∈ isR, i ∉ isC) (hpn : va_nd perm = true) (hp : perm.map (fun i => (wr ++ w1)[i]?) = w2.map some)
    (kk : ∀ (H1 : Heap) (locs1 : List Loc), va_P D vwCl w2 H1 → va_D A w2 → va_S A H0 H1 locs1 → W p l e R s m args below meth c H1 locs1 (cells + mc) (slots + ms) Q (F0 m (pc + 3) ls (.int Rv :: rest))) : W p l e R s m args below meth c H locs cells slots Q (F0 m pc ls st0) := by
  have hF := va_free (wc := wc) hD hS hA isC hC
  refine va_calli hr hS (fun q _ h => hF q h) hF (fun r u t H1 locs1 ht hvm hw hB hz1 hk1 hS1 => ?_)
  have hw : r = Rv := hw
  subst hw
  obtain ⟨h1, h2⟩ := xk_joined hP hD hS hA isC isR perm hC hR hn hdis hpn hp ht hB hk1
  exact kk H1 locs1 h1 h2 hS1
theorem xk_calll {mc ms : Nat} {a9 : Array Value} {Rv : Int64} {wsA wc w1 : va_W} (wr w2 : va_W) (isC isR perm : List Nat) (hP : va_P D vwCl wsA H) (hD : va_D A wsA) (hS : va_S A H0 H locs) (hA : ∀ q, H0.size ≤ q → A q)
    (hr : va_Run p l e R s m args below meth c H locs cells slots mc ms (F0 m pc ls st0) rest (xQl D tys (va_A wc H.size) Rv w1 a9) (va_A wc H.size))
    (hC : isC.map (fun i => wsA[i]?) = wc.map some) (hR : isR.map (fun i => wsA[i]?) = wr.map some) (hn : va_nd isR = true) (hdis : ∀ i ∈ isR, i ∉ isC) (hpn : va_nd perm = true) (hp : perm.map (fun i => (wr ++ w1)[i]?) = w2.map some)
    (kk : ∀ (H1 : Heap) (locs1 : List Loc), va_P D vwCl w2 H1 → va_D A w2 → va_S A H0 H1 locs1 → W p l e R s m args below meth c H1 locs1 (cells + mc) (slots + ms) Q (F0 m (pc + 3) ls (.long Rv :: rest))) : W p l e R s m args below meth c H locs cells slots Q (F0 m pc ls st0) := by
  have hF := va_free (wc := wc) hD hS hA isC hC
  refine va_calll hr hS (fun q _ h => hF q h) hF (fun r u t H1 locs1 ht hvm hw hB hz1 hk1 hS1 => ?_)
  have hw : r = Rv := hw
  subst hw
  obtain ⟨h1, h2⟩ := xk_joined hP hD hS hA isC isR perm hC hR hn hdis hpn hp ht hB hk1
  exact kk H1 locs1 h1 h2 hS1
theorem xk_calld {mc ms : Nat} {a9 : Array Value} {Rv : UInt64} {wsA wc w1 : va_W} (wr w2 : va_W) (isC isR perm : List Nat) (hP : va_P D vwCl wsA H) (hD : va_D A wsA) (hS : va_S A H0 H locs) (hA : ∀ q, H0.size ≤ q → A q)
    (hr : va_Run p l e R s m args below meth c H locs cells slots mc ms (F0 m pc ls st0) rest (xQd D tys (va_A wc H.size) Rv w1 a9) (va_A wc H.size))
    (hC : isC.map (fun i => wsA[i]?) = wc.map some) (hR : isR.map (fun i => wsA[i]?) = wr.map some) (hn : va_nd isR = true) (hdis : ∀ i ∈ isR, i ∉ isC) (hpn : va_nd perm = true) (hp : perm.map (fun i => (wr ++ w1)[i]?) = w2.map some)
    (kk : ∀ (H1 : Heap) (locs1 : List Loc), va_P D vwCl w2 H1 → va_D A w2 → va_S A H0 H1 locs1 → W p l e R s m args below meth c H1 locs1 (cells + mc) (slots + ms) Q (F0 m (pc + 3) ls (.double Rv :: rest))) : W p l e R s m args below meth c H locs cells slots Q (F0 m pc ls st0) := by
  have hF := va_free (wc := wc) hD hS hA isC hC
  refine va_calld hr hS (fun q _ h => hF q h) hF (fun r u t H1 locs1 ht hvm hw hB hz1 hk1 hS1 => ?_)
  have hw : r = Rv := hw
  subst hw
  obtain ⟨h1, h2⟩ := xk_joined hP hD hS hA isC isR perm hC hR hn hdis hpn hp ht hB hk1
  exact kk H1 locs1 h1 h2 hS1
theorem xk_callv {mc ms : Nat} {a9 : Array Value} {wsA wc w1 : va_W} (wr w2 : va_W) (isC isR perm : List Nat) (hP : va_P D vwCl wsA H) (hD : va_D A wsA) (hS : va_S A H0 H locs) (hA : ∀ q, H0.size ≤ q → A q)
    (hr : va_Run p l e R s m args below meth c H locs cells slots mc ms (F0 m pc ls st0) rest (xQv D tys (va_A wc H.size) w1 a9) (va_A wc H.size))
    (hC : isC.map (fun i => wsA[i]?) = wc.map some) (hR : isR.map (fun i => wsA[i]?) = wr.map some) (hn : va_nd isR = true) (hdis : ∀ i ∈ isR, i ∉ isC) (hpn : va_nd perm = true) (hp : perm.map (fun i => (wr ++ w1)[i]?) = w2.map some)
    (kk : ∀ (H1 : Heap) (locs1 : List Loc), va_P D vwCl w2 H1 → va_D A w2 → va_S A H0 H1 locs1 → W p l e R s m args below meth c H1 locs1 (cells + mc) (slots + ms) Q (F0 m (pc + 3) ls rest)) : W p l e R s m args below meth c H locs cells slots Q (F0 m pc ls st0) := by
  have hF := va_free (wc := wc) hD hS hA isC hC
  refine va_callv hr hS (fun q _ h => hF q h) hF (fun u t H1 locs1 ht hvm hw hB hz1 hk1 hS1 => ?_)
  obtain ⟨h1, h2⟩ := xk_joined hP hD hS hA isC isR perm hC hR hn hdis hpn hp ht hB hk1
  exact kk H1 locs1 h1 h2 hS1
/-- an array's cell by its contents alone -/
theorem xk_arr {cA : ClassId} {n : Nat} {f g : Nat → Int32} (h : ∀ j, j < n → f j = g j) : vp_cell cA (n, .inl f) = vp_cell cA (n, .inl g) := by
  show arrV cA n (fun j => .int (f j)) = arrV cA n (fun j => .int (g j))
  unfold arrV
  congr 1
  congr 1
  funext j
  exact congrArg Value.int (h j.val j.isLt)
theorem xk_arrP {cA : ClassId} {a n : Nat} {f g : Nat → Int32} {ws : va_W} (k : Nat) (hP : va_P D vwCl ws H) (hk : ws[k]? = some (a, .inl (cA, n, .inl f))) (h : ∀ j, j < n → f j = g j) : va_P D vwCl (ws.set k (a, .inl (cA, n, .inl g))) H := by
  have hl := (List.getElem?_eq_some_iff.mp hk).1
  intro i q hi
  by_cases hik : i = k
  · subst hik
    rw [List.getElem?_set_self hl] at hi
    cases hi
    have h0 := hP _ _ hk
    show H[a]? = some (vp_cell cA (n, .inl g))
    rw [← xk_arr h]
    exact h0
  · rw [List.getElem?_set_ne (Ne.symm hik)] at hi
    exact hP i q hi
theorem xk_arrD {cA : ClassId} {a n : Nat} {f g : Nat → Int32} {ws : va_W} (k : Nat) (hD : va_D A ws) (hk : ws[k]? = some (a, .inl (cA, n, .inl f))) : va_D A (ws.set k (a, .inl (cA, n, .inl g))) := hD.set hk
theorem cpy_all {f g : Nat → Int32} {n : Int32} {m : Nat} (h : n.toNatClampNeg = m) : ∀ j, j < m → va_cpy f g (0 : Int32).toNatClampNeg (0 : Int32).toNatClampNeg n.toNatClampNeg j = f j := by
  intro j hj
  have h0 : (0 : Int32).toNatClampNeg = 0 := by decide
  unfold va_cpy
  rw [h0, h, if_pos ⟨Nat.zero_le _, by omega⟩]
  congr 1
  omega
/-- scalars and rows of arrays: a place set -/
def xs (f : Nat → Int32) (k : Nat) (v : Int32) : Nat → Int32 := fun j => if j = k then v else f j
def xa (g : Nat → Nat → Int32) (k : Nat) (f : Nat → Int32) : Nat → Nat → Int32 := fun j => if j = k then f else g j
theorem xs_eq (f : Nat → Int32) (k : Nat) (v : Int32) : xs f k v k = v := if_pos rfl
theorem xs_ne {f : Nat → Int32} {k j : Nat} {v : Int32} (h : j ≠ k) : xs f k v j = f j := if_neg h
theorem xa_eq (g : Nat → Nat → Int32) (k : Nat) (f : Nat → Int32) : xa g k f k = f := if_pos rfl
theorem xa_ne {g : Nat → Nat → Int32} {k j : Nat} {f : Nat → Int32} (h : j ≠ k) : xa g k f j = g j := if_neg h
/-- the travellers: number, passed, bargesWaiting, cartsWaiting, firstBarge, firstCart; barge, needs, state, came, passedIn, waitEnd -/
abbrev XT : Type := (Nat → Int32) × (Nat → Nat → Int32)
/-- the bridge: minute, angle, counterpoise, ice, code, waitedInAll, passing, toGo, latestWasBarge; cold; the travellers -/
abbrev XBr : Type := (Nat → Int32) × (Nat → Int32) × XT
/-- the model's outer part: thrown, travellers; isBarge, needs, came, cold -/
abbrev MO : Type := (Nat → Int32) × (Nat → Nat → Int32)
/-- the model's state: minute, angle, poise, ice, code, passer, latest; is, waited, left, when -/
abbrev MS : Type := (Nat → Int32) × (Nat → Nat → Int32)
abbrev cA (I : ClassId) (a n : Nat) (f : Nat → Int32) : Nat × va_E := (a, .inl (I, n, .inl f))
abbrev cXT (q : Nat → Nat) (t : Nat → Int32) : Nat × va_E := (q 2, .inr (1, [.int (t 0), .int (t 1), .int (t 2), .int (t 3), .ref (q 3), .ref (q 4), .ref (q 5), .ref (q 6), .ref (q 7), .ref (q 8), .int (t 4), .int (t 5)]))
abbrev cXB (q : Nat → Nat) (b : Nat → Int32) : Nat × va_E := (q 0, .inr (0, [.int (b 0), .int (b 1), .int (b 2), .int (b 3), .int (b 4), .int (b 5), .ref (q 1), .ref (q 2), .int (b 6), .int (b 7), .int (b 8)]))
abbrev cMO (qo : Nat → Nat) (ps pa : Nat) (o : Nat → Int32) : Nat × va_E := (qo 0, .inr (4, [.int (o 0), .int (o 1), .ref (qo 1), .ref (qo 2), .ref (qo 3), .ref (qo 4), .ref ps, .ref pa]))
abbrev cMS (qo qs : Nat → Nat) (b : Nat → Int32) : Nat × va_E := (qs 0, .inr (3, [.int (b 0), .int (b 1), .int (b 2), .int (b 3), .int (b 4), .int (b 5), .int (b 6), .ref (qs 1), .ref (qs 2), .ref (qs 3), .ref (qs 4), .ref (qo 0)]))
abbrev cX (h : Nat) (qb qt : Nat → Nat) : Nat × va_E := (h, .inr (2, [.ref (qb 0), .ref (qt 0)]))
abbrev wT (I : ClassId) (q : Nat → Nat) (t : XT) : va_W := [cXT q t.1, cA I (q 3) 40 (t.2 0), cA I (q 4) 40 (t.2 1), cA I (q 5) 40 (t.2 2), cA I (q 6) 40 (t.2 3), cA I (q 7) 40 (t.2 4), cA I (q 8) 40 (t.2 5)]
abbrev wB (I : ClassId) (q : Nat → Nat) (b : XBr) : va_W := [cXB q b.1, cA I (q 1) 8 b.2.1, cXT q b.2.2.1, cA I (q 3) 40 (b.2.2.2 0), cA I (q 4) 40 (b.2.2.2 1), cA I (q 5) 40 (b.2.2.2 2), cA I (q 6) 40 (b.2.2.2 3), cA I (q 7) 40 (b.2.2.2 4), cA I (q 8) 40 (b.2.2.2 5)]
abbrev wO (I : ClassId) (qo : Nat → Nat) (ps pa : Nat) (o : MO) : va_W := [cMO qo ps pa o.1, cA I (qo 1) 40 (o.2 0), cA I (qo 2) 40 (o.2 1), cA I (qo 3) 40 (o.2 2), cA I (qo 4) 8 (o.2 3)]
abbrev wS (I : ClassId) (qo qs : Nat → Nat) (b : MS) : va_W := [cMS qo qs b.1, cA I (qs 1) 40 (b.2 0), cA I (qs 2) 40 (b.2 1), cA I (qs 3) 40 (b.2 2), cA I (qs 4) 40 (b.2 3)]
end XK
