/-! OWN KIT 3: contracts of methods that return or throw -/
section XK3
abbrev eIA : String := "java/lang/IllegalArgumentException"
abbrev eIS : String := "java/lang/IllegalStateException"
abbrev eIO : String := "java/lang/IndexOutOfBoundsException"
abbrev exN : List String := ["java/lang/RuntimeException", "java/lang/Exception"]
abbrev xwl : List Cond := [.castable eIA eIA, .castable eIS eIS, .castable eIO eIO, .declares (Bundle.initS "java/lang/RuntimeException"), .declares (Bundle.initS "java/lang/Exception"), .declares (Bundle.initS Bundle.tN)]
theorem xdecl {x : MethodName} {s U : State} (hW : s.WarmedH U.vm) (hZ : va_Nw (.declares x) s) : va_Nw (.declares x) U := va_tabs rfl (rfl : (s.setVm U.vm).vm = U.vm) (by rw [Cond.declares_setVm hW.alike]; exact hZ)
abbrev xnc : List (String × String) := [(eIO, eIS), (eIA, eIS)]
abbrev strl : List (Nat × String) := [(101, "what is not 0 to 6"), (106, "what is not 0 to 11"), (119, "minutes is not 1 to 240"), (135, "what is not 0 to 3"), (21, "minutes is not 1 to 6"), (38, "there are 40 travellers"), (54, "there is no such traveller"), (61, "the traveller does not wait"), (71, "code is not 0 to 4"), (76, "counterpoise is not 0 to 30"), (81, "the bridge is neither up nor down"), (86, "hour is not 0 to 7"), (88, "cold is not -3 to 3")]
/-- what a throw needs beside the words -/
def xX (A : Nat → Prop) (U : State) (H : Heap) : Prop := (∀ w ∈ xwl, va_Nw w U) ∧ (∀ q ∈ xnc, va_Nc q.1 q.2 U) ∧ vx_Zq Bundle.tN "UNASSIGNED_STACK" Bundle.steD A U H ∧ vx_Zq Bundle.tN "SUPPRESSED_SENTINEL" Bundle.listD A U H ∧ ∀ q ∈ strl, ∃ a : Nat, vk_R RX2 q.1 q.2 a U
theorem xX.same {A : Nat → Prop} {u U : State} {H : Heap} (hvm : u.vm = U.vm) (h : xX A u H) : xX A U H := by
  obtain ⟨h1, h2, h3, h4, h5⟩ := h
  have hal : u.vm.Alike U.vm := by rw [hvm]; exact Vm.Alike.refl _
  refine ⟨fun w hw => ?_, fun q hq => va_Nc.moved hal (h2 q hq), vx_Zq.moved hal h3, vx_Zq.moved hal h4, fun q hq => ?_⟩
  · have h0 := h1 w hw
    simp only [xwl, List.mem_cons, List.not_mem_nil, or_false] at hw
    rcases hw with rfl | rfl | rfl | rfl | rfl | rfl
    all_goals exact va_Nw.same rfl hvm h0
  · obtain ⟨a, ha⟩ := h5 q hq
    exact ⟨a, vk_R.same hvm.symm ha⟩
theorem xX.warm {A : Nat → Prop} {s U : State} {H : Heap} (hW : s.WarmedH U.vm) (h : xX A s H) : xX A U H := by
  obtain ⟨h1, h2, h3, h4, h5⟩ := h
  refine ⟨fun w hw => ?_, fun q hq => va_Nc.moved hW.alike (h2 q hq), vx_Zq.moved hW.alike h3, vx_Zq.moved hW.alike h4, fun q hq => ?_⟩
  · have h0 := h1 w hw
    simp only [xwl, List.mem_cons, List.not_mem_nil, or_false] at hw
    rcases hw with rfl | rfl | rfl | rfl | rfl | rfl
    all_goals first | exact va_Nw.warmC hW h0 | exact xdecl hW h0
  · obtain ⟨a, ha⟩ := h5 q hq
    exact ⟨a, vk_R.warm hW ha⟩
theorem xX.kept {A : Nat → Prop} {U : State} {H H1 : Heap} (h : xX A U H) (hq : ∀ a : Nat, a < H.size → ¬ A a → H1[a]? = H[a]?) : xX A U H1 := ⟨h.1, h.2.1, h.2.2.1.kept hq, h.2.2.2.1.kept hq, h.2.2.2.2⟩
theorem xX.narrow {A B : Nat → Prop} {U : State} {H : Heap} (h : xX A U H) (hAB : ∀ q, B q → A q) : xX B U H := ⟨h.1, h.2.1, h.2.2.1.narrow hAB, h.2.2.2.1.narrow hAB, h.2.2.2.2⟩
def xPcX (D : va_G) (tys : List (ClassId × FieldType)) (av : List Value) (sz : Nat) (ws : va_W) : Array Value → State → Prop := va_Pc av (fun U => U.heap.size = sz ∧ va_P D vwCl ws U.heap ∧ va_K D vwCl tys U ∧ va_D (fun _ => True) ws ∧ xNw U ∧ xX (va_A ws sz) U U.heap)
abbrev xQiX (D : va_G) (tys : List (ClassId × FieldType)) (A : Nat → Prop) (V : Type) (R kx : Int32) (wf : V → va_W) := va_Qi (fun (r : Int32) (_ : V) => kx = 0 ∧ r = R) (fun v => xB D tys A (wf v)) A
abbrev xXC (D : va_G) (tys : List (ClassId × FieldType)) (A : Nat → Prop) (V : Type) (nm : List (String × Int32)) (kx : Int32) (wf : V → va_W) : String → State → State → Prop := vx_X (fun _ : V => True) (fun E v t => (E, kx) ∈ nm ∧ xB D tys A (wf v) t) A
abbrev xMX (l : Launch) (D : va_G) (tys : List (ClassId × FieldType)) (y : MethodName) (ws : List Cond) (rm : Room) (av : List Value) (sz : Nat) (wc : va_W) (V : Type) (nm : List (String × Int32)) (R kx : Int32) (wf : V → va_W) (mc ms : Nat) := vx_Met l y ws rm (xPcX D tys av sz wc) (xQiX D tys (va_A wc sz) V R kx wf) (xXC D tys (va_A wc sz) V nm kx wf) mc ms (va_A wc sz)
theorem xk_startX {l : Launch} {y : MethodName} {ws ws' : List Cond} {rm : Room} {D : va_G} {tys : List (ClassId × FieldType)} {av : List Value} {sz : Nat} {wc : va_W} {Qf : (Nat → Prop) → Array Value → State → Outcome → State → Prop} {XCf : (Nat → Prop) → String → State → State → Prop} {mc ms : Nat} {cc : ByteArray} {maxL : Nat} {ret : Option FieldType}
    (hy : plainName y.cls = true) (hw : ws = Cond.code y cc maxL ret :: ws') (hn : (lg_sl av).length ≤ maxL)
    (body : ∀ (p : Program) (e : Env) (s : State) (m : MethodId) (below : List Frame) (meth : Method) (c : Code) (A : Nat → Prop) (H : Heap) (ls : Array Slot), xSt p s m meth c cc ret ws y av.toArray maxL D tys wc A H → va_A wc s.heap.size = A → s.heap.size = sz → lv_has ls maxL (lv_args 0 av) → (∀ x ∈ c.exceptionTable.toList, False) → xX A s s.heap → W p l e rm s m av.toArray below meth c H [] 0 0 (vx_MQ below (Qf A) (XCf A) av.toArray s mc ms A) (F0 m 0 ls [])) :
    vx_Met l y ws rm (xPcX D tys av sz wc) (Qf (va_A wc sz)) (XCf (va_A wc sz)) mc ms (va_A wc sz) := by
  refine vx_ofW (cc := cc) (maxL := maxL) (ret := ret) hy hw ?_
  intro p e s m args below meth c s₁ B hml hex hv
  obtain ⟨rfl, hsz, hP, hK, hD0, hN, hXX⟩ := hv
  subst hsz
  have hl := lv_entry av (n := maxL) hn
  rw [lg_entry_eq]
  exact body p e s m below meth c (va_A wc s.heap.size) s.heap _ ⟨B.exec, B.bytes, B.returns, atoms_spec (ws := ws) B.pre, findClass_of_methodNamed B.named, B.notSynchronized, hml, (name_of_methodNamed B.named B.method).1, hN, hK, hP, hD0.self, fun q h => Or.inr h, va_S.rf⟩ rfl rfl hl hex hXX
variable {p : Program} {l : Launch} {e : Env} {R : Room} {s : State} {m : MethodId} {args : Array Value} {below : List Frame} {meth : Method} {c : Code} {H : Heap} {locs : List Loc} {cells slots : Nat} {Q : State → Prop}
variable {cc : ByteArray} {pc : Nat} {ls : Array Slot} {rest st0 : List Value} {D : va_G} {tys : List (ClassId × FieldType)} {A : Nat → Prop} {H0 : Heap}
theorem xk_iretX {V U : Type} {wf : U → V → va_W} {u u1 : U} (v0 : V) {v Rv kx : Int32} {XC : String → State → State → Prop} {ty : FieldType} (hx : p.tables.exec = Jvm.exec) (hb : c.code = cc) (hr : meth.sig.returnType = some ty) (hn : narrow ty (.int v) = .int v) (hlocks : meth.locks = false) (hP : va_P D vwCl (wf u v0) H) (hK : va_K D vwCl tys s) (hD : va_D A (wf u v0)) (hS : va_S A s.heap H locs) (hk : kx = 0) (hv : v = Rv) (hu : u = u1) (hdg : decode cc pc = .ok (.ireturn, 1)) :
    W p l e R s m args below meth c H locs cells slots (vx_MQ below (xQiX D tys A V Rv kx (wf u1)) XC args s cells slots A) (F0 m pc ls [.int v]) := by
  subst hu
  exact vx_ret (W.zret hx hb hr hn (fun t ht hW => ⟨⟨v, v0, rfl, ⟨hk, hv⟩, by rw [ht]; exact hP, va_K.moved hW.alike hK, hD⟩, hS.F ht⟩) hS.2.2 hdg hlocks)
theorem xk_throw {V U : Type} {wf : U → V → va_W} {u u1 : U} (v0 : V) {nm : List (String × Int32)} {kx : Int32} {Qc : Array Value → State → Outcome → State → Prop} {cls text : String} {ik is ic mc ms : Nat}
    (hx : p.tables.exec = Jvm.exec) (hb : c.code = cc) (hl : l.stackTraces = false) (hown : s.vm.findClass RX2 = some m.cls) (hfit : Bundle.fit cls = true) (hk : (Cond.classLink RX2 ik cls).before args s = true) (hini : (Cond.initialized cls).before args s = true) (hstr : (is, text) ∈ strl)
    (hts : ∀ w ∈ (vx_atS RX2 ic cls exN).filter goodWord, w.before args s = true) (hng : ∀ w ∈ (vx_atS RX2 ic cls exN).filter (fun w => !goodWord w), w ∈ xwl) (hgood : ∀ w ∈ Cond.classLink RX2 ik cls :: Cond.initialized cls :: vx_atS RX2 ic cls exN, vx_ot w = true)
    (hXX : xX A s s.heap) (hP : va_P D vwCl (wf u v0) H) (hK : va_K D vwCl tys s) (hD : va_D A (wf u v0)) (hS : va_S A s.heap H locs) (hsize : ls.size = c.maxLocals)
    (d0 : decode cc pc = .ok (.new ik, 3)) (d3 : decode cc (pc + 3) = .ok (.dup, 1)) (d4 : decode cc (pc + 4) = .ok (.ldc is, 2)) (d6 : decode cc (pc + 6) = .ok (.invokespecial ic, 3)) (d9 : decode cc (pc + 9) = .ok (.athrow, 1))
    (hex : ∀ x ∈ c.exceptionTable.toList, False) (hRf : 5 < R.frames) (hRl : (rest.map fun v => v.category).sum + 82 ≤ R.locals) (hRc : cells + 1 ≤ R.cells) (hRs : slots + 6 ≤ R.slots) (hlocks : meth.locks = false) (hc : cells + 1 ≤ mc) (hs : slots + 6 ≤ ms)
    (hE : (cls, kx) ∈ nm) (hu : u = u1) :
    W p l e R s m args below meth c H locs cells slots (vx_MQ below Qc (xXC D tys A V nm kx (wf u1)) args s mc ms A) (F0 m pc ls rest) := by
  subst hu
  obtain ⟨h1, h2, h3, h4, h5⟩ := hXX
  obtain ⟨sa, hsa⟩ := h5 _ hstr
  refine vx_throwS (names := exN) (A := A) hx hb hl hown hfit (by decide) hk hini hsa (vx_hat hts hng (fun w hw => va_Nw.use (by
      simp only [xwl, List.mem_cons, List.not_mem_nil, or_false] at hw
      rcases hw with rfl | rfl | rfl | rfl | rfl | rfl
      all_goals rfl) (h1 w hw))) hgood h3 h4 hS hsize d0 d3 d4 d6 d9 (fun x hx => (hex x hx).elim) hRf hRl hRc hRs hlocks (fun t hal hsz hq => ?_) hS.2.2 hc hs
  refine ⟨v0, trivial, ⟨hE, hP.kept (fun k q hk => hq _ (hP k q hk).lt), va_K.moved hal hK, hD⟩, Nat.le_trans hS.1 hsz, fun q h8 h9 => ?_⟩
  rw [hq q (Nat.lt_of_lt_of_le h8 hS.1)]
  exact hS.2.1 q h8 h9
end XK3
