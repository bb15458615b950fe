/-! OWN KIT 5: the law's helpers, which catch -/
section XK5
abbrev xXF : String → State → State → Prop := vx_X (fun _ : Unit => False) (fun _ _ _ => False) (fun _ => False)
abbrev cO (J : ClassId) (ao : Nat) (g : Nat → Int64) : Nat × va_E := (ao, .inl (J, 1, .inr (.inl g)))
abbrev xQL (D : va_G) (tys : List (ClassId × FieldType)) (A : Nat → Prop) (kx Rv : Int32) (wf : XBr × (Nat → Int64) → va_W) := va_Qi (fun (r : Int32) (v : XBr × (Nat → Int64)) => r = kx ∧ (kx = 0 → v.2 0 = Rv.toInt64)) (fun v => xB D tys A (wf v)) A
abbrev xML (l : Launch) (D : va_G) (tys : List (ClassId × FieldType)) (y : MethodName) (ws : List Cond) (rm : Room) (av : List Value) (sz : Nat) (wc : va_W) (kx Rv : Int32) (wf : XBr × (Nat → Int64) → va_W) (mc ms : Nat) := vx_Met l y ws rm (xPcX D tys av sz wc) (xQL D tys (va_A wc sz) kx Rv wf) xXF mc ms (va_A wc sz)
theorem xk_startL {l : Launch} {y : MethodName} {ws ws' : List Cond} {rm : Room} {D : va_G} {tys : List (ClassId × FieldType)} {av : List Value} {sz : Nat} {wc : va_W} {Qf : (Nat → Prop) → Array Value → State → Outcome → State → Prop} {XC : String → State → State → Prop} {mc ms : Nat} {cc : ByteArray} {maxL : Nat} {ret : Option FieldType} {hh : List (Nat × Nat × Nat × Nat)}
    (hy : plainName y.cls = true) (hw : ws = Cond.codeWith y cc maxL ret hh :: ws') (hn : (lg_sl av).length ≤ maxL)
    (body : ∀ (p : Program) (e : Env) (s : State) (m : MethodId) (below : List Frame) (meth : Method) (c : Code) (A : Nat → Prop) (H : Heap) (ls : Array Slot), xSt p s m meth c cc ret ws y av.toArray maxL D tys wc A H → va_A wc s.heap.size = A → s.heap.size = sz → lv_has ls maxL (lv_args 0 av) → c.exceptionTable.toList = tableOf hh → xX A s s.heap → W p l e rm s m av.toArray below meth c H [] 0 0 (vx_MQ below (Qf A) XC av.toArray s mc ms A) (F0 m 0 ls [])) :
    vx_Met l y ws rm (xPcX D tys av sz wc) (Qf (va_A wc sz)) XC mc ms (va_A wc sz) := by
  refine vx_ofWH (cc := cc) (maxL := maxL) (ret := ret) (hh := hh) hy hw ?_
  intro p e s m args below meth c s₁ B hml hv
  obtain ⟨rfl, hsz, hP, hK, hD0, hN, hXX⟩ := hv
  subst hsz
  have hl := lv_entry av (n := maxL) hn
  rw [lg_entry_eq]
  have hts := atoms_spec (ws := ws) B.pre
  exact body p e s m below meth c (va_A wc s.heap.size) s.heap _ ⟨B.exec, B.bytes, B.returns, hts, findClass_of_methodNamed B.named, B.notSynchronized, hml, (name_of_methodNamed B.named B.method).1, hN, hK, hP, hD0.self, fun q h => Or.inr h, va_S.rf⟩ rfl rfl hl (vx_table (x := y) B (hts _ (by rw [hw]; exact List.mem_cons_self))) hXX
variable {p : Program} {l : Launch} {e : Env} {R : Room} {s : State} {m : MethodId} {args : Array Value} {below : List Frame} {meth : Method} {c : Code} {H : Heap} {locs : List Loc} {cells slots : Nat} {Q : State → Prop}
variable {cc : ByteArray} {pc : Nat} {ls : Array Slot} {rest st0 : List Value} {D : va_G} {tys : List (ClassId × FieldType)} {A : Nat → Prop} {H0 : Heap}
theorem xk_preX {av : List Value} {wsA wc : va_W} (hN : xNw s) (hXX : xX A s s.heap) (hS : va_S A s.heap H locs) (hA : ∀ q, s.heap.size ≤ q → A q) (hP : va_P D vwCl wsA H) (hK : va_K D vwCl tys s) (hD : va_D A wsA) (isC : List Nat) (hn : va_nd isC = true) (hC : isC.map (fun i => wsA[i]?) = wc.map some) : PreS s H (xPcX D tys av H.size wc) av :=
  ⟨fun a U g mk q => by
    obtain ⟨q0, q1, qP, qK, qD, qN, qX⟩ := q
    exact ⟨q0, q1, qP, va_K.moved (u := U) (U := U.calling g mk a) (Vm.Alike.refl U.vm) qK, qD, xNw.same (u := U) (U := U.calling g mk a) rfl qN, xX.same (u := U) (U := U.calling g mk a) rfl qX⟩,
   fun U hU hW => ⟨rfl, by rw [hU], by rw [hU]; exact hP.sub isC (xfm hC), va_K.moved hW.alike hK, (hD.sub isC hn hC).weaken (fun _ _ _ _ => trivial), hN.warm hW, by
    rw [hU]
    exact ((hXX.kept hS.2.1).narrow (va_free (wc := wc) hD hS hA isC hC)).warm hW⟩⟩
theorem xk_preVX {av : List Value} {wsA wc : va_W} {a q0 ci : Nat} {q : vw_C} {fs : List Value} (hN : xNw s) (hXX : xX A s s.heap) (hS : va_S A s.heap H locs) (hA : ∀ q, s.heap.size ≤ q → A q) (hP : va_P D vwCl wsA H) (hK : va_K D vwCl tys s) (hD : va_D A wsA) (isC : List Nat) (hn : va_nd isC = true) (hC : isC.map (fun i => wsA[i]?) = wc.map some) (he : wsA[q0]? = some (a, .inr (ci, fs))) (hc : vwCl[ci]? = some q) : PreV s H q.1 a (xPcX D tys (.ref a :: av) H.size wc) av :=
  have h := xk_preX (av := .ref a :: av) hN hXX hS hA hP hK hD isC hn hC
  ⟨h.1, va_recv hK hP hc he, h.2⟩
theorem xk_callX {V : Type} {mc ms : Nat} {a9 : Array Value} {Rv kx : Int32} {nm : List (String × Int32)} {wsA wc : va_W} {w1 : V → va_W} (wr : va_W) (w2 : V → va_W) (isC isR perm : List Nat) (hP : va_P D vwCl wsA H) (hD : va_D A wsA) (hS : va_S A H0 H locs) (hA : ∀ q, H0.size ≤ q → A q)
    (hr : vx_Run p l e R s m args below meth c H locs cells slots mc ms (F0 m pc ls st0) rest (xQiX D tys (va_A wc H.size) V Rv kx w1 a9) (xXC D tys (va_A wc H.size) V nm kx w1) (va_A wc H.size))
    (hC : isC.map (fun i => wsA[i]?) = wc.map some) (hR : isR.map (fun i => wsA[i]?) = wr.map some) (hn : va_nd isR = true) (hdis : ∀ i ∈ isR, i ∉ isC) (hpn : va_nd perm = true) (hp : ∀ v, perm.map (fun i => (wr ++ w1 v)[i]?) = (w2 v).map some)
    (ke : ∀ (E : String) (ce : Cell) (q9 : Addr) (v : V) (H1 : Heap) (locs1 : List Loc), (E, kx) ∈ nm → va_P D vwCl (w2 v) H1 → va_D A (w2 v) → va_S A H0 H1 locs1 → H1[q9]? = some ce → ce.vm = .none → s.vm.findClass E = some ce.cls → vx_W p l e R s m args below meth c H1 locs1 (cells + mc) (slots + ms) Q (F0 m pc ls rest) q9)
    (kk : ∀ (v : V) (H1 : Heap) (locs1 : List Loc), kx = 0 → va_P D vwCl (w2 v) H1 → va_D A (w2 v) → va_S A H0 H1 locs1 → W p l e R s m args below meth c H1 locs1 (cells + mc) (slots + ms) Q (F0 m (pc + 3) ls (.int Rv :: rest))) : W p l e R s m args below meth c H locs cells slots Q (F0 m pc ls st0) := by
  have hF := va_free (wc := wc) hD hS hA isC hC
  refine vx_calli hr hS (fun q _ h => hF q h) hF (fun q _ h => hF q h) (fun E ce q9 u t H1 locs1 ht hvm hp9 hB hz1 hk1 hS1 hce hcv hcl => ?_) (fun r u t H1 locs1 ht hvm hw hB hz1 hk1 hS1 => ?_)
  · obtain ⟨h1, h2⟩ := xk_joined hP hD hS hA isC isR perm hC hR hn hdis hpn (hp u) ht hB.2 hk1
    exact ke E ce q9 u H1 locs1 hB.1 h1 h2 hS1 hce hcv hcl
  · obtain ⟨hk0, hw⟩ := hw
    subst hw
    obtain ⟨h1, h2⟩ := xk_joined hP hD hS hA isC isR perm hC hR hn hdis hpn (hp u) ht hB hk1
    exact kk u H1 locs1 hk0 h1 h2 hS1
theorem xk_callL {mc ms : Nat} {a9 : Array Value} {Rv kx : Int32} {wsA wc : va_W} {w1 : XBr × (Nat → Int64) → va_W} (wr : va_W) (w2 : XBr × (Nat → Int64) → va_W) (isC isR perm : List Nat) (hP : va_P D vwCl wsA H) (hD : va_D A wsA) (hS : va_S A H0 H locs) (hA : ∀ q, H0.size ≤ q → A q)
    (hr : vx_Run p l e R s m args below meth c H locs cells slots mc ms (F0 m pc ls st0) rest (xQL D tys (va_A wc H.size) kx Rv w1 a9) xXF (va_A wc H.size))
    (hC : isC.map (fun i => wsA[i]?) = wc.map some) (hR : isR.map (fun i => wsA[i]?) = wr.map some) (hn : va_nd isR = true) (hdis : ∀ i ∈ isR, i ∉ isC) (hpn : va_nd perm = true) (hp : ∀ v, perm.map (fun i => (wr ++ w1 v)[i]?) = (w2 v).map some)
    (kk : ∀ (v : XBr × (Nat → Int64)) (H1 : Heap) (locs1 : List Loc), (kx = 0 → v.2 0 = Rv.toInt64) → va_P D vwCl (w2 v) H1 → va_D A (w2 v) → va_S A H0 H1 locs1 → W p l e R s m args below meth c H1 locs1 (cells + mc) (slots + ms) Q (F0 m (pc + 3) ls (.int kx :: rest))) : W p l e R s m args below meth c H locs cells slots Q (F0 m pc ls st0) := by
  have hF := va_free (wc := wc) hD hS hA isC hC
  refine vx_calli hr hS (fun q _ h => hF q h) hF (fun q _ h => h.elim) (fun E ce q9 u t H1 locs1 ht hvm hp9 hB hz1 hk1 hS1 hce hcv hcl => hp9.elim) (fun r u t H1 locs1 ht hvm hw hB hz1 hk1 hS1 => ?_)
  obtain ⟨hw, hk0⟩ := hw
  subst hw
  obtain ⟨h1, h2⟩ := xk_joined hP hD hS hA isC isR perm hC hR hn hdis hpn (hp u) ht hB hk1
  exact kk u H1 locs1 hk0 h1 h2 hS1
theorem xk_iretL {wf : XBr × (Nat → Int64) → va_W} (v0 : XBr × (Nat → Int64)) {v kx Rv : Int32} {XC : String → State → State → Prop} {ty : FieldType} (hx : p.tables.exec = Jvm.exec) (hb : c.code = cc) (hr : meth.sig.returnType = some ty) (hn : narrow ty (.int v) = .int v) (hlocks : meth.locks = false) (hP : va_P D vwCl (wf v0) H) (hK : va_K D vwCl tys s) (hD : va_D A (wf v0)) (hS : va_S A s.heap H locs) (hv : v = kx) (h0 : kx = 0 → v0.2 0 = Rv.toInt64) (hdg : decode cc pc = .ok (.ireturn, 1)) :
    W p l e R s m args below meth c H locs cells slots (vx_MQ below (xQL D tys A kx Rv wf) XC args s cells slots A) (F0 m pc ls [.int v]) :=
  vx_ret (W.zret hx hb hr hn (fun t ht hW => ⟨⟨v, v0, rfl, ⟨hv, h0⟩, by rw [ht]; exact hP, va_K.moved hW.alike hK, hD⟩, hS.F ht⟩) hS.2.2 hdg hlocks)
end XK5
