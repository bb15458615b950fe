section
-- ===== PART A: goes FIRST, ahead of the names: the tables' words, and 'selects' of the private methods out of them =====
/-- a private method of a class that the tables say can be made, by its rows of tables_1 -/
def lw_okq (q : MethodName × Nat) : Prop := (q.1.cls ≠ "java/lang/invoke/MethodHandle" ∧ q.1.cls ≠ "java/lang/invoke/VarHandle") ∧ Cond.instantiable q.1.cls q.2 ∈ tables_1 ∧ Cond.privateMethod q.1 ∈ tables_1 ∧ Cond.instanceMethod q.1 ∈ tables_1
theorem lw_p0 : lw_okq (⟨"java/lang/Throwable", "fillInStackTrace", "(I)Ljava/lang/Throwable;"⟩, 6) := ⟨⟨by decide +kernel, by decide +kernel⟩, List.mem_of_getElem? (i := 238) (by decide +kernel), List.mem_of_getElem? (i := 236) (by decide +kernel), List.mem_of_getElem? (i := 237) (by decide +kernel)⟩
theorem lw_p1 : lw_okq (⟨"BridgeBells$Travellers", "seeWhoWaits", "()V"⟩, 12) := ⟨⟨by decide +kernel, by decide +kernel⟩, List.mem_of_getElem? (i := 29) (by decide +kernel), List.mem_of_getElem? (i := 288) (by decide +kernel), List.mem_of_getElem? (i := 289) (by decide +kernel)⟩
theorem lw_p2 : lw_okq (⟨"BridgeBells$Bridge", "serve", "(I)V"⟩, 11) := ⟨⟨by decide +kernel, by decide +kernel⟩, List.mem_of_getElem? (i := 23) (by decide +kernel), List.mem_of_getElem? (i := 387) (by decide +kernel), List.mem_of_getElem? (i := 388) (by decide +kernel)⟩
theorem lw_p3 : lw_okq (⟨"BridgeBells$Bridge", "goOnPassing", "()V"⟩, 11) := ⟨⟨by decide +kernel, by decide +kernel⟩, List.mem_of_getElem? (i := 23) (by decide +kernel), List.mem_of_getElem? (i := 395) (by decide +kernel), List.mem_of_getElem? (i := 396) (by decide +kernel)⟩
theorem lw_p4 : lw_okq (⟨"BridgeBells$Bridge", "freeze", "()V"⟩, 11) := ⟨⟨by decide +kernel, by decide +kernel⟩, List.mem_of_getElem? (i := 23) (by decide +kernel), List.mem_of_getElem? (i := 403) (by decide +kernel), List.mem_of_getElem? (i := 404) (by decide +kernel)⟩
theorem lw_p5 : lw_okq (⟨"BridgeBells", "waitWith", "(III)I"⟩, 2) := ⟨⟨by decide +kernel, by decide +kernel⟩, List.mem_of_getElem? (i := 15) (by decide +kernel), List.mem_of_getElem? (i := 445) (by decide +kernel), List.mem_of_getElem? (i := 446) (by decide +kernel)⟩
theorem lw_p6 : lw_okq (⟨"BridgeBellsModel", "no", "(I)I"⟩, 8) := ⟨⟨by decide +kernel, by decide +kernel⟩, List.mem_of_getElem? (i := 456) (by decide +kernel), List.mem_of_getElem? (i := 554) (by decide +kernel), List.mem_of_getElem? (i := 555) (by decide +kernel)⟩
theorem lw_p7 : lw_okq (⟨"BridgeBellsModel", "isTraveller", "(I)Z"⟩, 8) := ⟨⟨by decide +kernel, by decide +kernel⟩, List.mem_of_getElem? (i := 456) (by decide +kernel), List.mem_of_getElem? (i := 562) (by decide +kernel), List.mem_of_getElem? (i := 563) (by decide +kernel)⟩
theorem lw_p8 : lw_okq (⟨"BridgeBellsModel", "told", "(II)I"⟩, 8) := ⟨⟨by decide +kernel, by decide +kernel⟩, List.mem_of_getElem? (i := 456) (by decide +kernel), List.mem_of_getElem? (i := 587) (by decide +kernel), List.mem_of_getElem? (i := 588) (by decide +kernel)⟩
theorem lw_p9 : lw_okq (⟨"BridgeBellsModel$State", "first", "(I)I"⟩, 12) := ⟨⟨by decide +kernel, by decide +kernel⟩, List.mem_of_getElem? (i := 462) (by decide +kernel), List.mem_of_getElem? (i := 611) (by decide +kernel), List.mem_of_getElem? (i := 612) (by decide +kernel)⟩
theorem lw_p10 : lw_okq (⟨"BridgeBellsModel$State", "serve", "(I)V"⟩, 12) := ⟨⟨by decide +kernel, by decide +kernel⟩, List.mem_of_getElem? (i := 462) (by decide +kernel), List.mem_of_getElem? (i := 637) (by decide +kernel), List.mem_of_getElem? (i := 638) (by decide +kernel)⟩
theorem lw_p11 : lw_okq (⟨"BridgeBellsModel$State", "copy", "([I[I)V"⟩, 12) := ⟨⟨by decide +kernel, by decide +kernel⟩, List.mem_of_getElem? (i := 462) (by decide +kernel), List.mem_of_getElem? (i := 651) (by decide +kernel), List.mem_of_getElem? (i := 652) (by decide +kernel)⟩
theorem lw_p12 : lw_okq (⟨"BridgeBellsModel", "best", "(IZI)I"⟩, 8) := ⟨⟨by decide +kernel, by decide +kernel⟩, List.mem_of_getElem? (i := 456) (by decide +kernel), List.mem_of_getElem? (i := 666) (by decide +kernel), List.mem_of_getElem? (i := 667) (by decide +kernel)⟩
def lw_privs_1 : List (MethodName × Nat) := [(⟨"java/lang/Throwable", "fillInStackTrace", "(I)Ljava/lang/Throwable;"⟩, 6), (⟨"BridgeBells$Travellers", "seeWhoWaits", "()V"⟩, 12), (⟨"BridgeBells$Bridge", "serve", "(I)V"⟩, 11), (⟨"BridgeBells$Bridge", "goOnPassing", "()V"⟩, 11), (⟨"BridgeBells$Bridge", "freeze", "()V"⟩, 11), (⟨"BridgeBells", "waitWith", "(III)I"⟩, 2), (⟨"BridgeBellsModel", "no", "(I)I"⟩, 8), (⟨"BridgeBellsModel", "isTraveller", "(I)Z"⟩, 8), (⟨"BridgeBellsModel", "told", "(II)I"⟩, 8), (⟨"BridgeBellsModel$State", "first", "(I)I"⟩, 12), (⟨"BridgeBellsModel$State", "serve", "(I)V"⟩, 12), (⟨"BridgeBellsModel$State", "copy", "([I[I)V"⟩, 12), (⟨"BridgeBellsModel", "best", "(IZI)I"⟩, 8)]
theorem lw_r1 : ∀ q ∈ lw_privs_1, lw_okq q := List.forall_mem_cons.mpr ⟨lw_p0, List.forall_mem_cons.mpr ⟨lw_p1, List.forall_mem_cons.mpr ⟨lw_p2, List.forall_mem_cons.mpr ⟨lw_p3, List.forall_mem_cons.mpr ⟨lw_p4, List.forall_mem_cons.mpr ⟨lw_p5, List.forall_mem_cons.mpr ⟨lw_p6, List.forall_mem_cons.mpr ⟨lw_p7, List.forall_mem_cons.mpr ⟨lw_p8, List.forall_mem_cons.mpr ⟨lw_p9, List.forall_mem_cons.mpr ⟨lw_p10, List.forall_mem_cons.mpr ⟨lw_p11, List.forall_mem_cons.mpr ⟨lw_p12, fun _ h => absurd h List.not_mem_nil⟩⟩⟩⟩⟩⟩⟩⟩⟩⟩⟩⟩⟩
def lw_privs : List (MethodName × Nat) := lw_privs_1
def lw_tbl : List Cond := k2_sels lw_privs ++ tables_1
theorem lw_privs_ok : ∀ q ∈ lw_privs, lw_okq q := lw_r1
/-- the streams that the claim lets the run draw from -/
abbrev lw_cs : List Choice := [Jvm.Choice.named "NaN.bits"]
theorem lw_bits : nanBits ∈ lw_cs := by first | decide | exact List.mem_cons_self | simp [lw_cs, nanBits]
end
section
/-! ===== BEGIN words of one list among another's, by their places ===== -/
theorem goodIn_r {big : List Cond} (ws : List Cond) (ps : List Nat) (hp : ws = ps.filterMap (fun i => big[i]?)) (h : ws.all goodWord = true) : GoodIn big ws := by
  intro w hw
  have h1 := List.all_eq_true.mp h w hw
  rw [hp] at hw
  obtain ⟨i, -, hi⟩ := List.mem_filterMap.mp hw
  have hm : w ∈ big := by first | exact List.mem_of_getElem? hi | exact List.getElem?_mem hi
  exact ⟨hm, good_of_word h1⟩
theorem goodIn_app {big a b : List Cond} (ha : GoodIn big a) (hb : GoodIn big b) : GoodIn big (a ++ b) := fun w h => (List.mem_append.mp h).elim (ha w) (hb w)
theorem goodIn_ca {big a b : List Cond} {c : Cond} (ha : GoodIn big (c :: a)) (hb : GoodIn big b) : GoodIn big (c :: (a ++ b)) := fun w h => (List.mem_cons.mp h).elim (fun e => ha w (List.mem_cons.mpr (Or.inl e))) (fun h => (List.mem_append.mp h).elim (fun h => ha w (List.mem_cons.mpr (Or.inr h))) (hb w))
theorem goodIn_sub {big ws : List Cond} (hm : ∀ w ∈ ws, w ∈ big) (h : ws.all goodWord = true) : GoodIn big ws := fun w hw => ⟨hm w hw, good_of_word (List.all_eq_true.mp h w hw)⟩
/-! ===== END ===== -/

/-! ===== BEGIN exceptions that leave a method, and their catching by the caller (launches without stack traces) ===== -/
section VXA
/-! The laws vx_back, vx_callV, vx_callS, vx_callSW, vx_throw0, vx_throwS follow proofs of the library, with one case more: JvmDerived/Free/Laws.lean (Back.of_free), Shelf42/LK1.lean (callV, callS), Shelf/KitTraced.lean (throwNew0V, throwNewS). -/
/-- where a method has thrown q: the class by its name, the cell, what was written, the world -/
def vx_T (XC : String → State → State → Prop) (st : State) (q : Addr) (t : State) (mc ms : Nat) (free : Addr → Prop) : Prop :=
  ∃ (E : String) (ce : Cell) (L : List Loc), XC E st t ∧ t.heap[q]? = some ce ∧ ce.vm = .none ∧ st.vm.findClass E = some ce.cls ∧ st.WarmedH t.vm ∧ st.sameButNew ({ t with vm := st.vm } : State) L mc ms ∧ ∀ z ∈ L, free z.base
def vx_Q (Qc : Array Value → State → Outcome → State → Prop) (XC : String → State → State → Prop) (mc ms : Nat) (free : Addr → Prop) : Array Value → State → Outcome → State → Prop := fun a st o t =>
  (Qc a st o t ∧ ∃ L, FrameEnd st o t L mc ms ∧ ∀ q ∈ L, free q.base) ∨ ∃ q, o = .threw q ∧ vx_T XC st q t mc ms free
/-- a callee that returns or throws -/
def vx_Met (l : Launch) (y : MethodName) (ws : List Cond) (rm : Room) (Pc : Array Value → State → Prop) (Qc : Array Value → State → Outcome → State → Prop) (XC : String → State → State → Prop) (mc ms : Nat) (free : Addr → Prop) : Prop :=
  MetFree l y (headSpec ws rm) Pc (fun _ _ _ _ _ => True) (vx_Q Qc XC mc ms free)
def vx_Post (XC : String → State → State → Prop) (mc ms : Nat) (free : Addr → Prop) : Pt → Array Value → Addr → Pt → Prop := fun A a q B =>
  ∃ (g : JFrame) (mk : MethodId) (t : State) (L : List Loc) (E : String) (ce : Cell), B.U.heap = t.heap ∧ B.U.vm = t.vm ∧ XC E (A.U.calling g mk a) t ∧ t.heap[q]? = some ce ∧ ce.vm = .none ∧ A.U.vm.findClass E = some ce.cls ∧ B.locs = A.locs ++ L ∧ (∀ z ∈ L, free z.base) ∧ B.cells = A.cells + mc ∧ B.slots = A.slots + ms
def vx_Back (l : Launch) (R : Room) (p : Program) (e : Env) (below : List Frame) (s : State) (sargs : Array Value) (y : MethodName) (len W9 : Nat)
    (Pre : Pt → Array Value → Prop) (Post : Pt → Array Value → Option Value → Pt → Prop) (PostX : Pt → Array Value → Addr → Pt → Prop) : Prop :=
  ∀ (m : MethodId) (meth : Method) (c : Code) (A : Pt) (g : JFrame) (ig : Instr) (mk : MethodId) (a : Array Value),
    Stand p l e R s m sargs below meth c A.U A.locs A.cells A.slots → g.method = m → g.locals.size = c.maxLocals → decode c.code g.pc = .ok (ig, len) →
    2 * g.monitorRoom + (g.stack.map fun v => v.category).sum ≤ W9 → A.U.methodNamed? y = some mk → Pre A a →
    (∃ (v : Option Value) (B : Pt), Stand p l e R s m sargs below meth c B.U B.locs B.cells B.slots ∧ Post A a v B ∧
      Steps p.tables e below (doInvoke e (A.U.setTop g) [] mk a).1 (B.U.setTop { g with pc := g.pc + len, stack := v.toList ++ g.stack })) ∨
    (∃ (q : Addr) (B : Pt), Stand p l e R s m sargs below meth c B.U B.locs B.cells B.slots ∧ PostX A a q B ∧
      Steps p.tables e below (doInvoke e (A.U.setTop g) [] mk a).1 ((B.U.setTop g).pushFrame (.throwing q)))
section Payer
variable {l : Launch} {R : Room} {p : Program} {e : Env} {below : List Frame} {s : State} {sargs : Array Value} {y : MethodName} {len W9 : Nat}
theorem vx_back {ws : List Cond} {rm : Room} {Pc : Array Value → State → Prop} {Qc : Array Value → State → Outcome → State → Prop} {XC : String → State → State → Prop} {mc ms : Nat} {free : Addr → Prop} {bytes : ByteArray} {maxL : Nat} {ret : Option FieldType}
    (hM : vx_Met l y ws rm Pc Qc XC mc ms free) (hblind : FrameBlind Pc) (hrc : rm.cells = mc) (hrs : rm.slots = ms)
    (hframes : rm.frames + 1 ≤ R.frames) (hlocals : W9 + (maxL + 11) + rm.locals ≤ R.locals)
    (hws : ∀ w ∈ ws, ∀ a' U, s.WarmedH U.vm → w.before a' U = true) (hcode : Cond.code y bytes maxL ret ∈ ws) (hinit : ∀ a' U, s.WarmedH U.vm → (Cond.initialized y.cls).before a' U = true) :
    vx_Back l R p e below s sargs y len W9 (PreOf R mc ms Pc) (PostOf Qc mc ms free) (vx_Post XC mc ms free) := by
  intro m meth c A g ig mk a X hg hsize hdg hW hn hp
  have h1 : (headSpec ws rm).pre.before a A.U = true := atoms_intro fun w hw => hws w hw _ _ X.warmed
  have h2 : (Cond.code y bytes maxL ret).before a A.U = true := hws _ hcode _ _ X.warmed
  have h3 : (Cond.initialized y.cls).before a A.U = true := hinit _ _ X.warmed
  have h4 : A.cells + (headSpec ws rm).room.cells ≤ R.cells := by rw [show (headSpec ws rm).room.cells = mc from hrc]; exact hp.1
  have h5 : A.slots + (headSpec ws rm).room.slots ≤ R.slots := by rw [show (headSpec ws rm).room.slots = ms from hrs]; exact hp.2.1
  have hPc : Pc a (A.U.calling g mk a) := hblind _ _ _ _ hp.2.2
  obtain ⟨U, Ls, c0, s0⟩ := A
  dsimp only [Pt.U, Pt.locs, Pt.cells, Pt.slots] at h1 h2 h3 h4 h5 X hn hPc ⊢
  obtain ⟨methY, cY, hmY, hcY, -, hlY, -, -, -, -⟩ := Cond.code_spec hn h2
  obtain ⟨kY, hkY, -⟩ := className_of_methodNamed hn
  have hinitY : kY.init = .initialized := Cond.initialized_spec (findClass_of_methodNamed hn) hkY h3
  have h : At U g.method c below := by rw [hg]; exact X.here
  have hlocals9 : W9 + (maxL + 11) + (headSpec ws rm).room.locals ≤ R.locals := hlocals
  have happ : (headSpec ws rm).appliesLoose y e.platform (U.calling g mk a) = true :=
    Spec.appliesLoose_calling (g := g) h hdg hn hkY hinitY
      (X.room_calling (g := g) (R' := (headSpec ws rm).room) hsize hmY hcY hframes (by rw [hlY]; omega) h4 h5) h1
  obtain ⟨mid, hmid⟩ := h.above
  have hfr : (U.setTop g).frames = (.java g :: mid) ++ below := by rw [State.frames_setTop' g h.top, hmid]; rfl
  obtain ⟨o, s₂, hsteps, -, hend, hq⟩ := Steps.callFree hM p X.admits X.cas X.clock (acts := []) hfr happ hPc trivial
  have hq' : vx_Q Qc XC mc ms free a (U.calling g mk a) o s₂ := hq
  rw [State.frames_setTop' g h.top] at hend
  obtain ⟨g₀, hg0⟩ := Option.isSome_iff_exists.mp h.top
  obtain ⟨r, hr⟩ := State.topJava?_eq_some.mp hg0
  have hr' : (({ U with heap := s₂.heap, slotsUsed := s₂.slotsUsed } : State).setVm s₂.vm).frames = .java g₀ :: r := hr
  rcases hq' with ⟨hqc, L, hfe, hL⟩ | ⟨q, rfl, E, ce, L, hx, hce, hcv, hcl, hW₂, hsm, hL⟩
  · obtain ⟨⟨v, rfl⟩, hW₂, e2, q2, q3, q4, q5, q6⟩ := id hfe
    have e3 : s₂ = ({ (U.calling g mk a).setFrames s₂.frames with heap := s₂.heap, slotsUsed := s₂.slotsUsed } : State).setVm s₂.vm := by
      have : s₂ = ({ s₂ with vm := (U.calling g mk a).vm } : State).setVm s₂.vm := rfl
      rw [e2] at this
      exact this
    obtain ⟨c₂, i₂, len₂, hc₂, hd₂, hf₂⟩ := hend
    have hW' : U.WarmedH s₂.vm := hW₂
    have hcc : c₂ = c := by
      have h1 : s₂.code? g.method = U.code? g.method := by
        rw [State.code?_eq, State.code?_eq, hW'.alike.method?]
      exact Option.some.inj (hc₂.symm.trans (h1.trans h.code))
    subst hcc
    have hlen : len₂ = len := by rw [hdg] at hd₂; cases hd₂; rfl
    subst hlen
    have hs₂ : s₂ = (({ U with heap := s₂.heap, slotsUsed := s₂.slotsUsed } : State).setVm s₂.vm).setTop { g with pc := g.pc + len₂, stack := v.toList ++ g.stack } := by
      refine e3.trans ?_
      rw [hf₂, State.calling_eq h.top, State.setFrames_setFrames, State.setTop_of_frames _ hr', hr]
      rfl
    have hsame : U.sameButNew ({ U with heap := s₂.heap, slotsUsed := s₂.slotsUsed } : State) L mc ms := by
      refine ⟨?_, q2, q3, q4, q5, q6⟩
      obtain ⟨t, ht, -⟩ := State.frames_cons hr
      show ({ U with heap := s₂.heap, slotsUsed := s₂.slotsUsed } : State) = { U.setFrames U.frames with heap := s₂.heap, slotsUsed := s₂.slotsUsed }
      rw [State.setFrames_self ht]
    subst hg
    refine Or.inl ⟨v, ⟨(({ U with heap := s₂.heap, slotsUsed := s₂.slotsUsed } : State).setVm s₂.vm), Ls ++ L, c0 + mc, s0 + ms⟩,
      ⟨X.admits, X.cas, X.clock, X.frames, X.room, X.hears, X.method, X.code, (X.here.setHeapUsed s₂.heap s₂.slotsUsed).setVm hW'.alike, X.tail, State.WarmedH.trans X.warmed hW', X.limits, X.bytes, X.same.trans (hsame.setVm s.vm)⟩,
      ⟨g, mk, s₂, L, rfl, rfl, hqc, rfl, hL, rfl, rfl⟩, ?_⟩
    show Steps p.tables e below _ ((({ U with heap := s₂.heap, slotsUsed := s₂.slotsUsed } : State).setVm s₂.vm).setTop { g with pc := g.pc + len₂, stack := v.toList ++ g.stack })
    rw [← hs₂]
    exact hsteps
  · obtain ⟨e2, q2, q3, q4, q5, q6⟩ := id hsm
    have e3 : s₂ = ({ (U.calling g mk a).setFrames s₂.frames with heap := s₂.heap, slotsUsed := s₂.slotsUsed } : State).setVm s₂.vm := by
      have : s₂ = ({ s₂ with vm := (U.calling g mk a).vm } : State).setVm s₂.vm := rfl
      rw [e2] at this
      exact this
    have hf₂ : s₂.frames = .throwing q :: .java g :: U.frames.tail := hend
    have hW' : U.WarmedH s₂.vm := hW₂
    have hs₂ : s₂ = ((({ U with heap := s₂.heap, slotsUsed := s₂.slotsUsed } : State).setVm s₂.vm).setTop g).pushFrame (.throwing q) := by
      refine e3.trans ?_
      rw [hf₂, State.calling_eq h.top, State.setFrames_setFrames, State.pushFrame, State.frames_setTop _ hr', State.setTop_of_frames _ hr', State.setFrames_setFrames, hr]
      rfl
    have hsame : U.sameButNew ({ U with heap := s₂.heap, slotsUsed := s₂.slotsUsed } : State) L mc ms := by
      refine ⟨?_, q2, q3, q4, q5, q6⟩
      obtain ⟨t, ht, -⟩ := State.frames_cons hr
      show ({ U with heap := s₂.heap, slotsUsed := s₂.slotsUsed } : State) = { U.setFrames U.frames with heap := s₂.heap, slotsUsed := s₂.slotsUsed }
      rw [State.setFrames_self ht]
    subst hg
    refine Or.inr ⟨q, ⟨(({ U with heap := s₂.heap, slotsUsed := s₂.slotsUsed } : State).setVm s₂.vm), Ls ++ L, c0 + mc, s0 + ms⟩,
      ⟨X.admits, X.cas, X.clock, X.frames, X.room, X.hears, X.method, X.code, (X.here.setHeapUsed s₂.heap s₂.slotsUsed).setVm hW'.alike, X.tail, State.WarmedH.trans X.warmed hW', X.limits, X.bytes, X.same.trans (hsame.setVm s.vm)⟩,
      ⟨g, mk, s₂, L, E, ce, rfl, rfl, hx, hce, hcv, hcl, rfl, hL, rfl, rfl⟩, ?_⟩
    show Steps p.tables e below _ (((({ U with heap := s₂.heap, slotsUsed := s₂.slotsUsed } : State).setVm s₂.vm).setTop g).pushFrame (.throwing q))
    rw [← hs₂]
    exact hsteps
end Payer
section Calls
variable {p : Program} {l : Launch} {e : Env} {R : Room} {s : State} {m : MethodId} {args : Array Value} {below : List Frame} {meth : Method} {c : Code} {T : State} {locs : List Loc} {cells slots : Nat}
theorem vx_callV (X : Stand p l e R s m args below meth c T locs cells slots) (hexec : p.tables.exec = Jvm.exec) {own C : String} {index : Nat} {y : MethodName} {bytes : ByteArray} {maxL : Nat} {ret : Option FieldType}
    (hown : s.vm.findClass own = some m.cls) (hlink : (Cond.methodLink own index y).before args s = true) (hinst : (Cond.instanceMethod y).before args s = true) (hsel : (Cond.selects C y y).before args s = true)
    (hcode : (Cond.code y bytes maxL ret).before args s = true) (hy : y.cls ≠ "java/lang/invoke/MethodHandle" ∧ y.cls ≠ "java/lang/invoke/VarHandle")
    {W9 : Nat} {Pre : Pt → Array Value → Prop} {Post : Pt → Array Value → Option Value → Pt → Prop} {PostX : Pt → Array Value → Addr → Pt → Prop} (hK : vx_Back l R p e below s args y 3 W9 Pre Post PostX)
    {b : Addr} {cellB : Cell} (hcell : T.heap[b]? = some cellB) (hobj : cellB.vm.isStatics = false) (hcls : s.vm.findClass C = some cellB.cls)
    {g : JFrame} (hg : g.method = m) (hsize : g.locals.size = c.maxLocals) {argsL rest : List Value} (hlen : ∀ sig, parseMethodDescriptor y.desc = some sig → argsL.length = sig.parameters.length)
    (hstack : g.stack = argsL.reverse ++ .ref b :: rest) (hW : 2 * g.monitorRoom + (rest.map fun v => v.category).sum ≤ W9) (hdg : decode c.code g.pc = .ok (.invokevirtual index, 3))
    (hpre : ∀ vm₁, s.WarmedH vm₁ → Pre ⟨T.setVm vm₁, locs, cells, slots⟩ (Value.ref b :: argsL).toArray) :
    (∃ (v : Option Value) (vm₁ : Vm) (B : Pt), s.WarmedH vm₁ ∧ Stand p l e R s m args below meth c B.U B.locs B.cells B.slots ∧ Post ⟨T.setVm vm₁, locs, cells, slots⟩ (Value.ref b :: argsL).toArray v B ∧
      ∀ target, Steps p.tables e below (B.U.setTop { g with pc := g.pc + 3, stack := v.toList ++ rest }) target → Steps p.tables e below (T.setTop g) target) ∨
    (∃ (q : Addr) (vm₁ : Vm) (B : Pt), s.WarmedH vm₁ ∧ Stand p l e R s m args below meth c B.U B.locs B.cells B.slots ∧ PostX ⟨T.setVm vm₁, locs, cells, slots⟩ (Value.ref b :: argsL).toArray q B ∧
      Steps p.tables e below (T.setTop g) ((B.U.setTop { g with stack := rest }).pushFrame (.throwing q))) := by
  obtain ⟨mk, methM, hnamed, hmethM, hstM, habM⟩ := Cond.instanceMethod_spec hinst
  obtain ⟨methM', cM, hmethM', -, -, -, -, -, -, hsigM⟩ := Cond.code_spec hnamed hcode
  cases hmethM.symm.trans hmethM'
  obtain ⟨c2, r2, m2, q1, q2, q3, q4, kP, hkP, hkPi⟩ := Cond.selects_spec hsel
  cases hcls.symm.trans q1
  cases (State.methodFound?_of_named hnamed hy).symm.trans q2
  cases hnamed.symm.trans q3
  have hselP : selectMethod e.platform s.vm cellB.cls mk = .method mk := by rw [Launch.admits_selectMethod X.admits]; exact q4
  obtain ⟨vm₁, X₁, hstep₁⟩ := X.invokevirtual hexec hown hlink hnamed hmethM hstM hkP hkPi hy (a := b) (cell := cellB) hcell
    (fun z h => by rw [h] at hobj; cases hobj) hselP hmethM habM hkP hkPi (g := g) hg (argsL := argsL) (rest := rest) (hlen _ hsigM) hstack hdg
  rcases hK m meth c ⟨T.setVm vm₁, locs, cells, slots⟩ { g with stack := rest } (.invokevirtual index) mk (Value.ref b :: argsL).toArray X₁ hg hsize hdg hW (X₁.named hnamed) (hpre vm₁ X₁.warmed) with ⟨v, B, X', hpost, hsteps⟩ | ⟨q, B, X', hpost, hsteps⟩
  · exact Or.inl ⟨v, vm₁, B, X₁.warmed, X', hpost, fun target h => hstep₁ _ fun acts => by rw [doInvoke_state]; exact hsteps.trans h⟩
  · exact Or.inr ⟨q, vm₁, B, X₁.warmed, X', hpost, hstep₁ _ fun acts => by rw [doInvoke_state]; exact hsteps⟩
theorem vx_callS (X : Stand p l e R s m args below meth c T locs cells slots) (hexec : p.tables.exec = Jvm.exec) {own : String} {index : Nat} {y : MethodName} {bytes : ByteArray} {maxL : Nat} {ret : Option FieldType}
    (hown : s.vm.findClass own = some m.cls) (hlink : (Cond.methodLink own index y).before args s = true) (hstat : (Cond.static y).before args s = true) (hinit : (Cond.initialized y.cls).before args s = true)
    (hcode : (Cond.code y bytes maxL ret).before args s = true) (hy : y.cls ≠ "java/lang/invoke/MethodHandle" ∧ y.cls ≠ "java/lang/invoke/VarHandle")
    {W9 : Nat} {Pre : Pt → Array Value → Prop} {Post : Pt → Array Value → Option Value → Pt → Prop} {PostX : Pt → Array Value → Addr → Pt → Prop} (hK : vx_Back l R p e below s args y 3 W9 Pre Post PostX)
    {g : JFrame} (hg : g.method = m) (hsize : g.locals.size = c.maxLocals) {argsL rest : List Value} (hlen : ∀ sig, parseMethodDescriptor y.desc = some sig → argsL.length = sig.parameters.length)
    (hstack : g.stack = argsL.reverse ++ rest) (hW : 2 * g.monitorRoom + (rest.map fun v => v.category).sum ≤ W9) (hdg : decode c.code g.pc = .ok (.invokestatic index, 3))
    (hpre : ∀ vm₁, s.WarmedH vm₁ → Pre ⟨T.setVm vm₁, locs, cells, slots⟩ argsL.toArray) :
    (∃ (v : Option Value) (vm₁ : Vm) (B : Pt), s.WarmedH vm₁ ∧ Stand p l e R s m args below meth c B.U B.locs B.cells B.slots ∧ Post ⟨T.setVm vm₁, locs, cells, slots⟩ argsL.toArray v B ∧
      ∀ target, Steps p.tables e below (B.U.setTop { g with pc := g.pc + 3, stack := v.toList ++ rest }) target → Steps p.tables e below (T.setTop g) target) ∨
    (∃ (q : Addr) (vm₁ : Vm) (B : Pt), s.WarmedH vm₁ ∧ Stand p l e R s m args below meth c B.U B.locs B.cells B.slots ∧ PostX ⟨T.setVm vm₁, locs, cells, slots⟩ argsL.toArray q B ∧
      Steps p.tables e below (T.setTop g) ((B.U.setTop { g with stack := rest }).pushFrame (.throwing q))) := by
  obtain ⟨mk, hnamed⟩ := Cond.code_named hcode
  obtain ⟨methM, cM, hmethM, -, -, -, -, -, -, hsigM⟩ := Cond.code_spec hnamed hcode
  have hstatic : methM.isStatic = true := Cond.static_spec hnamed hmethM hstat
  obtain ⟨kP, hkP, -⟩ := className_of_methodNamed hnamed
  have hinitP : kP.init = .initialized := Cond.initialized_spec (findClass_of_methodNamed hnamed) hkP hinit
  obtain ⟨vm₁, X₁, hstep₁⟩ := X.invokestatic hexec hown hlink hnamed hmethM hstatic hkP hinitP hy (g := g) hg (argsL := argsL) (rest := rest) (hlen _ hsigM) hstack hdg
  rcases hK m meth c ⟨T.setVm vm₁, locs, cells, slots⟩ { g with stack := rest } (.invokestatic index) mk argsL.toArray X₁ hg hsize hdg hW (X₁.named hnamed) (hpre vm₁ X₁.warmed) with ⟨v, B, X', hpost, hsteps⟩ | ⟨q, B, X', hpost, hsteps⟩
  · exact Or.inl ⟨v, vm₁, B, X₁.warmed, X', hpost, fun target h => hstep₁ _ fun acts => by rw [doInvoke_state]; exact hsteps.trans h⟩
  · exact Or.inr ⟨q, vm₁, B, X₁.warmed, X', hpost, hstep₁ _ fun acts => by rw [doInvoke_state]; exact hsteps⟩
end Calls
theorem vx_cls {s : State} {T : State} {vm₁ : Vm} {E : String} {k : ClassId} (hW : s.WarmedH vm₁) (h : (T.setVm vm₁).vm.findClass E = some k) : s.vm.findClass E = some k := by
  have h1 : vm₁.findClass E = some k := h
  rw [hW.alike.findClass] at h1
  exact h1
/-- the method's frame g, with q thrown over it -/
def vx_W (p : Program) (l : Launch) (e : Env) (R : Room) (s : State) (m : MethodId) (args : Array Value) (below : List Frame) (meth : Method) (c : Code) (H : Heap) (locs : List Loc) (cells slots : Nat) (Q : State → Prop) (g : JFrame) (q : Addr) : Prop :=
  ∀ T : State, T.heap = H → Stand p l e R s m args below meth c T locs cells slots → ∃ t, Steps p.tables e below ((T.setTop g).pushFrame (.throwing q)) t ∧ Q t
def vx_Run (p : Program) (l : Launch) (e : Env) (R : Room) (s : State) (m : MethodId) (args : Array Value) (below : List Frame) (meth : Method) (c : Code) (H : Heap) (locs : List Loc) (cells slots mc ms : Nat) (g : JFrame) (rest : List Value) (Qa : State → Outcome → State → Prop) (XC : String → State → State → Prop) (free : Addr → Prop) : Prop :=
  ∀ T : State, T.heap = H → Stand p l e R s m args below meth c T locs cells slots →
    (∃ (v : Option Value) (st₀ t T' : State) (L : List Loc), st₀.heap = H ∧ Stand p l e R s m args below meth c T' (locs ++ L) (cells + mc) (slots + ms) ∧ (∀ q ∈ L, free q.base) ∧ T'.heap = t.heap ∧ T'.vm = t.vm ∧ Qa st₀ (.returned v) t ∧
      Goes p e below T g T' { g with pc := g.pc + 3, stack := v.toList ++ rest }) ∨
    (∃ (q : Addr) (st₀ t T' : State) (L : List Loc) (E : String) (ce : Cell), st₀.heap = H ∧ Stand p l e R s m args below meth c T' (locs ++ L) (cells + mc) (slots + ms) ∧ (∀ z ∈ L, free z.base) ∧ T'.heap = t.heap ∧ T'.vm = t.vm ∧ XC E st₀ t ∧ t.heap[q]? = some ce ∧ ce.vm = .none ∧ s.vm.findClass E = some ce.cls ∧
      Steps p.tables e below (T.setTop g) ((T'.setTop { g with stack := rest }).pushFrame (.throwing q)))
def vx_X {S : Type} (px : S → Prop) (B : String → S → State → Prop) (A : Nat → Prop) : String → State → State → Prop := fun E st t => ∃ u : S, px u ∧ B E u t ∧ va_F A st t
section Runs
variable {p : Program} {l : Launch} {e : Env} {R : Room} {s : State} {m : MethodId} {args : Array Value} {below : List Frame} {meth : Method} {c : Code} {H : Heap} {locs : List Loc} {cells slots : Nat}
variable {y : MethodName} {bytes cc : ByteArray} {maxL nL mc ms n index : Nat} {ret : Option FieldType} {ws : List Cond} {rm : Room} {Pc : Array Value → State → Prop} {Qc : Array Value → State → Outcome → State → Prop} {XC : String → State → State → Prop} {free : Addr → Prop} {Ts : List Cond} {own C : String} {b : Addr} {As rest : List Value} {g : JFrame}
theorem vx_callBack (cb : CallB R s args own index y bytes maxL ret ws rm mc ms n) (hM : vx_Met l y ws rm Pc Qc XC mc ms free) (hbl : FrameBlind Pc) : vx_Back l R p e below s args y 3 8 (PreOf R mc ms Pc) (PostOf Qc mc ms free) (vx_Post XC mc ms free) := by
  obtain ⟨hrc, hrs, hfr, hlo, hws, hcw, -, hini, -⟩ := cb
  exact vx_back (bytes := bytes) (maxL := maxL) (ret := ret) hM hbl hrc hrs hfr hlo hws hcw (fun a' U hW => word_at hW (Or.inl (by first | rfl | simp [Cond.onTables, Cond.keeps, Cond.steady])) hini)
theorem vx_runV (S : CallFix p m c cc nL s args Ts own) (hM : vx_Met l y ws rm Pc Qc XC mc ms free) (cw : CallW R s args own C index y bytes maxL ret ws rm mc ms n) (hp : PreV s H C b Pc As)
    (hg : g.method = m) (hn : As.length = n) (hsize : g.locals.size = nL) (hstack : g.stack = As.reverse ++ .ref b :: rest) (hW : 2 * g.monitorRoom + (rest.map fun v => v.category).sum ≤ 8) (hdg : decode cc g.pc = .ok (.invokevirtual index, 3)) (hf : cells + mc ≤ R.cells ∧ slots + ms ≤ R.slots) :
    vx_Run p l e R s m args below meth c H locs cells slots mc ms g rest (Qc (Value.ref b :: As).toArray) XC free := by
  have hK : vx_Back l R p e below s args y 3 8 (PreOf R mc ms Pc) (PostOf Qc mc ms free) (vx_Post XC mc ms free) := vx_callBack cw.1 hM hp.1
  obtain ⟨⟨-, -, -, -, -, -, hcode, -, hy, hlen, hl⟩, hin, hse⟩ := cw
  obtain ⟨hx, hb, hml, ho, -⟩ := S
  obtain ⟨-, ⟨cellB, hcB, hoB, hclB⟩, hPc⟩ := hp
  intro T hT X
  rcases vx_callV X hx (C := C) (bytes := bytes) (maxL := maxL) (ret := ret) ho hl hin hse hcode hy hK (by rw [hT]; exact hcB) hoB hclB hg (hsize.trans hml.symm) (argsL := As) (rest := rest) (fun sig h => hn.trans (hlen sig h)) hstack hW (by rw [hb]; exact hdg)
    (fun vm₁ hW₁ => ⟨hf.1, hf.2, hPc (T.setVm vm₁) hT hW₁⟩) with ⟨v, vm₁, ⟨U', l2, c2, s2⟩, hW₁, X', ⟨g', mk, t, L, e1, e2, hq, h1, hL, h2, h3⟩, st⟩ | ⟨q, vm₁, ⟨U', l2, c2, s2⟩, hW₁, X', ⟨g', mk, t, L, E, ce, e1, e2, hq, hce, hcv, hcl, h1, hL, h2, h3⟩, st⟩
  · dsimp only [Pt.U, Pt.locs, Pt.cells, Pt.slots] at X' e1 e2 h1 h2 h3 st
    subst h1; subst h2; subst h3
    exact Or.inl ⟨v, (T.setVm vm₁).calling g' mk (Value.ref b :: As).toArray, t, U', L, hT, X', hL, e1, e2, hq, st⟩
  · dsimp only [Pt.U, Pt.locs, Pt.cells, Pt.slots] at X' e1 e2 h1 h2 h3 st hcl
    subst h1; subst h2; subst h3
    exact Or.inr ⟨q, (T.setVm vm₁).calling g' mk (Value.ref b :: As).toArray, t, U', L, E, ce, hT, X', hL, e1, e2, hq, hce, hcv, vx_cls hW₁ hcl, st⟩
theorem vx_runS (S : CallFix p m c cc nL s args Ts own) (hM : vx_Met l y ws rm Pc Qc XC mc ms free) (cw : CallB R s args own index y bytes maxL ret ws rm mc ms n ∧ (Cond.static y).before args s = true) (hp : PreS s H Pc As)
    (hg : g.method = m) (hn : As.length = n) (hsize : g.locals.size = nL) (hstack : g.stack = As.reverse ++ rest) (hW : 2 * g.monitorRoom + (rest.map fun v => v.category).sum ≤ 8) (hdg : decode cc g.pc = .ok (.invokestatic index, 3)) (hf : cells + mc ≤ R.cells ∧ slots + ms ≤ R.slots) :
    vx_Run p l e R s m args below meth c H locs cells slots mc ms g rest (Qc As.toArray) XC free := by
  have hK : vx_Back l R p e below s args y 3 8 (PreOf R mc ms Pc) (PostOf Qc mc ms free) (vx_Post XC mc ms free) := vx_callBack cw.1 hM hp.1
  obtain ⟨⟨-, -, -, -, -, -, hcode, hini, hy, hlen, hl⟩, hstt⟩ := cw
  obtain ⟨hx, hb, hml, ho, -⟩ := S
  intro T hT X
  rcases vx_callS X hx (bytes := bytes) (maxL := maxL) (ret := ret) ho hl hstt hini hcode hy hK hg (hsize.trans hml.symm) (argsL := As) (rest := rest) (fun sig h => hn.trans (hlen sig h)) hstack hW (by rw [hb]; exact hdg)
    (fun vm₁ hW₁ => ⟨hf.1, hf.2, hp.2 (T.setVm vm₁) hT hW₁⟩) with ⟨v, vm₁, ⟨U', l2, c2, s2⟩, hW₁, X', ⟨g', mk, t, L, e1, e2, hq, h1, hL, h2, h3⟩, st⟩ | ⟨q, vm₁, ⟨U', l2, c2, s2⟩, hW₁, X', ⟨g', mk, t, L, E, ce, e1, e2, hq, hce, hcv, hcl, h1, hL, h2, h3⟩, st⟩
  · dsimp only [Pt.U, Pt.locs, Pt.cells, Pt.slots] at X' e1 e2 h1 h2 h3 st
    subst h1; subst h2; subst h3
    exact Or.inl ⟨v, (T.setVm vm₁).calling g' mk As.toArray, t, U', L, hT, X', hL, e1, e2, hq, st⟩
  · dsimp only [Pt.U, Pt.locs, Pt.cells, Pt.slots] at X' e1 e2 h1 h2 h3 st hcl
    subst h1; subst h2; subst h3
    exact Or.inr ⟨q, (T.setVm vm₁).calling g' mk As.toArray, t, U', L, E, ce, hT, X', hL, e1, e2, hq, hce, hcv, vx_cls hW₁ hcl, st⟩
end Runs
section Rows
variable {p : Program} {l : Launch} {e : Env} {R : Room} {s : State} {m : MethodId} {args : Array Value} {below : List Frame} {meth : Method} {c : Code} {H : Heap} {locs : List Loc} {cells slots : Nat} {Q : State → Prop}
variable {mc ms : Nat} {free : Addr → Prop} {A0 A1 : Nat → Prop} {H0 : Heap} {a : Array Value} {pc : Nat} {ls : Array Slot} {st0 rest : List Value}
theorem vx_keep {st₀ t T' : State} {L : List Loc} (h0 : st₀.heap = H) (e1 : T'.heap = t.heap) (hS : va_S A0 H0 H locs) (hA : ∀ q, q < H.size → A1 q → A0 q) (hf : ∀ q, free q → A0 q) (hL : ∀ q ∈ L, free q.base) (hF : va_F A1 st₀ t) :
    H.size ≤ T'.heap.size ∧ (∀ q : Nat, q < H.size → ¬ A1 q → T'.heap[q]? = H[q]?) ∧ va_S A0 H0 T'.heap (locs ++ L) := by
  obtain ⟨hz, hk⟩ := hF
  rw [h0] at hz hk
  exact ⟨by rw [e1]; exact hz, fun q h1 h2 => by rw [e1]; exact hk q h1 h2,
    ⟨Nat.le_trans hS.1 (by rw [e1]; exact hz), fun q h1 h2 => by rw [e1, hk q (Nat.lt_of_lt_of_le h1 hS.1) (fun z => h2 (hA q (Nat.lt_of_lt_of_le h1 hS.1) z))]; exact hS.2.1 q h1 h2, fun q hq => by
      rcases List.mem_append.mp hq with h | h
      · exact hS.2.2 q h
      · exact hf _ (hL q h)⟩⟩
theorem vx_calli {S SX : Type} {post : Int32 → S → Prop} {px : SX → Prop} {B : S → State → Prop} {BX : String → SX → State → Prop} {AX : Nat → Prop} (hr : vx_Run p l e R s m args below meth c H locs cells slots mc ms (F0 m pc ls st0) rest (va_Qi post B A1 a) (vx_X px BX AX) free) (hS : va_S A0 H0 H locs) (hA : ∀ q, q < H.size → A1 q → A0 q) (hf : ∀ q, free q → A0 q) (hAX : ∀ q, q < H.size → AX q → A0 q)
    (kx : ∀ (E : String) (ce : Cell) (q9 : Addr) (u : SX) (t : State) (H1 : Heap) (locs1 : List Loc), t.heap = H1 → s.vm.Alike t.vm → px u → BX E u t → H.size ≤ H1.size → (∀ q : Nat, q < H.size → ¬ AX q → H1[q]? = H[q]?) → va_S A0 H0 H1 locs1 → H1[q9]? = some ce → ce.vm = .none → s.vm.findClass E = some ce.cls → vx_W p l e R s m args below meth c H1 locs1 (cells + mc) (slots + ms) Q (F0 m pc ls rest) q9)
    (kk : ∀ (r : Int32) (u : S) (t : State) (H1 : Heap) (locs1 : List Loc), t.heap = H1 → s.vm.Alike t.vm → post r u → B u t → H.size ≤ H1.size → (∀ q : Nat, q < H.size → ¬ A1 q → H1[q]? = H[q]?) → va_S A0 H0 H1 locs1 → W p l e R s m args below meth c H1 locs1 (cells + mc) (slots + ms) Q (F0 m (pc + 3) ls (.int r :: rest))) : W p l e R s m args below meth c H locs cells slots Q (F0 m pc ls st0) := by
  intro T hT X
  rcases hr T hT X with ⟨v, st₀, t, T', L, h0, X', hL, e1, e2, ⟨⟨r, u, hv, hp, hb⟩, hF⟩, st⟩ | ⟨q, st₀, t, T', L, E, ce, h0, X', hL, e1, e2, ⟨u, hp, hb, hF⟩, hce, hcv, hcl, st⟩
  · cases hv
    obtain ⟨k1, k2, k3⟩ := vx_keep h0 e1 hS hA hf hL hF
    obtain ⟨t2, a1, b1⟩ := kk r u t T'.heap (locs ++ L) e1.symm (by rw [← e2]; exact X'.warmed.alike) hp hb k1 k2 k3 T' rfl X'
    exact ⟨t2, st t2 a1, b1⟩
  · obtain ⟨k1, k2, k3⟩ := vx_keep h0 e1 hS hAX hf hL hF
    obtain ⟨t2, a1, b1⟩ := kx E ce q u t T'.heap (locs ++ L) e1.symm (by rw [← e2]; exact X'.warmed.alike) hp hb k1 k2 k3 (by rw [e1]; exact hce) hcv hcl T' rfl X'
    exact ⟨t2, st.trans a1, b1⟩
theorem vx_calll {S SX : Type} {post : Int64 → S → Prop} {px : SX → Prop} {B : S → State → Prop} {BX : String → SX → State → Prop} {AX : Nat → Prop} (hr : vx_Run p l e R s m args below meth c H locs cells slots mc ms (F0 m pc ls st0) rest (va_Ql post B A1 a) (vx_X px BX AX) free) (hS : va_S A0 H0 H locs) (hA : ∀ q, q < H.size → A1 q → A0 q) (hf : ∀ q, free q → A0 q) (hAX : ∀ q, q < H.size → AX q → A0 q)
    (kx : ∀ (E : String) (ce : Cell) (q9 : Addr) (u : SX) (t : State) (H1 : Heap) (locs1 : List Loc), t.heap = H1 → s.vm.Alike t.vm → px u → BX E u t → H.size ≤ H1.size → (∀ q : Nat, q < H.size → ¬ AX q → H1[q]? = H[q]?) → va_S A0 H0 H1 locs1 → H1[q9]? = some ce → ce.vm = .none → s.vm.findClass E = some ce.cls → vx_W p l e R s m args below meth c H1 locs1 (cells + mc) (slots + ms) Q (F0 m pc ls rest) q9)
    (kk : ∀ (r : Int64) (u : S) (t : State) (H1 : Heap) (locs1 : List Loc), t.heap = H1 → s.vm.Alike t.vm → post r u → B u t → H.size ≤ H1.size → (∀ q : Nat, q < H.size → ¬ A1 q → H1[q]? = H[q]?) → va_S A0 H0 H1 locs1 → W p l e R s m args below meth c H1 locs1 (cells + mc) (slots + ms) Q (F0 m (pc + 3) ls (.long r :: rest))) : W p l e R s m args below meth c H locs cells slots Q (F0 m pc ls st0) := by
  intro T hT X
  rcases hr T hT X with ⟨v, st₀, t, T', L, h0, X', hL, e1, e2, ⟨⟨r, u, hv, hp, hb⟩, hF⟩, st⟩ | ⟨q, st₀, t, T', L, E, ce, h0, X', hL, e1, e2, ⟨u, hp, hb, hF⟩, hce, hcv, hcl, st⟩
  · cases hv
    obtain ⟨k1, k2, k3⟩ := vx_keep h0 e1 hS hA hf hL hF
    obtain ⟨t2, a1, b1⟩ := kk r u t T'.heap (locs ++ L) e1.symm (by rw [← e2]; exact X'.warmed.alike) hp hb k1 k2 k3 T' rfl X'
    exact ⟨t2, st t2 a1, b1⟩
  · obtain ⟨k1, k2, k3⟩ := vx_keep h0 e1 hS hAX hf hL hF
    obtain ⟨t2, a1, b1⟩ := kx E ce q u t T'.heap (locs ++ L) e1.symm (by rw [← e2]; exact X'.warmed.alike) hp hb k1 k2 k3 (by rw [e1]; exact hce) hcv hcl T' rfl X'
    exact ⟨t2, st.trans a1, b1⟩
theorem vx_callf {S SX : Type} {post : UInt32 → S → Prop} {px : SX → Prop} {B : S → State → Prop} {BX : String → SX → State → Prop} {AX : Nat → Prop} (hr : vx_Run p l e R s m args below meth c H locs cells slots mc ms (F0 m pc ls st0) rest (va_Qf post B A1 a) (vx_X px BX AX) free) (hS : va_S A0 H0 H locs) (hA : ∀ q, q < H.size → A1 q → A0 q) (hf : ∀ q, free q → A0 q) (hAX : ∀ q, q < H.size → AX q → A0 q)
    (kx : ∀ (E : String) (ce : Cell) (q9 : Addr) (u : SX) (t : State) (H1 : Heap) (locs1 : List Loc), t.heap = H1 → s.vm.Alike t.vm → px u → BX E u t → H.size ≤ H1.size → (∀ q : Nat, q < H.size → ¬ AX q → H1[q]? = H[q]?) → va_S A0 H0 H1 locs1 → H1[q9]? = some ce → ce.vm = .none → s.vm.findClass E = some ce.cls → vx_W p l e R s m args below meth c H1 locs1 (cells + mc) (slots + ms) Q (F0 m pc ls rest) q9)
    (kk : ∀ (r : UInt32) (u : S) (t : State) (H1 : Heap) (locs1 : List Loc), t.heap = H1 → s.vm.Alike t.vm → post r u → B u t → H.size ≤ H1.size → (∀ q : Nat, q < H.size → ¬ A1 q → H1[q]? = H[q]?) → va_S A0 H0 H1 locs1 → W p l e R s m args below meth c H1 locs1 (cells + mc) (slots + ms) Q (F0 m (pc + 3) ls (.float r :: rest))) : W p l e R s m args below meth c H locs cells slots Q (F0 m pc ls st0) := by
  intro T hT X
  rcases hr T hT X with ⟨v, st₀, t, T', L, h0, X', hL, e1, e2, ⟨⟨r, u, hv, hp, hb⟩, hF⟩, st⟩ | ⟨q, st₀, t, T', L, E, ce, h0, X', hL, e1, e2, ⟨u, hp, hb, hF⟩, hce, hcv, hcl, st⟩
  · cases hv
    obtain ⟨k1, k2, k3⟩ := vx_keep h0 e1 hS hA hf hL hF
    obtain ⟨t2, a1, b1⟩ := kk r u t T'.heap (locs ++ L) e1.symm (by rw [← e2]; exact X'.warmed.alike) hp hb k1 k2 k3 T' rfl X'
    exact ⟨t2, st t2 a1, b1⟩
  · obtain ⟨k1, k2, k3⟩ := vx_keep h0 e1 hS hAX hf hL hF
    obtain ⟨t2, a1, b1⟩ := kx E ce q u t T'.heap (locs ++ L) e1.symm (by rw [← e2]; exact X'.warmed.alike) hp hb k1 k2 k3 (by rw [e1]; exact hce) hcv hcl T' rfl X'
    exact ⟨t2, st.trans a1, b1⟩
theorem vx_calld {S SX : Type} {post : UInt64 → S → Prop} {px : SX → Prop} {B : S → State → Prop} {BX : String → SX → State → Prop} {AX : Nat → Prop} (hr : vx_Run p l e R s m args below meth c H locs cells slots mc ms (F0 m pc ls st0) rest (va_Qd post B A1 a) (vx_X px BX AX) free) (hS : va_S A0 H0 H locs) (hA : ∀ q, q < H.size → A1 q → A0 q) (hf : ∀ q, free q → A0 q) (hAX : ∀ q, q < H.size → AX q → A0 q)
    (kx : ∀ (E : String) (ce : Cell) (q9 : Addr) (u : SX) (t : State) (H1 : Heap) (locs1 : List Loc), t.heap = H1 → s.vm.Alike t.vm → px u → BX E u t → H.size ≤ H1.size → (∀ q : Nat, q < H.size → ¬ AX q → H1[q]? = H[q]?) → va_S A0 H0 H1 locs1 → H1[q9]? = some ce → ce.vm = .none → s.vm.findClass E = some ce.cls → vx_W p l e R s m args below meth c H1 locs1 (cells + mc) (slots + ms) Q (F0 m pc ls rest) q9)
    (kk : ∀ (r : UInt64) (u : S) (t : State) (H1 : Heap) (locs1 : List Loc), t.heap = H1 → s.vm.Alike t.vm → post r u → B u t → H.size ≤ H1.size → (∀ q : Nat, q < H.size → ¬ A1 q → H1[q]? = H[q]?) → va_S A0 H0 H1 locs1 → W p l e R s m args below meth c H1 locs1 (cells + mc) (slots + ms) Q (F0 m (pc + 3) ls (.double r :: rest))) : W p l e R s m args below meth c H locs cells slots Q (F0 m pc ls st0) := by
  intro T hT X
  rcases hr T hT X with ⟨v, st₀, t, T', L, h0, X', hL, e1, e2, ⟨⟨r, u, hv, hp, hb⟩, hF⟩, st⟩ | ⟨q, st₀, t, T', L, E, ce, h0, X', hL, e1, e2, ⟨u, hp, hb, hF⟩, hce, hcv, hcl, st⟩
  · cases hv
    obtain ⟨k1, k2, k3⟩ := vx_keep h0 e1 hS hA hf hL hF
    obtain ⟨t2, a1, b1⟩ := kk r u t T'.heap (locs ++ L) e1.symm (by rw [← e2]; exact X'.warmed.alike) hp hb k1 k2 k3 T' rfl X'
    exact ⟨t2, st t2 a1, b1⟩
  · obtain ⟨k1, k2, k3⟩ := vx_keep h0 e1 hS hAX hf hL hF
    obtain ⟨t2, a1, b1⟩ := kx E ce q u t T'.heap (locs ++ L) e1.symm (by rw [← e2]; exact X'.warmed.alike) hp hb k1 k2 k3 (by rw [e1]; exact hce) hcv hcl T' rfl X'
    exact ⟨t2, st.trans a1, b1⟩
theorem vx_callv {S SX : Type} {post : S → Prop} {px : SX → Prop} {B : S → State → Prop} {BX : String → SX → State → Prop} {AX : Nat → Prop} (hr : vx_Run p l e R s m args below meth c H locs cells slots mc ms (F0 m pc ls st0) rest (va_Qv post B A1 a) (vx_X px BX AX) free) (hS : va_S A0 H0 H locs) (hA : ∀ q, q < H.size → A1 q → A0 q) (hf : ∀ q, free q → A0 q) (hAX : ∀ q, q < H.size → AX q → A0 q)
    (kx : ∀ (E : String) (ce : Cell) (q9 : Addr) (u : SX) (t : State) (H1 : Heap) (locs1 : List Loc), t.heap = H1 → s.vm.Alike t.vm → px u → BX E u t → H.size ≤ H1.size → (∀ q : Nat, q < H.size → ¬ AX q → H1[q]? = H[q]?) → va_S A0 H0 H1 locs1 → H1[q9]? = some ce → ce.vm = .none → s.vm.findClass E = some ce.cls → vx_W p l e R s m args below meth c H1 locs1 (cells + mc) (slots + ms) Q (F0 m pc ls rest) q9)
    (kk : ∀ (u : S) (t : State) (H1 : Heap) (locs1 : List Loc), t.heap = H1 → s.vm.Alike t.vm → post u → B u t → H.size ≤ H1.size → (∀ q : Nat, q < H.size → ¬ A1 q → H1[q]? = H[q]?) → va_S A0 H0 H1 locs1 → W p l e R s m args below meth c H1 locs1 (cells + mc) (slots + ms) Q (F0 m (pc + 3) ls (rest))) : W p l e R s m args below meth c H locs cells slots Q (F0 m pc ls st0) := by
  intro T hT X
  rcases hr T hT X with ⟨v, st₀, t, T', L, h0, X', hL, e1, e2, ⟨⟨u, hv, hp, hb⟩, hF⟩, st⟩ | ⟨q, st₀, t, T', L, E, ce, h0, X', hL, e1, e2, ⟨u, hp, hb, hF⟩, hce, hcv, hcl, st⟩
  · cases hv
    obtain ⟨k1, k2, k3⟩ := vx_keep h0 e1 hS hA hf hL hF
    obtain ⟨t2, a1, b1⟩ := kk u t T'.heap (locs ++ L) e1.symm (by rw [← e2]; exact X'.warmed.alike) hp hb k1 k2 k3 T' rfl X'
    exact ⟨t2, st t2 a1, b1⟩
  · obtain ⟨k1, k2, k3⟩ := vx_keep h0 e1 hS hAX hf hL hF
    obtain ⟨t2, a1, b1⟩ := kx E ce q u t T'.heap (locs ++ L) e1.symm (by rw [← e2]; exact X'.warmed.alike) hp hb k1 k2 k3 (by rw [e1]; exact hce) hcv hcl T' rfl X'
    exact ⟨t2, st.trans a1, b1⟩
/-- caught by the row x of this method's table; the rows ahead don't take it -/
theorem vx_catch {own name : String} {E : String} {ce : Cell} {q : Addr} (hown : s.vm.findClass own = some m.cls) (pre : List ExceptionTableEntry) (x : ExceptionTableEntry) (suf : List ExceptionTableEntry) (hsplit : c.exceptionTable.toList = pre ++ x :: suf)
    (hpass : ∀ z ∈ pre, covers z pc = false ∨ (z.catchType ≠ 0 ∧ ∃ nm : String, (Cond.classLink own z.catchType nm).before args s = true ∧ va_Nc E nm s)) (hx : covers x pc = true) (h0 : x.catchType ≠ 0)
    (hlink : (Cond.classLink own x.catchType name).before args s = true) (hcast : (Cond.castable E name).before args s = true) (hcell : H[q]? = some ce) (hv : ce.vm = .none) (hcl : s.vm.findClass E = some ce.cls)
    (kk : W p l e R s m args below meth c H locs cells slots Q (F0 m x.handlerPc ls [.ref q])) : vx_W p l e R s m args below meth c H locs cells slots Q (F0 m pc ls rest) q := by
  intro T hT X
  have hpl : e.platform.magicAccessors = ({} : Platform).magicAccessors := by rw [X.admits.platform]
  obtain ⟨c3, c4, hc3, hc4, hasg⟩ := Cond.castable_spec hcast
  cases Option.some.inj (hc3.symm.trans hcl)
  obtain ⟨c5, hc5, hcl5⟩ := Cond.classLink_spec hown hlink e.platform hpl
  cases Option.some.inj (hc4.symm.trans hc5)
  obtain ⟨vm', X', st⟩ := X.thenCaughtThrough q (g := F0 m pc ls rest) rfl (Steps.refl _) (by rw [hT]; exact hcell) (by rw [hv]; rfl) (by obtain ⟨k9, h9, -⟩ := Vm.findClass_spec hcl; exact ⟨k9, h9⟩) pre x suf hsplit
    (fun z hz => by
      rcases hpass z hz with h | ⟨hz0, nm, hl1, hn1⟩
      · exact Or.inl h
      · obtain ⟨c6, hc6, hcl6⟩ := Cond.classLink_spec hown hl1 e.platform hpl
        obtain ⟨a8, b8, h1, h2, h3⟩ := hn1
        cases Option.some.inj (h1.symm.trans hcl)
        cases Option.some.inj (h2.symm.trans hc6)
        exact Or.inr ⟨hz0, _, hcl6, h3⟩) hx (Or.inr ⟨h0, c4, hcl5, hasg⟩)
  obtain ⟨t, a1, b1⟩ := kk (T.setVm vm') hT X'
  exact ⟨t, st.trans a1, b1⟩
end Rows
section Ends
variable {p : Program} {l : Launch} {e : Env} {R : Room} {s : State} {m : MethodId} {args : Array Value} {below : List Frame} {meth : Method} {c : Code} {H : Heap} {locs : List Loc} {cells slots : Nat} {Q : State → Prop}
variable {mc ms : Nat} {free : Addr → Prop} {A0 A1 : Nat → Prop} {H0 : Heap} {a : Array Value} {ls : Array Slot} {st0 rest : List Value}
variable {Qc : Array Value → State → Outcome → State → Prop} {XC : String → State → State → Prop}
/-- what a body that may throw owes at its end -/
def vx_MQ (below : List Frame) (Qc : Array Value → State → Outcome → State → Prop) (XC : String → State → State → Prop) (a : Array Value) (s : State) (mc ms : Nat) (free : Addr → Prop) : State → Prop := fun t =>
  ∃ o, t.status = .running ∧ Ended t below o ∧ vx_Q Qc XC mc ms free a s o t
theorem vx_ret {g : JFrame} {mc ms : Nat} (k : W p l e R s m args below meth c H locs cells slots (MQ below Qc args s mc ms free) g) : W p l e R s m args below meth c H locs cells slots (vx_MQ below Qc XC args s mc ms free) g := by
  intro T hT X
  obtain ⟨t, a1, o, b1, b2, b3, b4⟩ := k T hT X
  exact ⟨t, a1, o, b1, b2, Or.inl ⟨b3, b4⟩⟩
/-- not caught here: it goes on to the caller -/
theorem vx_widen {g : JFrame} {q : Addr} {k n : Nat} (h1 : cells ≤ k) (h2 : slots ≤ n) (kk : vx_W p l e R s m args below meth c H locs k n Q g q) : vx_W p l e R s m args below meth c H locs cells slots Q g q := fun T hT X => kk T hT (stand_widen X h1 h2)
theorem vx_out {pc : Nat} {E : String} {ce : Cell} {q : Addr} {mc ms : Nat} (hout : ∀ x ∈ c.exceptionTable.toList, covers x pc = false) (hlocks : meth.locks = false) (hcell : H[q]? = some ce) (hv : ce.vm = .none) (hcl : s.vm.findClass E = some ce.cls)
    (hx : ∀ t : State, t.heap = H → s.vm.Alike t.vm → XC E s t) (hf : ∀ z ∈ locs, free z.base) (hc : cells ≤ mc) (hs : slots ≤ ms) :
    vx_W p l e R s m args below meth c H locs cells slots (vx_MQ below Qc XC args s mc ms free) (F0 m pc ls rest) q := by
  intro T hT X
  obtain ⟨st1, hrun, hend, hW, hsm⟩ := X.leaveThrown q (g := F0 m pc ls rest) rfl rfl rfl hout hlocks
  have hcell9 : (T.setFrames (.throwing q :: below)).heap[q]? = some ce := by
    show T.heap[q]? = some ce
    rw [hT]; exact hcell
  exact ⟨_, st1, .threw q, hrun, hend, Or.inr ⟨q, rfl, E, ce, locs, hx _ hT hW.alike, hcell9, hv, hcl, hW, hsm.mono hc hs, hf⟩⟩
theorem vx_frame {U : State} {k n : Nat} (h : s.sameButNew ({ U with vm := s.vm } : State) locs k n) : s.heap.size ≤ U.heap.size ∧ ∀ q : Nat, q < s.heap.size → (∀ z ∈ locs, z.base ≠ q) → U.heap[q]? = s.heap[q]? := by
  obtain ⟨-, h2, -, -, -, h6⟩ := h
  refine ⟨h2, fun q hq hz => ?_⟩
  obtain ⟨c9, e1, e2, e3, e4⟩ := h6 q _ (Array.getElem?_eq_getElem hq)
  have hs : c9.slots = (s.heap[q]).slots := Array.ext_getElem? fun i => e4 i fun hm => hz _ hm rfl
  have h9 : c9 = s.heap[q] := by
    rw [hs] at e2
    exact e2
  have e5 : U.heap[q]? = some c9 := e1
  rw [e5, h9, Array.getElem?_eq_getElem hq]
/-- the words of a throw but the four that speak of the heap -/
def vx_no (w : Cond) : Bool := decide (w ≠ .isRef (.static Bundle.tN "UNASSIGNED_STACK" Bundle.steD)) && decide (w ≠ .isRef (.static Bundle.tN "SUPPRESSED_SENTINEL" Bundle.listD)) && decide (w ≠ .laysStatic Bundle.tN "UNASSIGNED_STACK" Bundle.steD) && decide (w ≠ .laysStatic Bundle.tN "SUPPRESSED_SENTINEL" Bundle.listD)
def vx_at0 (own : String) (ic : Nat) (X : String) (names : List String) : List Cond := (Bundle.ownAtoms0 own ic X names).filter vx_no
def vx_atS (own : String) (ic : Nat) (X : String) (names : List String) : List Cond := (Bundle.ownAtoms own ic X names).filter vx_no
/-- a word that the tables alone decide, or a good one -/
def vx_ot (w : Cond) : Bool := w.onTables || goodWord w
theorem vx_ot_at {args a' : Array Value} {s U : State} {w : Cond} (hW : s.WarmedH U.vm) (hvm : s.vm = U.vm) (hg : vx_ot w = true) (h : w.before args s = true) : w.before a' U = true := by
  simp only [vx_ot, Bool.or_eq_true] at hg
  rcases hg with hg | hg
  · exact va_tabs hg hvm h
  · exact word_at hW (good_of_word hg) h
/-- a list's words: the good ones out of the method's own list, the others by premises of their own -/
theorem vx_hat {args : Array Value} {s : State} {L B : List Cond} (h1 : ∀ w ∈ L.filter goodWord, w.before args s = true) (h2 : ∀ w ∈ L.filter (fun w => !goodWord w), w ∈ B) (h3 : ∀ w ∈ B, w.before args s = true) : ∀ w ∈ L, w.before args s = true := by
  intro w hw
  by_cases g : goodWord w = true
  · exact h1 w (List.mem_filter.mpr ⟨hw, g⟩)
  · refine h3 w (h2 w (List.mem_filter.mpr ⟨hw, ?_⟩))
    show (!goodWord w) = true
    cases hgw : goodWord w
    · rfl
    · exact absurd hgw g
theorem vx_c {args : Array Value} {s : State} {w : Cond} {B : List Cond} (h : w.before args s = true) (t : ∀ w ∈ B, w.before args s = true) : ∀ w' ∈ w :: B, w'.before args s = true := fun w' h' => (List.mem_cons.mp h').elim (fun e => by rw [e]; exact h) (t w')
theorem vx_n {args : Array Value} {s : State} : ∀ w ∈ ([] : List Cond), w.before args s = true := fun _ h => nomatch h
theorem vx_own {args : Array Value} {s : State} {L : List Cond} (h1 : ∀ w ∈ L.filter vx_no, w.before args s = true)
    (hU : (Cond.isRef (.static Bundle.tN "UNASSIGNED_STACK" Bundle.steD)).before args s = true) (hN : (Cond.isRef (.static Bundle.tN "SUPPRESSED_SENTINEL" Bundle.listD)).before args s = true)
    (lU : (Cond.laysStatic Bundle.tN "UNASSIGNED_STACK" Bundle.steD).before args s = true) (lN : (Cond.laysStatic Bundle.tN "SUPPRESSED_SENTINEL" Bundle.listD).before args s = true) : ∀ w ∈ L, w.before args s = true := by
  intro w hw
  by_cases e1 : w = .isRef (.static Bundle.tN "UNASSIGNED_STACK" Bundle.steD)
  · rw [e1]; exact hU
  · by_cases e2 : w = .isRef (.static Bundle.tN "SUPPRESSED_SENTINEL" Bundle.listD)
    · rw [e2]; exact hN
    · by_cases e3 : w = .laysStatic Bundle.tN "UNASSIGNED_STACK" Bundle.steD
      · rw [e3]; exact lU
      · by_cases e4 : w = .laysStatic Bundle.tN "SUPPRESSED_SENTINEL" Bundle.listD
        · rw [e4]; exact lN
        · exact h1 w (List.mem_filter.mpr ⟨hw, by unfold vx_no; rw [decide_eq_true e1, decide_eq_true e2, decide_eq_true e3, decide_eq_true e4]; rfl⟩)
/-- where a static field lies, its class's statics cell in H -/
def vx_L (C n d : String) (A : Nat → Prop) (U : State) (H : Heap) : Prop := ∃ (c : ClassId) (k : Class) (i : Nat) (f : Field) (a : Nat) (cell : Cell), U.vm.findClass C = some c ∧ U.fieldFound? C n d = some (c, k, i, f) ∧ f.isStatic = true ∧ k.statics = some a ∧ H[a]? = some cell ∧ cell.vm.isStatics = true ∧ cell.cls = c ∧ f.slot < cell.slots.size ∧ k.staticTypes[f.slot]? = some f.type ∧ ¬ A a
theorem vx_L.moved {C n d : String} {A : Nat → Prop} {u U : State} {H : Heap} (hvm : u.vm.Alike U.vm) (h : vx_L C n d A u H) : vx_L C n d A U H := by
  obtain ⟨c, k, i, f, a, cell, h1, h2, h3, h4, h5, h6, h7, h8, h9, h10⟩ := h
  obtain ⟨k', hi', he⟩ := State.fieldFound?_setVm hvm h2
  exact ⟨c, k', i, f, a, cell, by rw [hvm.findClass]; exact h1, hi', h3, by rw [he]; exact h4, h5, h6, h7, h8, by rw [he]; exact h9, h10⟩
theorem vx_L.kept {C n d : String} {A : Nat → Prop} {U : State} {H H1 : Heap} (h : vx_L C n d A U H) (hq : ∀ a : Nat, a < H.size → ¬ A a → H1[a]? = H[a]?) : vx_L C n d A U H1 := by
  obtain ⟨c, k, i, f, a, cell, h1, h2, h3, h4, h5, h6, h7, h8, h9, h10⟩ := h
  exact ⟨c, k, i, f, a, cell, h1, h2, h3, h4, by rw [hq a (Array.getElem?_eq_some_iff.mp h5).1 h10]; exact h5, h6, h7, h8, h9, h10⟩
theorem vx_L.narrow {C n d : String} {A B : Nat → Prop} {U : State} {H : Heap} (h : vx_L C n d A U H) (hAB : ∀ q, B q → A q) : vx_L C n d B U H := by
  obtain ⟨c, k, i, f, a, cell, h1, h2, h3, h4, h5, h6, h7, h8, h9, h10⟩ := h
  exact ⟨c, k, i, f, a, cell, h1, h2, h3, h4, h5, h6, h7, h8, h9, fun z => h10 (hAB _ z)⟩
theorem vx_L.word {C n d : String} {A : Nat → Prop} {s : State} {args : Array Value} (h : vx_L C n d A s s.heap) : (Cond.laysStatic C n d).before args s = true := by
  obtain ⟨c, k, i, f, a, cell, h1, h2, h3, h4, h5, h6, h7, h8, h9, -⟩ := h
  show (Cond.laysStatic C n d).holds args s none s [] = true
  exact Cond.laysStatic_of h1 h2 h3 h4 h5 h6 h7 h8 h9
/-- .. and what it holds: null or some reference -/
def vx_Zq (C n d : String) (A : Nat → Prop) (U : State) (H : Heap) : Prop := va_Zq C n d A U H ∧ vx_L C n d A U H
theorem vx_Zq.moved {C n d : String} {A : Nat → Prop} {u U : State} {H : Heap} (hvm : u.vm.Alike U.vm) (h : vx_Zq C n d A u H) : vx_Zq C n d A U H := ⟨va_Zq.moved hvm h.1, vx_L.moved hvm h.2⟩
theorem vx_Zq.kept {C n d : String} {A : Nat → Prop} {U : State} {H H1 : Heap} (h : vx_Zq C n d A U H) (hq : ∀ a : Nat, a < H.size → ¬ A a → H1[a]? = H[a]?) : vx_Zq C n d A U H1 := ⟨va_Zq.kept h.1 hq, vx_L.kept h.2 hq⟩
theorem vx_Zq.narrow {C n d : String} {A B : Nat → Prop} {U : State} {H : Heap} (h : vx_Zq C n d A U H) (hAB : ∀ q, B q → A q) : vx_Zq C n d B U H := ⟨va_Zq.narrow h.1 hAB, vx_L.narrow h.2 hAB⟩
theorem vx_Zqof {args : Array Value} {s : State} {C n d : String} {A : Nat → Prop} (hl : (Cond.laysStatic C n d).before args s = true) (hini : (Cond.initialized C).before args s = true) (h : (Cond.isRef (.static C n d)).before args s = true) (hA : ∀ a : Nat, a < s.heap.size → ¬ A a) : vx_Zq C n d A s s.heap := by
  refine ⟨va_Zqof hl hini h hA, ?_⟩
  obtain ⟨c, k, i, f, a, cell, h1, h2, h3, h4, h5, h6, h7, h8, h9⟩ := Cond.laysStatic_spec hl
  exact ⟨c, k, i, f, a, cell, h1, h2, h3, h4, h5, h6, h7, h8, h9, hA a (Array.getElem?_eq_some_iff.mp h5).1⟩
theorem vx_isRef {C n d : String} {v : Value} {A : Nat → Prop} {s : State} {args : Array Value} (h : va_Z C n d v A s s.heap) (hv : v.isRef = true) : (Cond.isRef (.static C n d)).before args s = true := by
  obtain ⟨cf, kf, fi, f, a, cell, h1, h2, h3, h4, h5, h6, h7, -⟩ := h
  have he : (Term.static C n d).eval args s none [] s = some v := by
    simp [Term.eval, State.fieldNamed?, h1, h2, h4, h5, h6, h7]
  simp only [Cond.before, Cond.holds, Cond.value, he]
  cases v <;> simp_all [Value.isRef]
theorem vx_isRefq {C n d : String} {A : Nat → Prop} {s : State} {args : Array Value} (h : va_Zq C n d A s s.heap) : (Cond.isRef (.static C n d)).before args s = true := by
  rcases h with h | ⟨t, h⟩
  · exact vx_isRef h rfl
  · exact vx_isRef h rfl
/-- the same frame, seen from here: as if the method were called anew in this heap -/
theorem vx_rebase {T : State} (X : Stand p l e R s m args below meth c T locs cells slots) {R' : Room} (hf : R'.frames ≤ R.frames) (hl : R'.locals ≤ R.locals) (hc : cells + R'.cells ≤ R.cells) (hs : slots + R'.slots ≤ R.slots) :
    Stand p l e R' ((T.setVm s.vm).setFrames (.invoking m args :: below)) m args below meth c T [] 0 0 := by
  have htop : (T.setVm s.vm).topJava?.isSome := X.here.top
  have hF : ((T.setVm s.vm).setFrames (.invoking m args :: below)).frames = .invoking m args :: below := State.frames_setFrames _ (State.cur_lt_of_top htop)
  obtain ⟨g₀, hg0⟩ := Option.isSome_iff_exists.mp htop
  obtain ⟨r, hr⟩ := State.topJava?_eq_some.mp hg0
  have hl9 : e.platform.stackLimits (T.setVm s.vm).me = e.platform.stackLimits s.me := X.limits
  have hb9 : (T.setVm s.vm).me.stackBytes = s.me.stackBytes := X.bytes
  refine ⟨X.admits, X.cas, X.clock, hF, ?_, X.hears, X.method, X.code, X.here, X.tail, X.warmed, ?_, ?_, ?_⟩
  · have h := X.room
    have hU : ((T.setVm s.vm).setFrames (.invoking m args :: below)).localsInUse = s.localsInUse := by
      rw [State.localsInUse_invoking hF (meth := meth) (c := c) X.method X.code, State.localsInUse_invoking X.frames X.method X.code]
    simp only [State.hasRoom, Bool.and_eq_true, decide_eq_true_eq] at h ⊢
    obtain ⟨⟨⟨⟨h1, h2, h3, h4, h5, h6⟩, h7⟩, h8⟩, h9⟩ := h
    rw [X.frames, List.length_cons] at h2 h3
    have q1 := X.heapSize
    have q2 := X.used
    simp only [hF, hU, List.length_cons, State.stackLimits_setFrames, State.stackBytes_setFrames, hl9, hb9]
    refine ⟨⟨⟨⟨by omega, by omega, by omega, by omega, by omega, h6⟩, ?_⟩, ?_⟩, X.book⟩
    · show T.heap.size + R'.cells ≤ e.platform.maxCells
      omega
    · show T.slotsUsed + R'.slots ≤ e.platform.maxSlots
      omega
  · rw [State.stackLimits_setFrames]; rfl
  · rw [State.stackBytes_setFrames]; rfl
  · refine ⟨?_, Nat.le_refl _, Nat.le_refl _, ?_, ?_, fun a c9 h9 => ⟨c9, h9, rfl, rfl, fun _ _ => rfl⟩⟩
    · obtain ⟨t, ht, -⟩ := State.frames_cons hr
      show T.setVm s.vm = { ((T.setVm s.vm).setFrames (.invoking m args :: below)).setFrames (T.setVm s.vm).frames with heap := T.heap, slotsUsed := T.slotsUsed }
      rw [State.setFrames_setFrames, State.setFrames_self ht]
      rfl
    · show T.slotsUsed = T.slotsUsed + ((T.heap.toList.drop T.heap.size).map (·.slots.size)).sum
      rw [List.drop_eq_nil_of_le (Nat.le_of_eq Array.length_toList)]
      rfl
    · show ((T.heap.toList.drop T.heap.size).map (·.slots.size)).sum ≤ 0
      rw [List.drop_eq_nil_of_le (Nat.le_of_eq Array.length_toList)]
      exact Nat.le_refl _
/-- 'throw new E()': new; dup; invokespecial; athrow -/
theorem vx_throw0 {cc : ByteArray} {pc : Nat} (hexec : p.tables.exec = Jvm.exec) (hb : c.code = cc) (hl : l.stackTraces = false) {own cls : String} {names : List String} {ik ic mc ms : Nat} {A : Nat → Prop}
    (hown : s.vm.findClass own = some m.cls) (hcls : Bundle.fit cls = true) (hnames : ∀ n ∈ names, Bundle.fit n = true)
    (hk : (Cond.classLink own ik cls).before args s = true) (hini : (Cond.initialized cls).before args s = true) (hat : ∀ w ∈ vx_at0 own ic cls names, w.before args s = true)
    (hgood : ∀ w ∈ Cond.classLink own ik cls :: Cond.initialized cls :: vx_at0 own ic cls names, vx_ot w = true)
    (hU : vx_Zq Bundle.tN "UNASSIGNED_STACK" Bundle.steD A s s.heap) (hN : vx_Zq Bundle.tN "SUPPRESSED_SENTINEL" Bundle.listD A s s.heap) (hS : va_S A s.heap H locs) (hsize : ls.size = c.maxLocals)
    (d0 : decode cc pc = .ok (.new ik, 3)) (d3 : decode cc (pc + 3) = .ok (.dup, 1)) (d4 : decode cc (pc + 4) = .ok (.invokespecial ic, 3)) (d7 : decode cc (pc + 7) = .ok (.athrow, 1))
    (hout : ∀ x ∈ c.exceptionTable.toList, covers x (pc + 7) = false)
    (hRframes : names.length + 3 < R.frames) (hRlocals : (rest.map fun v => v.category).sum + (13 * (names.length + 1) + 42) ≤ R.locals) (hRcells : cells + 1 ≤ R.cells) (hRslots : slots + 6 ≤ R.slots) (hlocks : meth.locks = false)
    (hx : ∀ t : State, s.vm.Alike t.vm → H.size ≤ t.heap.size → (∀ q : Nat, q < H.size → t.heap[q]? = H[q]?) → XC cls s t)
    (hf : ∀ z ∈ locs, free z.base) (hc : cells + 1 ≤ mc) (hs : slots + 6 ≤ ms) :
    W p l e R s m args below meth c H locs cells slots (vx_MQ below Qc XC args s mc ms free) (F0 m pc ls rest) := by
  intro T hT X
  have htr : e.platform.stackTraces = false := (show e.platform.stackTraces = l.stackTraces by rw [X.admits.platform]).trans hl
  have Y := vx_rebase X (R' := { frames := R.frames, locals := R.locals, cells := 1, slots := 6 }) (Nat.le_refl _) (Nat.le_refl _) hRcells hRslots
  obtain ⟨s', hA⟩ : ∃ z, z = (T.setVm s.vm).setFrames (.invoking m args :: below) := ⟨_, rfl⟩
  rw [← hA] at Y
  have hvm : s'.vm = s.vm := by rw [hA]; rfl
  have hhp : s'.heap = H := by rw [hA]; exact hT
  have hW0 : s.WarmedH s'.vm := by rw [hvm]; exact State.WarmedH.refl s
  have hat' : ∀ w ∈ vx_at0 own ic cls names, w.before args s' = true := fun w hw => vx_ot_at hW0 hvm.symm (hgood w (List.mem_cons_of_mem _ (List.mem_cons_of_mem _ hw))) (hat w hw)
  have hk' : (Cond.classLink own ik cls).before args s' = true := vx_ot_at hW0 hvm.symm (hgood _ List.mem_cons_self) hk
  have hini' : (Cond.initialized cls).before args s' = true := vx_ot_at hW0 hvm.symm (hgood _ (List.mem_cons_of_mem _ List.mem_cons_self)) hini
  have hU' : vx_Zq Bundle.tN "UNASSIGNED_STACK" Bundle.steD A s' s'.heap := by rw [hhp]; exact vx_Zq.moved hW0.alike (hU.kept hS.2.1)
  have hN' : vx_Zq Bundle.tN "SUPPRESSED_SENTINEL" Bundle.listD A s' s'.heap := by rw [hhp]; exact vx_Zq.moved hW0.alike (hN.kept hS.2.1)
  have h : ∀ w ∈ Bundle.ownAtoms0 own ic cls names, w.before args s' = true := vx_own hat' (vx_isRefq hU'.1) (vx_isRefq hN'.1) hU'.2.word hN'.2.word
  have hown' : s'.vm.findClass own = some m.cls := by rw [hvm]; exact hown
  have hins : (Cond.instantiable cls 6).before args s' = true := h _ (by simp [Bundle.ownAtoms0])
  obtain ⟨vm₁, cX, kX, hfX, hkX, -, -, X₁, st1⟩ := Y.newCold hexec (own := own) (C := cls) (index := ik) (n := 6) hown' hk' hins hini'
    (g := F0 m pc ls rest) rfl (by rw [hb]; exact d0) (Nat.le_refl _) (Nat.le_refl _)
  generalize hT1 : (T.setVm vm₁).pushCell { cls := cX, slots := kX.instanceTypes.map defaultValue, vm := .none } = T1 at X₁ st1
  have hcat : (Value.ref T.heap.size).category = 1 := rfl
  have hcellA : T1.heap[T.heap.size]? = some (freshCell cX kX) := by rw [← hT1]; exact State.heap_pushCell_size _ _
  have d3' : decode c.code (pc + 3) = .ok (.dup, 1) := by rw [hb]; exact d3
  obtain ⟨U, hsteps, hrun, hend, hW, hsame, ce, hce, hO⟩ := X₁.ctorThrow0 hexec htr (own := own) (cls := cls) (names := names) (ic := ic) hown' hcls hnames h (fun x hx => nomatch hx) hfX hkX hcellA (by rw [hhp, hT]; exact Nat.le_refl _)
    (g := { method := m, pc := pc + 4, locals := ls, stack := .ref T.heap.size :: .ref T.heap.size :: rest, locked := none }) rfl hsize rfl rfl (rest := rest) rfl
    (by rw [hb]; exact d4) (by rw [hb]; exact d7) hout hRframes (by simp only [List.map_cons, List.sum_cons, hcat]; omega) hlocks
  obtain ⟨f1, f2⟩ := vx_frame hsame
  rw [hhp] at f1 f2
  have hWs : s.WarmedH U.vm := State.WarmedH.trans hW0 hW
  have hcl : s.vm.findClass cls = some ce.cls := by
    have h9 := hO.cls
    rw [hvm] at h9
    exact h9
  have hall : s.sameButNew ({ U with vm := s.vm } : State) locs mc ms := by
    subst hA
    obtain ⟨e1, e2⟩ := hsame
    rw [State.setFrames_setFrames] at e1
    have h2 : (T.setVm s.vm).sameButNew ({ U with vm := s.vm } : State) [] (0 + 1) (0 + 6) := ⟨e1, e2⟩
    have h3 := X.same.trans h2
    rw [List.append_nil] at h3
    exact h3.mono hc hs
  refine ⟨U, ?_, .threw T.heap.size, hrun, hend, Or.inr ⟨T.heap.size, rfl, cls, ce, locs, hx U hWs.alike f1 (fun q hq => f2 q hq (fun z hz => nomatch hz)), hce, hO.vm, hcl, hWs, hall, hf⟩⟩
  refine st1 _ ?_
  show Steps p.tables e below (T1.setTop { method := m, pc := pc + 3, locals := ls, stack := .ref T.heap.size :: rest, locked := none }) _
  jvm_step X₁.here [X₁.here.top, hexec, d3', Value.category]
  exact hsteps
/-- 'throw new E("text")': new; dup; ldc; invokespecial; athrow -/
theorem vx_throwS {cc : ByteArray} {pc : Nat} (hexec : p.tables.exec = Jvm.exec) (hb : c.code = cc) (hl : l.stackTraces = false) {own cls text : String} {names : List String} {ik is ic mc ms sa : Nat} {A : Nat → Prop}
    (hown : s.vm.findClass own = some m.cls) (hcls : Bundle.fit cls = true) (hnames : ∀ n ∈ names, Bundle.fit n = true)
    (hk : (Cond.classLink own ik cls).before args s = true) (hini : (Cond.initialized cls).before args s = true) (hstr : vk_R own is text sa s) (hat : ∀ w ∈ vx_atS own ic cls names, w.before args s = true)
    (hgood : ∀ w ∈ Cond.classLink own ik cls :: Cond.initialized cls :: vx_atS own ic cls names, vx_ot w = true)
    (hU : vx_Zq Bundle.tN "UNASSIGNED_STACK" Bundle.steD A s s.heap) (hN : vx_Zq Bundle.tN "SUPPRESSED_SENTINEL" Bundle.listD A s s.heap) (hS : va_S A s.heap H locs) (hsize : ls.size = c.maxLocals)
    (d0 : decode cc pc = .ok (.new ik, 3)) (d3 : decode cc (pc + 3) = .ok (.dup, 1)) (d4 : decode cc (pc + 4) = .ok (.ldc is, 2)) (d6 : decode cc (pc + 6) = .ok (.invokespecial ic, 3)) (d9 : decode cc (pc + 9) = .ok (.athrow, 1))
    (hout : ∀ x ∈ c.exceptionTable.toList, covers x (pc + 9) = false)
    (hRframes : names.length + 3 < R.frames) (hRlocals : (rest.map fun v => v.category).sum + (13 * (names.length + 1) + 43) ≤ R.locals) (hRcells : cells + 1 ≤ R.cells) (hRslots : slots + 6 ≤ R.slots) (hlocks : meth.locks = false)
    (hx : ∀ t : State, s.vm.Alike t.vm → H.size ≤ t.heap.size → (∀ q : Nat, q < H.size → t.heap[q]? = H[q]?) → XC cls s t)
    (hf : ∀ z ∈ locs, free z.base) (hc : cells + 1 ≤ mc) (hs : slots + 6 ≤ ms) :
    W p l e R s m args below meth c H locs cells slots (vx_MQ below Qc XC args s mc ms free) (F0 m pc ls rest) := by
  intro T hT X
  have htr : e.platform.stackTraces = false := (show e.platform.stackTraces = l.stackTraces by rw [X.admits.platform]).trans hl
  have Y := vx_rebase X (R' := { frames := R.frames, locals := R.locals, cells := 1, slots := 6 }) (Nat.le_refl _) (Nat.le_refl _) hRcells hRslots
  obtain ⟨s', hA⟩ : ∃ z, z = (T.setVm s.vm).setFrames (.invoking m args :: below) := ⟨_, rfl⟩
  rw [← hA] at Y
  have hvm : s'.vm = s.vm := by rw [hA]; rfl
  have hhp : s'.heap = H := by rw [hA]; exact hT
  have hW0 : s.WarmedH s'.vm := by rw [hvm]; exact State.WarmedH.refl s
  have hat' : ∀ w ∈ vx_atS own ic cls names, w.before args s' = true := fun w hw => vx_ot_at hW0 hvm.symm (hgood w (List.mem_cons_of_mem _ (List.mem_cons_of_mem _ hw))) (hat w hw)
  have hk' : (Cond.classLink own ik cls).before args s' = true := vx_ot_at hW0 hvm.symm (hgood _ List.mem_cons_self) hk
  have hini' : (Cond.initialized cls).before args s' = true := vx_ot_at hW0 hvm.symm (hgood _ (List.mem_cons_of_mem _ List.mem_cons_self)) hini
  have hU' : vx_Zq Bundle.tN "UNASSIGNED_STACK" Bundle.steD A s' s'.heap := by rw [hhp]; exact vx_Zq.moved hW0.alike (hU.kept hS.2.1)
  have hN' : vx_Zq Bundle.tN "SUPPRESSED_SENTINEL" Bundle.listD A s' s'.heap := by rw [hhp]; exact vx_Zq.moved hW0.alike (hN.kept hS.2.1)
  have h : ∀ w ∈ Bundle.ownAtoms own ic cls names, w.before args s' = true := vx_own hat' (vx_isRefq hU'.1) (vx_isRefq hN'.1) hU'.2.word hN'.2.word
  have hown' : s'.vm.findClass own = some m.cls := by rw [hvm]; exact hown
  have hins : (Cond.instantiable cls 6).before args s' = true := h _ (by simp [Bundle.ownAtoms])
  obtain ⟨vm₁, cX, kX, hfX, hkX, -, -, X₁, st1⟩ := Y.newCold hexec (own := own) (C := cls) (index := ik) (n := 6) hown' hk' hins hini'
    (g := F0 m pc ls rest) rfl (by rw [hb]; exact d0) (Nat.le_refl _) (Nat.le_refl _)
  generalize hT1 : (T.setVm vm₁).pushCell { cls := cX, slots := kX.instanceTypes.map defaultValue, vm := .none } = T1 at X₁ st1
  have hcat : (Value.ref T.heap.size).category = 1 := rfl
  have hcellA : T1.heap[T.heap.size]? = some (freshCell cX kX) := by rw [← hT1]; exact State.heap_pushCell_size _ _
  have d3' : decode c.code (pc + 3) = .ok (.dup, 1) := by rw [hb]; exact d3
  have d4' : decode c.code (pc + 4) = .ok (.ldc is, 2) := by rw [hb]; exact d4
  have hstr' : vk_R own is text sa s' := vk_R.warm hW0 hstr
  obtain ⟨U, hsteps, hrun, hend, hW, hsame, ce, hce, hO⟩ := X₁.ctorThrowS hexec htr (own := own) (cls := cls) (names := names) (ic := ic) hown' hcls hnames h (fun x hx => nomatch hx) hfX hkX hcellA (by rw [hhp, hT]; exact Nat.le_refl _) (msg := .ref sa) rfl
    (g := { method := m, pc := pc + 6, locals := ls, stack := .ref sa :: .ref T.heap.size :: .ref T.heap.size :: rest, locked := none }) rfl hsize rfl rfl (rest := rest) rfl
    (by rw [hb]; exact d6) (by rw [hb]; exact d9) hout hRframes (by simp only [List.map_cons, List.sum_cons, hcat]; omega) hlocks
  obtain ⟨f1, f2⟩ := vx_frame hsame
  rw [hhp] at f1 f2
  have hWs : s.WarmedH U.vm := State.WarmedH.trans hW0 hW
  have hcl : s.vm.findClass cls = some ce.cls := by
    have h9 := hO.cls
    rw [hvm] at h9
    exact h9
  have hall : s.sameButNew ({ U with vm := s.vm } : State) locs mc ms := by
    subst hA
    obtain ⟨e1, e2⟩ := hsame
    rw [State.setFrames_setFrames] at e1
    have h2 : (T.setVm s.vm).sameButNew ({ U with vm := s.vm } : State) [] (0 + 1) (0 + 6) := ⟨e1, e2⟩
    have h3 := X.same.trans h2
    rw [List.append_nil] at h3
    exact h3.mono hc hs
  refine ⟨U, ?_, .threw T.heap.size, hrun, hend, Or.inr ⟨T.heap.size, rfl, cls, ce, locs, hx U hWs.alike f1 (fun q hq => f2 q hq (fun z hz => nomatch hz)), hce, hO.vm, hcl, hWs, hall, hf⟩⟩
  refine st1 _ ?_
  show Steps p.tables e below (T1.setTop { method := m, pc := pc + 3, locals := ls, stack := .ref T.heap.size :: rest, locked := none }) _
  jvm_step X₁.here [X₁.here.top, hexec, d3', Value.category]
  exact X₁.ldcString hexec (own := own) (text := text) (index := is) (a := sa) hown' hstr'.1 hstr'.2
    (g := { method := m, pc := pc + 4, locals := ls, stack := .ref T.heap.size :: .ref T.heap.size :: rest, locked := none }) rfl d4' _ hsteps
/-- 'throw new E("text")', the text by a wide index -/
theorem vx_throwSW {cc : ByteArray} {pc : Nat} (hexec : p.tables.exec = Jvm.exec) (hb : c.code = cc) (hl : l.stackTraces = false) {own cls text : String} {names : List String} {ik is ic mc ms sa : Nat} {A : Nat → Prop}
    (hown : s.vm.findClass own = some m.cls) (hcls : Bundle.fit cls = true) (hnames : ∀ n ∈ names, Bundle.fit n = true)
    (hk : (Cond.classLink own ik cls).before args s = true) (hini : (Cond.initialized cls).before args s = true) (hstr : vk_R own is text sa s) (hat : ∀ w ∈ vx_atS own ic cls names, w.before args s = true)
    (hgood : ∀ w ∈ Cond.classLink own ik cls :: Cond.initialized cls :: vx_atS own ic cls names, vx_ot w = true)
    (hU : vx_Zq Bundle.tN "UNASSIGNED_STACK" Bundle.steD A s s.heap) (hN : vx_Zq Bundle.tN "SUPPRESSED_SENTINEL" Bundle.listD A s s.heap) (hS : va_S A s.heap H locs) (hsize : ls.size = c.maxLocals)
    (d0 : decode cc pc = .ok (.new ik, 3)) (d3 : decode cc (pc + 3) = .ok (.dup, 1)) (d4 : decode cc (pc + 4) = .ok (.ldc_w is, 3)) (d7 : decode cc (pc + 7) = .ok (.invokespecial ic, 3)) (d10 : decode cc (pc + 10) = .ok (.athrow, 1))
    (hout : ∀ x ∈ c.exceptionTable.toList, covers x (pc + 10) = false)
    (hRframes : names.length + 3 < R.frames) (hRlocals : (rest.map fun v => v.category).sum + (13 * (names.length + 1) + 43) ≤ R.locals) (hRcells : cells + 1 ≤ R.cells) (hRslots : slots + 6 ≤ R.slots) (hlocks : meth.locks = false)
    (hx : ∀ t : State, s.vm.Alike t.vm → H.size ≤ t.heap.size → (∀ q : Nat, q < H.size → t.heap[q]? = H[q]?) → XC cls s t)
    (hf : ∀ z ∈ locs, free z.base) (hc : cells + 1 ≤ mc) (hs : slots + 6 ≤ ms) :
    W p l e R s m args below meth c H locs cells slots (vx_MQ below Qc XC args s mc ms free) (F0 m pc ls rest) := by
  intro T hT X
  have htr : e.platform.stackTraces = false := (show e.platform.stackTraces = l.stackTraces by rw [X.admits.platform]).trans hl
  have Y := vx_rebase X (R' := { frames := R.frames, locals := R.locals, cells := 1, slots := 6 }) (Nat.le_refl _) (Nat.le_refl _) hRcells hRslots
  obtain ⟨s', hA⟩ : ∃ z, z = (T.setVm s.vm).setFrames (.invoking m args :: below) := ⟨_, rfl⟩
  rw [← hA] at Y
  have hvm : s'.vm = s.vm := by rw [hA]; rfl
  have hhp : s'.heap = H := by rw [hA]; exact hT
  have hW0 : s.WarmedH s'.vm := by rw [hvm]; exact State.WarmedH.refl s
  have hat' : ∀ w ∈ vx_atS own ic cls names, w.before args s' = true := fun w hw => vx_ot_at hW0 hvm.symm (hgood w (List.mem_cons_of_mem _ (List.mem_cons_of_mem _ hw))) (hat w hw)
  have hk' : (Cond.classLink own ik cls).before args s' = true := vx_ot_at hW0 hvm.symm (hgood _ List.mem_cons_self) hk
  have hini' : (Cond.initialized cls).before args s' = true := vx_ot_at hW0 hvm.symm (hgood _ (List.mem_cons_of_mem _ List.mem_cons_self)) hini
  have hU' : vx_Zq Bundle.tN "UNASSIGNED_STACK" Bundle.steD A s' s'.heap := by rw [hhp]; exact vx_Zq.moved hW0.alike (hU.kept hS.2.1)
  have hN' : vx_Zq Bundle.tN "SUPPRESSED_SENTINEL" Bundle.listD A s' s'.heap := by rw [hhp]; exact vx_Zq.moved hW0.alike (hN.kept hS.2.1)
  have h : ∀ w ∈ Bundle.ownAtoms own ic cls names, w.before args s' = true := vx_own hat' (vx_isRefq hU'.1) (vx_isRefq hN'.1) hU'.2.word hN'.2.word
  have hown' : s'.vm.findClass own = some m.cls := by rw [hvm]; exact hown
  have hins : (Cond.instantiable cls 6).before args s' = true := h _ (by simp [Bundle.ownAtoms])
  obtain ⟨vm₁, cX, kX, hfX, hkX, -, -, X₁, st1⟩ := Y.newCold hexec (own := own) (C := cls) (index := ik) (n := 6) hown' hk' hins hini'
    (g := F0 m pc ls rest) rfl (by rw [hb]; exact d0) (Nat.le_refl _) (Nat.le_refl _)
  generalize hT1 : (T.setVm vm₁).pushCell { cls := cX, slots := kX.instanceTypes.map defaultValue, vm := .none } = T1 at X₁ st1
  have hcat : (Value.ref T.heap.size).category = 1 := rfl
  have hcellA : T1.heap[T.heap.size]? = some (freshCell cX kX) := by rw [← hT1]; exact State.heap_pushCell_size _ _
  have d3' : decode c.code (pc + 3) = .ok (.dup, 1) := by rw [hb]; exact d3
  have d4' : decode c.code (pc + 4) = .ok (.ldc_w is, 3) := by rw [hb]; exact d4
  have hstr' : vk_R own is text sa s' := vk_R.warm hW0 hstr
  obtain ⟨U, hsteps, hrun, hend, hW, hsame, ce, hce, hO⟩ := X₁.ctorThrowS hexec htr (own := own) (cls := cls) (names := names) (ic := ic) hown' hcls hnames h (fun x hx => nomatch hx) hfX hkX hcellA (by rw [hhp, hT]; exact Nat.le_refl _) (msg := .ref sa) rfl
    (g := { method := m, pc := pc + 7, locals := ls, stack := .ref sa :: .ref T.heap.size :: .ref T.heap.size :: rest, locked := none }) rfl hsize rfl rfl (rest := rest) rfl
    (by rw [hb]; exact d7) (by rw [hb]; exact d10) hout hRframes (by simp only [List.map_cons, List.sum_cons, hcat]; omega) hlocks
  obtain ⟨f1, f2⟩ := vx_frame hsame
  rw [hhp] at f1 f2
  have hWs : s.WarmedH U.vm := State.WarmedH.trans hW0 hW
  have hcl : s.vm.findClass cls = some ce.cls := by
    have h9 := hO.cls
    rw [hvm] at h9
    exact h9
  have hall : s.sameButNew ({ U with vm := s.vm } : State) locs mc ms := by
    subst hA
    obtain ⟨e1, e2⟩ := hsame
    rw [State.setFrames_setFrames] at e1
    have h2 : (T.setVm s.vm).sameButNew ({ U with vm := s.vm } : State) [] (0 + 1) (0 + 6) := ⟨e1, e2⟩
    have h3 := X.same.trans h2
    rw [List.append_nil] at h3
    exact h3.mono hc hs
  refine ⟨U, ?_, .threw T.heap.size, hrun, hend, Or.inr ⟨T.heap.size, rfl, cls, ce, locs, hx U hWs.alike f1 (fun q hq => f2 q hq (fun z hz => nomatch hz)), hce, hO.vm, hcl, hWs, hall, hf⟩⟩
  refine st1 _ ?_
  show Steps p.tables e below (T1.setTop { method := m, pc := pc + 3, locals := ls, stack := .ref T.heap.size :: rest, locked := none }) _
  jvm_step X₁.here [X₁.here.top, hexec, d3', Value.category]
  exact X₁.ldcStringW hexec (own := own) (text := text) (index := is) (a := sa) hown' hstr'.1 hstr'.2
    (g := { method := m, pc := pc + 4, locals := ls, stack := .ref T.heap.size :: .ref T.heap.size :: rest, locked := none }) rfl d4' _ hsteps
end Ends
section Bodies
variable {l : Launch}
theorem vx_ofW {y : MethodName} {ws ws' : List Cond} {rm : Room} {Pc : Array Value → State → Prop} {Qc : Array Value → State → Outcome → State → Prop} {XC : String → State → State → Prop} {mc ms : Nat} {free : Addr → Prop} {cc : ByteArray} {maxL : Nat} {ret : Option FieldType}
    (hy : plainName y.cls = true) (hw : ws = Cond.code y cc maxL ret :: ws')
    (body : ∀ p e s m args below meth c s₁, BodyLoose p l y (headSpec ws rm) cc maxL ret e s m args below meth c s₁ → c.maxLocals = maxL → (∀ x ∈ c.exceptionTable.toList, False) → Pc args s →
      W p l e (headSpec ws rm).room s m args below meth c s.heap [] 0 0 (vx_MQ below Qc XC args s mc ms free) (entryFrame m args maxL)) : vx_Met l y ws rm Pc Qc XC mc ms free := by
  refine MetFree.of_bodyS (code := cc) (maxLocals := maxL) (ret := ret) hy ?_ ?_
  · intro args s m h hn
    obtain ⟨meth, c, h1, h2, h3, h4, h5, h6, -, -⟩ := Cond.code_spec hn (atoms_spec (ws := ws) h _ (by rw [hw]; exact List.mem_cons_self))
    exact ⟨meth, c, h1, h2, h3, h4, h5, h6⟩
  · intro p e s m args below meth c s₁ B hml hP _
    have hh0 : s₁.heap = s.heap := by rw [B.state]; rfl
    have ht : ∀ x ∈ c.exceptionTable.toList, False := by
      obtain ⟨meth9, c9, h1, h2, -, -, -, -, h7, -⟩ := Cond.code_spec B.named (atoms_spec (ws := ws) B.pre _ (by rw [hw]; exact List.mem_cons_self))
      cases Option.some.inj (h1.symm.trans B.method)
      cases Option.some.inj (h2.symm.trans (Stand.of_body B).code)
      intro x hx
      rw [Array.isEmpty_iff.mp h7] at hx
      cases hx
    obtain ⟨t, a1, o, b1, b2, b3⟩ := body p e s m args below meth c s₁ B hml ht hP s₁ hh0 (Stand.of_body B)
    exact ⟨t, o, a1, b1, b2, b3⟩
/-- the table of a body with handlers -/
theorem vx_table {p : Program} {x y : MethodName} {S : Spec} {cc bytes : ByteArray} {maxL maxL' : Nat} {ret ret' : Option FieldType} {e : Env} {s s₁ : State} {m : MethodId} {args : Array Value} {below : List Frame} {meth : Method} {c : Code} {hh : List (Nat × Nat × Nat × Nat)}
    (B : BodyLoose p l y S cc maxL ret e s m args below meth c s₁) (h : (Cond.codeWith y bytes maxL' ret' hh).before args s = true) : c.exceptionTable.toList = tableOf hh := by
  obtain ⟨m9, meth9, c9, hn9, h1, h2, -, -, h6, -⟩ := Cond.codeWith_spec h
  cases Option.some.inj (hn9.symm.trans B.named)
  cases Option.some.inj (h1.symm.trans B.method)
  cases Option.some.inj (h2.symm.trans (Stand.of_body B).code)
  rw [← h6, table_eq]
end Bodies
end VXA
/-! ===== END ===== -/
/-! ===== BEGIN a static call of a method with an exception table ===== -/
section VXS
variable {p : Program} {l : Launch} {e : Env} {R : Room} {s : State} {m : MethodId} {args : Array Value} {below : List Frame} {meth : Method} {c : Code} {T : State} {H : Heap} {locs : List Loc} {cells slots : Nat}
abbrev vx_CSW (R : Room) (s : State) (args : Array Value) (own : String) (index : Nat) (y : MethodName) (bytes : ByteArray) (maxL : Nat) (ret : Option FieldType) (hh : List (Nat × Nat × Nat × Nat)) (ws : List Cond) (rm : Room) (mc ms n : Nat) : Prop :=
  (rm.cells = mc ∧ rm.slots = ms ∧ rm.frames + 1 ≤ R.frames ∧ 8 + (maxL + 11) + rm.locals ≤ R.locals ∧ (∀ w ∈ ws, ∀ (a' : Array Value) (U : State), s.WarmedH U.vm → w.before a' U = true) ∧ Cond.codeWith y bytes maxL ret hh ∈ ws) ∧
  (Cond.codeWith y bytes maxL ret hh).before args s = true ∧ (Cond.initialized y.cls).before args s = true ∧ (y.cls ≠ "java/lang/invoke/MethodHandle" ∧ y.cls ≠ "java/lang/invoke/VarHandle") ∧
  (∀ sig, parseMethodDescriptor y.desc = some sig → n = sig.parameters.length) ∧ (Cond.methodLink own index y).before args s = true ∧ (Cond.static y).before args s = true
theorem vx_cwSW {own : String} {index maxL mc ms : Nat} {y : MethodName} {bytes : ByteArray} {ret : Option FieldType} {hh : List (Nat × Nat × Nat × Nat)} {Ts ws ws' : List Cond} {rm : Room} (n : Nat) (ht : ∀ w ∈ Ts, w.before args s = true) (hT : GoodIn Ts (va_wsS own index y ws)) (hw : ws = Cond.codeWith y bytes maxL ret hh :: ws') (hrc : rm.cells = mc) (hrs : rm.slots = ms)
    (hd : y.cls ≠ "java/lang/invoke/MethodHandle" ∧ y.cls ≠ "java/lang/invoke/VarHandle" ∧ (parseMethodDescriptor y.desc).map (fun d => d.parameters.length) = some n) (hR : rm.frames + 1 ≤ R.frames ∧ 8 + (maxL + 11) + rm.locals ≤ R.locals) :
    vx_CSW R s args own index y bytes maxL ret hh ws rm mc ms n := by
  have ok : ∀ w ∈ va_wsS own index y ws, w.before args s = true := fun w h => ht w (hT w h).1
  have hG : GoodIn Ts ws := fun w h => hT w (by unfold va_wsS; exact List.mem_append_right _ h)
  have hc : Cond.codeWith y bytes maxL ret hh ∈ ws := by rw [hw]; exact List.mem_cons_self
  refine ⟨⟨hrc, hrs, hR.1, hR.2, pay_in ht hG, hc⟩, ht _ (hG _ hc).1, ok _ (by simp [va_wsS]), ⟨hd.1, hd.2.1⟩, fun sig h => ?_, ok _ (by simp [va_wsS]), ok _ (by simp [va_wsS])⟩
  have h2 := hd.2.2
  rw [h] at h2
  exact (Option.some.inj h2).symm
theorem vx_callSW (X : Stand p l e R s m args below meth c T locs cells slots) (hexec : p.tables.exec = Jvm.exec) {own : String} {index : Nat} {y : MethodName} {bytes : ByteArray} {maxL : Nat} {ret : Option FieldType} {hh : List (Nat × Nat × Nat × Nat)}
    (hown : s.vm.findClass own = some m.cls) (hlink : (Cond.methodLink own index y).before args s = true) (hstat : (Cond.static y).before args s = true) (hinit : (Cond.initialized y.cls).before args s = true)
    (hcode : (Cond.codeWith y bytes maxL ret hh).before args s = true) (hy : y.cls ≠ "java/lang/invoke/MethodHandle" ∧ y.cls ≠ "java/lang/invoke/VarHandle")
    {W9 : Nat} {Pre : Pt → Array Value → Prop} {Post : Pt → Array Value → Option Value → Pt → Prop} (hK : Back l R p e below s args y 3 W9 Pre Post)
    {g : JFrame} (hg : g.method = m) (hsize : g.locals.size = c.maxLocals) {argsL rest : List Value} (hlen : ∀ sig, parseMethodDescriptor y.desc = some sig → argsL.length = sig.parameters.length)
    (hstack : g.stack = argsL.reverse ++ rest) (hW : 2 * g.monitorRoom + (rest.map fun v => v.category).sum ≤ W9) (hdg : decode c.code g.pc = .ok (.invokestatic index, 3))
    (hpre : ∀ vm₁, s.WarmedH vm₁ → Pre ⟨T.setVm vm₁, locs, cells, slots⟩ argsL.toArray) :
    ∃ (v : Option Value) (vm₁ : Vm) (B : Pt), s.WarmedH vm₁ ∧ Stand p l e R s m args below meth c B.U B.locs B.cells B.slots ∧ Post ⟨T.setVm vm₁, locs, cells, slots⟩ argsL.toArray v B ∧
      ∀ target, Steps p.tables e below (B.U.setTop { g with pc := g.pc + 3, stack := v.toList ++ rest }) target → Steps p.tables e below (T.setTop g) target := by
  obtain ⟨mk, methM, cM, hnamed, hmethM, -, -, -, -, -, -, hsigM⟩ := Cond.codeWith_spec hcode
  have hstatic : methM.isStatic = true := Cond.static_spec hnamed hmethM hstat
  obtain ⟨kP, hkP, -⟩ := className_of_methodNamed hnamed
  have hinitP : kP.init = .initialized := Cond.initialized_spec (findClass_of_methodNamed hnamed) hkP hinit
  obtain ⟨vm₁, X₁, hstep₁⟩ := X.invokestatic hexec hown hlink hnamed hmethM hstatic hkP hinitP hy (g := g) hg (argsL := argsL) (rest := rest) (hlen _ hsigM) hstack hdg
  obtain ⟨v, B, X', hpost, hsteps⟩ := hK m meth c ⟨T.setVm vm₁, locs, cells, slots⟩ { g with stack := rest } (.invokestatic index) mk argsL.toArray X₁ hg hsize hdg hW (X₁.named hnamed) (hpre vm₁ X₁.warmed)
  exact ⟨v, vm₁, B, X₁.warmed, X', hpost, fun target h => hstep₁ _ fun acts => by rw [doInvoke_state]; exact hsteps.trans h⟩
theorem vx_runSW {y : MethodName} {bytes cc : ByteArray} {maxL nL mc ms n index : Nat} {ret : Option FieldType} {hh : List (Nat × Nat × Nat × Nat)} {ws : List Cond} {rm : Room} {Pc : Array Value → State → Prop} {Qc : Array Value → State → Outcome → State → Prop} {free : Addr → Prop} {Ts : List Cond} {own : String} {As rest : List Value} {g : JFrame}
    (S : CallFix p m c cc nL s args Ts own) (hM : Met l y ws rm Pc Qc mc ms free) (cw : vx_CSW R s args own index y bytes maxL ret hh ws rm mc ms n) (hp : PreS s H Pc As)
    (hg : g.method = m) (hn : As.length = n) (hsize : g.locals.size = nL) (hstack : g.stack = As.reverse ++ rest) (hW : 2 * g.monitorRoom + (rest.map fun v => v.category).sum ≤ 8) (hdg : decode cc g.pc = .ok (.invokestatic index, 3)) (hf : cells + mc ≤ R.cells ∧ slots + ms ≤ R.slots) :
    va_Run p l e R s m args below meth c H locs cells slots mc ms g rest (Qc As.toArray) (free) := by
  obtain ⟨⟨hrc, hrs, hfr, hlo, hws, hcw⟩, hcode, hini, hy, hlen, hl, hstt⟩ := cw
  have hK : Back l R p e below s args y 3 8 (PreOf R mc ms Pc) (PostOf Qc mc ms free) := va_backW (hh := hh) (bytes := bytes) (maxL := maxL) (ret := ret) hM hp.1 hrc hrs hfr hlo hws hcw (fun a' U hW => word_at hW (Or.inl (by first | rfl | simp [Cond.onTables, Cond.keeps, Cond.steady])) hini)
  obtain ⟨hx, hb, hml, ho, -⟩ := S
  intro T hT X
  obtain ⟨v, vm₁, ⟨U', l2, c2, s2⟩, hW₁, X', ⟨g', mk, t, L, e1, e2, hq, h1, hL, h2, h3⟩, st⟩ := vx_callSW X hx (hh := hh) (bytes := bytes) (maxL := maxL) (ret := ret) ho hl hstt hini hcode hy hK hg (hsize.trans hml.symm) (argsL := As) (rest := rest) (fun sig h => hn.trans (hlen sig h)) hstack hW (by rw [hb]; exact hdg)
    (fun vm₁ hW₁ => ⟨hf.1, hf.2, hp.2 (T.setVm vm₁) hT hW₁⟩)
  dsimp only [Pt.U, Pt.locs, Pt.cells, Pt.slots] at X' e1 e2 h1 h2 h3 st
  subst h1; subst h2; subst h3
  exact ⟨v, (T.setVm vm₁).calling g' mk As.toArray, t, U', L, hT, X', hL, e1, e2, hq, st⟩
/-- not caught here, past rows that name other classes: it goes on to the caller -/
theorem vx_outP {p : Program} {l : Launch} {e : Env} {R : Room} {s : State} {m : MethodId} {args : Array Value} {below : List Frame} {meth : Method} {c : Code} {H : Heap} {locs : List Loc} {cells slots : Nat} {free : Addr → Prop} {ls : Array Slot} {rest : List Value} {Qc : Array Value → State → Outcome → State → Prop} {XC : String → State → State → Prop}
    {pc : Nat} {own E : String} {ce : Cell} {q : Addr} {mc ms : Nat} (hown : s.vm.findClass own = some m.cls) (hlocks : meth.locks = false)
    (hpass : ∀ z ∈ c.exceptionTable.toList, covers z pc = false ∨ (z.catchType ≠ 0 ∧ ∃ nm : String, (Cond.classLink own z.catchType nm).before args s = true ∧ va_Nc E nm s)) (hcell : H[q]? = some ce) (hv : ce.vm = .none) (hcl : s.vm.findClass E = some ce.cls)
    (hx : ∀ t : State, t.heap = H → s.vm.Alike t.vm → XC E s t) (hf : ∀ z ∈ locs, free z.base) (hc : cells ≤ mc) (hs : slots ≤ ms) :
    vx_W p l e R s m args below meth c H locs cells slots (vx_MQ below Qc XC args s mc ms free) (F0 m pc ls rest) q := by
  intro T hT X
  have hpl : e.platform.magicAccessors = ({} : Platform).magicAccessors := by rw [X.admits.platform]
  obtain ⟨vm', hW', X', st⟩ := X.outThrough hlocks q (g := F0 m pc ls rest) rfl rfl rfl (cell := ce) (by rw [hT]; exact hcell) (by rw [hv]; rfl)
    (by obtain ⟨k9, h9, -⟩ := Vm.findClass_spec hcl; exact ⟨k9, h9⟩) (fun z hz => by
      rcases hpass z hz with h | ⟨hz0, nm, hl1, hn1⟩
      · exact Or.inl h
      · obtain ⟨c6, hc6, hcl6⟩ := Cond.classLink_spec hown hl1 e.platform hpl
        obtain ⟨a8, b8, h1, h2, h3⟩ := hn1
        cases Option.some.inj (h1.symm.trans hcl)
        cases Option.some.inj (h2.symm.trans hc6)
        exact Or.inr ⟨hz0, _, hcl6, h3⟩)
  obtain ⟨g₀, hfr⟩ := X'.frames_eq
  have hcell9 : ((T.setVm vm').setFrames (.throwing q :: below)).heap[q]? = some ce := by
    show T.heap[q]? = some ce
    rw [hT]; exact hcell
  have hend : Ended ((T.setVm vm').setFrames (.throwing q :: below)) below (.threw q) := State.frames_setFrames _ (State.cur_lt_of_frames hfr)
  refine ⟨(T.setVm vm').setFrames (.throwing q :: below), ?_, .threw q, X'.here.running, hend, Or.inr ⟨q, rfl, E, ce, locs, hx _ hT (X'.ends _).1.alike, hcell9, hv, hcl, (X'.ends _).1, (X'.ends _).2.mono hc hs, hf⟩⟩
  rw [X.pushThrowing_eq]
  exact st
/-- a thing of a world lies in the heap -/
theorem vx_lt {D : va_G} {cl : List vw_C} {ws : va_W} {H1 : Heap} (h : va_P D cl ws H1) {k : Nat} {q : Nat × va_E} (hk : ws[k]? = some q) : q.1 < H1.size := (h k q hk).lt
end VXS
/-! ===== END ===== -/
/-! ===== BEGIN methods with a table of their own: called by a name, returning or throwing ===== -/
section VXH
/-! vx_backW, vx_callVX, vx_callSX, vx_callVW, vx_runVW, vx_runVX, vx_runSX, vx_ofWH follow the same proofs as their sisters above (Free/Laws.lean, Shelf42/LK1.lean); vx_outP calls Shelf42/NT130.lean (outThrough). -/
section
variable {l : Launch} {R : Room} {p : Program} {e : Env} {below : List Frame} {s : State} {sargs : Array Value} {y : MethodName} {len W9 : Nat}
theorem vx_backW {ws : List Cond} {rm : Room} {Pc : Array Value → State → Prop} {Qc : Array Value → State → Outcome → State → Prop} {XC : String → State → State → Prop} {mc ms : Nat} {free : Addr → Prop} {bytes : ByteArray} {maxL : Nat} {ret : Option FieldType} {hh : List (Nat × Nat × Nat × Nat)}
    (hM : vx_Met l y ws rm Pc Qc XC mc ms free) (hblind : FrameBlind Pc) (hrc : rm.cells = mc) (hrs : rm.slots = ms)
    (hframes : rm.frames + 1 ≤ R.frames) (hlocals : W9 + (maxL + 11) + rm.locals ≤ R.locals)
    (hws : ∀ w ∈ ws, ∀ a' U, s.WarmedH U.vm → w.before a' U = true) (hcode : Cond.codeWith y bytes maxL ret hh ∈ ws) (hinit : ∀ a' U, s.WarmedH U.vm → (Cond.initialized y.cls).before a' U = true) :
    vx_Back l R p e below s sargs y len W9 (PreOf R mc ms Pc) (PostOf Qc mc ms free) (vx_Post XC mc ms free) := by
  intro m meth c A g ig mk a X hg hsize hdg hW hn hp
  have h1 : (headSpec ws rm).pre.before a A.U = true := atoms_intro fun w hw => hws w hw _ _ X.warmed
  have h2 : (Cond.codeWith y bytes maxL ret hh).before a A.U = true := hws _ hcode _ _ X.warmed
  have h3 : (Cond.initialized y.cls).before a A.U = true := hinit _ _ X.warmed
  have h4 : A.cells + (headSpec ws rm).room.cells ≤ R.cells := by rw [show (headSpec ws rm).room.cells = mc from hrc]; exact hp.1
  have h5 : A.slots + (headSpec ws rm).room.slots ≤ R.slots := by rw [show (headSpec ws rm).room.slots = ms from hrs]; exact hp.2.1
  have hPc : Pc a (A.U.calling g mk a) := hblind _ _ _ _ hp.2.2
  obtain ⟨U, Ls, c0, s0⟩ := A
  dsimp only [Pt.U, Pt.locs, Pt.cells, Pt.slots] at h1 h2 h3 h4 h5 X hn hPc ⊢
  obtain ⟨m9, methY, cY, hn9, hmY, hcY, -, hlY, -⟩ := Cond.codeWith_spec h2
  cases Option.some.inj (hn9.symm.trans hn)
  obtain ⟨kY, hkY, -⟩ := className_of_methodNamed hn
  have hinitY : kY.init = .initialized := Cond.initialized_spec (findClass_of_methodNamed hn) hkY h3
  have h : At U g.method c below := by rw [hg]; exact X.here
  have hlocals9 : W9 + (maxL + 11) + (headSpec ws rm).room.locals ≤ R.locals := hlocals
  have happ : (headSpec ws rm).appliesLoose y e.platform (U.calling g mk a) = true :=
    Spec.appliesLoose_calling (g := g) h hdg hn hkY hinitY
      (X.room_calling (g := g) (R' := (headSpec ws rm).room) hsize hmY hcY hframes (by rw [hlY]; omega) h4 h5) h1
  obtain ⟨mid, hmid⟩ := h.above
  have hfr : (U.setTop g).frames = (.java g :: mid) ++ below := by rw [State.frames_setTop' g h.top, hmid]; rfl
  obtain ⟨o, s₂, hsteps, -, hend, hq⟩ := Steps.callFree hM p X.admits X.cas X.clock (acts := []) hfr happ hPc trivial
  have hq' : vx_Q Qc XC mc ms free a (U.calling g mk a) o s₂ := hq
  rw [State.frames_setTop' g h.top] at hend
  obtain ⟨g₀, hg0⟩ := Option.isSome_iff_exists.mp h.top
  obtain ⟨r, hr⟩ := State.topJava?_eq_some.mp hg0
  have hr' : (({ U with heap := s₂.heap, slotsUsed := s₂.slotsUsed } : State).setVm s₂.vm).frames = .java g₀ :: r := hr
  rcases hq' with ⟨hqc, L, hfe, hL⟩ | ⟨q, rfl, E, ce, L, hx, hce, hcv, hcl, hW₂, hsm, hL⟩
  · obtain ⟨⟨v, rfl⟩, hW₂, e2, q2, q3, q4, q5, q6⟩ := id hfe
    have e3 : s₂ = ({ (U.calling g mk a).setFrames s₂.frames with heap := s₂.heap, slotsUsed := s₂.slotsUsed } : State).setVm s₂.vm := by
      have : s₂ = ({ s₂ with vm := (U.calling g mk a).vm } : State).setVm s₂.vm := rfl
      rw [e2] at this
      exact this
    obtain ⟨c₂, i₂, len₂, hc₂, hd₂, hf₂⟩ := hend
    have hW' : U.WarmedH s₂.vm := hW₂
    have hcc : c₂ = c := by
      have h1 : s₂.code? g.method = U.code? g.method := by
        rw [State.code?_eq, State.code?_eq, hW'.alike.method?]
      exact Option.some.inj (hc₂.symm.trans (h1.trans h.code))
    subst hcc
    have hlen : len₂ = len := by rw [hdg] at hd₂; cases hd₂; rfl
    subst hlen
    have hs₂ : s₂ = (({ U with heap := s₂.heap, slotsUsed := s₂.slotsUsed } : State).setVm s₂.vm).setTop { g with pc := g.pc + len₂, stack := v.toList ++ g.stack } := by
      refine e3.trans ?_
      rw [hf₂, State.calling_eq h.top, State.setFrames_setFrames, State.setTop_of_frames _ hr', hr]
      rfl
    have hsame : U.sameButNew ({ U with heap := s₂.heap, slotsUsed := s₂.slotsUsed } : State) L mc ms := by
      refine ⟨?_, q2, q3, q4, q5, q6⟩
      obtain ⟨t, ht, -⟩ := State.frames_cons hr
      show ({ U with heap := s₂.heap, slotsUsed := s₂.slotsUsed } : State) = { U.setFrames U.frames with heap := s₂.heap, slotsUsed := s₂.slotsUsed }
      rw [State.setFrames_self ht]
    subst hg
    refine Or.inl ⟨v, ⟨(({ U with heap := s₂.heap, slotsUsed := s₂.slotsUsed } : State).setVm s₂.vm), Ls ++ L, c0 + mc, s0 + ms⟩,
      ⟨X.admits, X.cas, X.clock, X.frames, X.room, X.hears, X.method, X.code, (X.here.setHeapUsed s₂.heap s₂.slotsUsed).setVm hW'.alike, X.tail, State.WarmedH.trans X.warmed hW', X.limits, X.bytes, X.same.trans (hsame.setVm s.vm)⟩,
      ⟨g, mk, s₂, L, rfl, rfl, hqc, rfl, hL, rfl, rfl⟩, ?_⟩
    show Steps p.tables e below _ ((({ U with heap := s₂.heap, slotsUsed := s₂.slotsUsed } : State).setVm s₂.vm).setTop { g with pc := g.pc + len₂, stack := v.toList ++ g.stack })
    rw [← hs₂]
    exact hsteps
  · obtain ⟨e2, q2, q3, q4, q5, q6⟩ := id hsm
    have e3 : s₂ = ({ (U.calling g mk a).setFrames s₂.frames with heap := s₂.heap, slotsUsed := s₂.slotsUsed } : State).setVm s₂.vm := by
      have : s₂ = ({ s₂ with vm := (U.calling g mk a).vm } : State).setVm s₂.vm := rfl
      rw [e2] at this
      exact this
    have hf₂ : s₂.frames = .throwing q :: .java g :: U.frames.tail := hend
    have hW' : U.WarmedH s₂.vm := hW₂
    have hs₂ : s₂ = ((({ U with heap := s₂.heap, slotsUsed := s₂.slotsUsed } : State).setVm s₂.vm).setTop g).pushFrame (.throwing q) := by
      refine e3.trans ?_
      rw [hf₂, State.calling_eq h.top, State.setFrames_setFrames, State.pushFrame, State.frames_setTop _ hr', State.setTop_of_frames _ hr', State.setFrames_setFrames, hr]
      rfl
    have hsame : U.sameButNew ({ U with heap := s₂.heap, slotsUsed := s₂.slotsUsed } : State) L mc ms := by
      refine ⟨?_, q2, q3, q4, q5, q6⟩
      obtain ⟨t, ht, -⟩ := State.frames_cons hr
      show ({ U with heap := s₂.heap, slotsUsed := s₂.slotsUsed } : State) = { U.setFrames U.frames with heap := s₂.heap, slotsUsed := s₂.slotsUsed }
      rw [State.setFrames_self ht]
    subst hg
    refine Or.inr ⟨q, ⟨(({ U with heap := s₂.heap, slotsUsed := s₂.slotsUsed } : State).setVm s₂.vm), Ls ++ L, c0 + mc, s0 + ms⟩,
      ⟨X.admits, X.cas, X.clock, X.frames, X.room, X.hears, X.method, X.code, (X.here.setHeapUsed s₂.heap s₂.slotsUsed).setVm hW'.alike, X.tail, State.WarmedH.trans X.warmed hW', X.limits, X.bytes, X.same.trans (hsame.setVm s.vm)⟩,
      ⟨g, mk, s₂, L, E, ce, rfl, rfl, hx, hce, hcv, hcl, rfl, hL, rfl, rfl⟩, ?_⟩
    show Steps p.tables e below _ (((({ U with heap := s₂.heap, slotsUsed := s₂.slotsUsed } : State).setVm s₂.vm).setTop g).pushFrame (.throwing q))
    rw [← hs₂]
    exact hsteps
end
variable {p : Program} {l : Launch} {e : Env} {R : Room} {s : State} {m : MethodId} {args : Array Value} {below : List Frame} {meth : Method} {c : Code} {T : State} {H : Heap} {locs : List Loc} {cells slots : Nat}
theorem vx_callVX (X : Stand p l e R s m args below meth c T locs cells slots) (hexec : p.tables.exec = Jvm.exec) {own C : String} {index : Nat} {y : MethodName} {bytes : ByteArray} {maxL : Nat} {ret : Option FieldType} {hh : List (Nat × Nat × Nat × Nat)}
    (hown : s.vm.findClass own = some m.cls) (hlink : (Cond.methodLink own index y).before args s = true) (hinst : (Cond.instanceMethod y).before args s = true) (hsel : (Cond.selects C y y).before args s = true)
    (hcode : (Cond.codeWith y bytes maxL ret hh).before args s = true) (hy : y.cls ≠ "java/lang/invoke/MethodHandle" ∧ y.cls ≠ "java/lang/invoke/VarHandle")
    {W9 : Nat} {Pre : Pt → Array Value → Prop} {Post : Pt → Array Value → Option Value → Pt → Prop} {PostX : Pt → Array Value → Addr → Pt → Prop} (hK : vx_Back l R p e below s args y 3 W9 Pre Post PostX)
    {b : Addr} {cellB : Cell} (hcell : T.heap[b]? = some cellB) (hobj : cellB.vm.isStatics = false) (hcls : s.vm.findClass C = some cellB.cls)
    {g : JFrame} (hg : g.method = m) (hsize : g.locals.size = c.maxLocals) {argsL rest : List Value} (hlen : ∀ sig, parseMethodDescriptor y.desc = some sig → argsL.length = sig.parameters.length)
    (hstack : g.stack = argsL.reverse ++ .ref b :: rest) (hW : 2 * g.monitorRoom + (rest.map fun v => v.category).sum ≤ W9) (hdg : decode c.code g.pc = .ok (.invokevirtual index, 3))
    (hpre : ∀ vm₁, s.WarmedH vm₁ → Pre ⟨T.setVm vm₁, locs, cells, slots⟩ (Value.ref b :: argsL).toArray) :
    (∃ (v : Option Value) (vm₁ : Vm) (B : Pt), s.WarmedH vm₁ ∧ Stand p l e R s m args below meth c B.U B.locs B.cells B.slots ∧ Post ⟨T.setVm vm₁, locs, cells, slots⟩ (Value.ref b :: argsL).toArray v B ∧
      ∀ target, Steps p.tables e below (B.U.setTop { g with pc := g.pc + 3, stack := v.toList ++ rest }) target → Steps p.tables e below (T.setTop g) target) ∨
    (∃ (q : Addr) (vm₁ : Vm) (B : Pt), s.WarmedH vm₁ ∧ Stand p l e R s m args below meth c B.U B.locs B.cells B.slots ∧ PostX ⟨T.setVm vm₁, locs, cells, slots⟩ (Value.ref b :: argsL).toArray q B ∧
      Steps p.tables e below (T.setTop g) ((B.U.setTop { g with stack := rest }).pushFrame (.throwing q))) := by
  obtain ⟨mk, methM, hnamed, hmethM, hstM, habM⟩ := Cond.instanceMethod_spec hinst
  obtain ⟨m8, methM', cM, hn8, hmethM', -, -, -, -, -, -, hsigM⟩ := Cond.codeWith_spec hcode
  cases Option.some.inj (hn8.symm.trans hnamed)
  cases hmethM.symm.trans hmethM'
  obtain ⟨c2, r2, m2, q1, q2, q3, q4, kP, hkP, hkPi⟩ := Cond.selects_spec hsel
  cases hcls.symm.trans q1
  cases (State.methodFound?_of_named hnamed hy).symm.trans q2
  cases hnamed.symm.trans q3
  have hselP : selectMethod e.platform s.vm cellB.cls mk = .method mk := by rw [Launch.admits_selectMethod X.admits]; exact q4
  obtain ⟨vm₁, X₁, hstep₁⟩ := X.invokevirtual hexec hown hlink hnamed hmethM hstM hkP hkPi hy (a := b) (cell := cellB) hcell
    (fun z h => by rw [h] at hobj; cases hobj) hselP hmethM habM hkP hkPi (g := g) hg (argsL := argsL) (rest := rest) (hlen _ hsigM) hstack hdg
  rcases hK m meth c ⟨T.setVm vm₁, locs, cells, slots⟩ { g with stack := rest } (.invokevirtual index) mk (Value.ref b :: argsL).toArray X₁ hg hsize hdg hW (X₁.named hnamed) (hpre vm₁ X₁.warmed) with ⟨v, B, X', hpost, hsteps⟩ | ⟨q, B, X', hpost, hsteps⟩
  · exact Or.inl ⟨v, vm₁, B, X₁.warmed, X', hpost, fun target h => hstep₁ _ fun acts => by rw [doInvoke_state]; exact hsteps.trans h⟩
  · exact Or.inr ⟨q, vm₁, B, X₁.warmed, X', hpost, hstep₁ _ fun acts => by rw [doInvoke_state]; exact hsteps⟩
theorem vx_callSX (X : Stand p l e R s m args below meth c T locs cells slots) (hexec : p.tables.exec = Jvm.exec) {own : String} {index : Nat} {y : MethodName} {bytes : ByteArray} {maxL : Nat} {ret : Option FieldType} {hh : List (Nat × Nat × Nat × Nat)}
    (hown : s.vm.findClass own = some m.cls) (hlink : (Cond.methodLink own index y).before args s = true) (hstat : (Cond.static y).before args s = true) (hinit : (Cond.initialized y.cls).before args s = true)
    (hcode : (Cond.codeWith y bytes maxL ret hh).before args s = true) (hy : y.cls ≠ "java/lang/invoke/MethodHandle" ∧ y.cls ≠ "java/lang/invoke/VarHandle")
    {W9 : Nat} {Pre : Pt → Array Value → Prop} {Post : Pt → Array Value → Option Value → Pt → Prop} {PostX : Pt → Array Value → Addr → Pt → Prop} (hK : vx_Back l R p e below s args y 3 W9 Pre Post PostX)
    {g : JFrame} (hg : g.method = m) (hsize : g.locals.size = c.maxLocals) {argsL rest : List Value} (hlen : ∀ sig, parseMethodDescriptor y.desc = some sig → argsL.length = sig.parameters.length)
    (hstack : g.stack = argsL.reverse ++ rest) (hW : 2 * g.monitorRoom + (rest.map fun v => v.category).sum ≤ W9) (hdg : decode c.code g.pc = .ok (.invokestatic index, 3))
    (hpre : ∀ vm₁, s.WarmedH vm₁ → Pre ⟨T.setVm vm₁, locs, cells, slots⟩ argsL.toArray) :
    (∃ (v : Option Value) (vm₁ : Vm) (B : Pt), s.WarmedH vm₁ ∧ Stand p l e R s m args below meth c B.U B.locs B.cells B.slots ∧ Post ⟨T.setVm vm₁, locs, cells, slots⟩ argsL.toArray v B ∧
      ∀ target, Steps p.tables e below (B.U.setTop { g with pc := g.pc + 3, stack := v.toList ++ rest }) target → Steps p.tables e below (T.setTop g) target) ∨
    (∃ (q : Addr) (vm₁ : Vm) (B : Pt), s.WarmedH vm₁ ∧ Stand p l e R s m args below meth c B.U B.locs B.cells B.slots ∧ PostX ⟨T.setVm vm₁, locs, cells, slots⟩ argsL.toArray q B ∧
      Steps p.tables e below (T.setTop g) ((B.U.setTop { g with stack := rest }).pushFrame (.throwing q))) := by
  obtain ⟨mk, methM, cM, hnamed, hmethM, -, -, -, -, -, -, hsigM⟩ := Cond.codeWith_spec hcode
  have hstatic : methM.isStatic = true := Cond.static_spec hnamed hmethM hstat
  obtain ⟨kP, hkP, -⟩ := className_of_methodNamed hnamed
  have hinitP : kP.init = .initialized := Cond.initialized_spec (findClass_of_methodNamed hnamed) hkP hinit
  obtain ⟨vm₁, X₁, hstep₁⟩ := X.invokestatic hexec hown hlink hnamed hmethM hstatic hkP hinitP hy (g := g) hg (argsL := argsL) (rest := rest) (hlen _ hsigM) hstack hdg
  rcases hK m meth c ⟨T.setVm vm₁, locs, cells, slots⟩ { g with stack := rest } (.invokestatic index) mk argsL.toArray X₁ hg hsize hdg hW (X₁.named hnamed) (hpre vm₁ X₁.warmed) with ⟨v, B, X', hpost, hsteps⟩ | ⟨q, B, X', hpost, hsteps⟩
  · exact Or.inl ⟨v, vm₁, B, X₁.warmed, X', hpost, fun target h => hstep₁ _ fun acts => by rw [doInvoke_state]; exact hsteps.trans h⟩
  · exact Or.inr ⟨q, vm₁, B, X₁.warmed, X', hpost, hstep₁ _ fun acts => by rw [doInvoke_state]; exact hsteps⟩
theorem vx_callVW (X : Stand p l e R s m args below meth c T locs cells slots) (hexec : p.tables.exec = Jvm.exec) {own C : String} {index : Nat} {y : MethodName} {bytes : ByteArray} {maxL : Nat} {ret : Option FieldType} {hh : List (Nat × Nat × Nat × Nat)}
    (hown : s.vm.findClass own = some m.cls) (hlink : (Cond.methodLink own index y).before args s = true) (hinst : (Cond.instanceMethod y).before args s = true) (hsel : (Cond.selects C y y).before args s = true)
    (hcode : (Cond.codeWith y bytes maxL ret hh).before args s = true) (hy : y.cls ≠ "java/lang/invoke/MethodHandle" ∧ y.cls ≠ "java/lang/invoke/VarHandle")
    {W9 : Nat} {Pre : Pt → Array Value → Prop} {Post : Pt → Array Value → Option Value → Pt → Prop} (hK : Back l R p e below s args y 3 W9 Pre Post)
    {b : Addr} {cellB : Cell} (hcell : T.heap[b]? = some cellB) (hobj : cellB.vm.isStatics = false) (hcls : s.vm.findClass C = some cellB.cls)
    {g : JFrame} (hg : g.method = m) (hsize : g.locals.size = c.maxLocals) {argsL rest : List Value} (hlen : ∀ sig, parseMethodDescriptor y.desc = some sig → argsL.length = sig.parameters.length)
    (hstack : g.stack = argsL.reverse ++ .ref b :: rest) (hW : 2 * g.monitorRoom + (rest.map fun v => v.category).sum ≤ W9) (hdg : decode c.code g.pc = .ok (.invokevirtual index, 3))
    (hpre : ∀ vm₁, s.WarmedH vm₁ → Pre ⟨T.setVm vm₁, locs, cells, slots⟩ (Value.ref b :: argsL).toArray) :
    ∃ (v : Option Value) (vm₁ : Vm) (B : Pt), s.WarmedH vm₁ ∧ Stand p l e R s m args below meth c B.U B.locs B.cells B.slots ∧ Post ⟨T.setVm vm₁, locs, cells, slots⟩ (Value.ref b :: argsL).toArray v B ∧
      ∀ target, Steps p.tables e below (B.U.setTop { g with pc := g.pc + 3, stack := v.toList ++ rest }) target → Steps p.tables e below (T.setTop g) target := by
  obtain ⟨mk, methM, hnamed, hmethM, hstM, habM⟩ := Cond.instanceMethod_spec hinst
  obtain ⟨m8, methM', cM, hn8, hmethM', -, -, -, -, -, -, hsigM⟩ := Cond.codeWith_spec hcode
  cases Option.some.inj (hn8.symm.trans hnamed)
  cases hmethM.symm.trans hmethM'
  obtain ⟨c2, r2, m2, q1, q2, q3, q4, kP, hkP, hkPi⟩ := Cond.selects_spec hsel
  cases hcls.symm.trans q1
  cases (State.methodFound?_of_named hnamed hy).symm.trans q2
  cases hnamed.symm.trans q3
  have hselP : selectMethod e.platform s.vm cellB.cls mk = .method mk := by rw [Launch.admits_selectMethod X.admits]; exact q4
  obtain ⟨vm₁, X₁, hstep₁⟩ := X.invokevirtual hexec hown hlink hnamed hmethM hstM hkP hkPi hy (a := b) (cell := cellB) hcell
    (fun z h => by rw [h] at hobj; cases hobj) hselP hmethM habM hkP hkPi (g := g) hg (argsL := argsL) (rest := rest) (hlen _ hsigM) hstack hdg
  obtain ⟨v, B, X', hpost, hsteps⟩ := hK m meth c ⟨T.setVm vm₁, locs, cells, slots⟩ { g with stack := rest } (.invokevirtual index) mk (Value.ref b :: argsL).toArray X₁ hg hsize hdg hW (X₁.named hnamed) (hpre vm₁ X₁.warmed)
  exact ⟨v, vm₁, B, X₁.warmed, X', hpost, fun target h => hstep₁ _ fun acts => by rw [doInvoke_state]; exact hsteps.trans h⟩
abbrev vx_CVW (R : Room) (s : State) (args : Array Value) (own C : String) (index : Nat) (y : MethodName) (bytes : ByteArray) (maxL : Nat) (ret : Option FieldType) (hh : List (Nat × Nat × Nat × Nat)) (ws : List Cond) (rm : Room) (mc ms n : Nat) : Prop :=
  (rm.cells = mc ∧ rm.slots = ms ∧ rm.frames + 1 ≤ R.frames ∧ 8 + (maxL + 11) + rm.locals ≤ R.locals ∧ (∀ w ∈ ws, ∀ (a' : Array Value) (U : State), s.WarmedH U.vm → w.before a' U = true) ∧ Cond.codeWith y bytes maxL ret hh ∈ ws) ∧
  (Cond.codeWith y bytes maxL ret hh).before args s = true ∧ (Cond.initialized y.cls).before args s = true ∧ (y.cls ≠ "java/lang/invoke/MethodHandle" ∧ y.cls ≠ "java/lang/invoke/VarHandle") ∧
  (∀ sig, parseMethodDescriptor y.desc = some sig → n = sig.parameters.length) ∧ (Cond.methodLink own index y).before args s = true ∧ (Cond.instanceMethod y).before args s = true ∧ (Cond.selects C y y).before args s = true
theorem vx_cwVW {own C : String} {index maxL mc ms : Nat} {y : MethodName} {bytes : ByteArray} {ret : Option FieldType} {hh : List (Nat × Nat × Nat × Nat)} {Ts ws ws' : List Cond} {rm : Room} (n : Nat) (ht : ∀ w ∈ Ts, w.before args s = true) (hT : GoodIn Ts (wsV own index C y ws)) (hw : ws = Cond.codeWith y bytes maxL ret hh :: ws') (hrc : rm.cells = mc) (hrs : rm.slots = ms)
    (hd : y.cls = C ∧ y.cls ≠ "java/lang/invoke/MethodHandle" ∧ y.cls ≠ "java/lang/invoke/VarHandle" ∧ (parseMethodDescriptor y.desc).map (fun d => d.parameters.length) = some n) (hR : rm.frames + 1 ≤ R.frames ∧ 8 + (maxL + 11) + rm.locals ≤ R.locals) :
    vx_CVW R s args own C index y bytes maxL ret hh ws rm mc ms n := by
  obtain ⟨hC, hd⟩ := hd
  subst hC
  have ok : ∀ w ∈ wsV own index y.cls y ws, w.before args s = true := fun w h => ht w (hT w h).1
  have hG : GoodIn Ts ws := fun w h => hT w (by unfold wsV; exact List.mem_append_right _ h)
  have hc : Cond.codeWith y bytes maxL ret hh ∈ ws := by rw [hw]; exact List.mem_cons_self
  refine ⟨⟨hrc, hrs, hR.1, hR.2, pay_in ht hG, hc⟩, ht _ (hG _ hc).1, ok _ (by simp [wsV]), ⟨hd.1, hd.2.1⟩, fun sig h => ?_, ok _ (by simp [wsV]), ok _ (by simp [wsV]), ok _ (by simp [wsV])⟩
  have h2 := hd.2.2
  rw [h] at h2
  exact (Option.some.inj h2).symm
theorem vx_runVW {y : MethodName} {bytes cc : ByteArray} {maxL nL mc ms n index : Nat} {ret : Option FieldType} {hh : List (Nat × Nat × Nat × Nat)} {ws : List Cond} {rm : Room} {Pc : Array Value → State → Prop} {Qc : Array Value → State → Outcome → State → Prop} {free : Addr → Prop} {Ts : List Cond} {own C : String} {b : Addr} {As rest : List Value} {g : JFrame}
    (S : CallFix p m c cc nL s args Ts own) (hM : Met l y ws rm Pc Qc mc ms free) (cw : vx_CVW R s args own C index y bytes maxL ret hh ws rm mc ms n) (hp : PreV s H C b Pc As)
    (hg : g.method = m) (hn : As.length = n) (hsize : g.locals.size = nL) (hstack : g.stack = As.reverse ++ .ref b :: rest) (hW : 2 * g.monitorRoom + (rest.map fun v => v.category).sum ≤ 8) (hdg : decode cc g.pc = .ok (.invokevirtual index, 3)) (hf : cells + mc ≤ R.cells ∧ slots + ms ≤ R.slots) :
    va_Run p l e R s m args below meth c H locs cells slots mc ms g rest (Qc (Value.ref b :: As).toArray) free := by
  obtain ⟨⟨hrc, hrs, hfr, hlo, hws, hcw⟩, hcode, hini, hy, hlen, hl, hin, hse⟩ := cw
  have hK : Back l R p e below s args y 3 8 (PreOf R mc ms Pc) (PostOf Qc mc ms free) := va_backW (hh := hh) (bytes := bytes) (maxL := maxL) (ret := ret) hM hp.1 hrc hrs hfr hlo hws hcw (fun a' U hW => word_at hW (Or.inl (by first | rfl | simp [Cond.onTables, Cond.keeps, Cond.steady])) hini)
  obtain ⟨hx, hb, hml, ho, -⟩ := S
  obtain ⟨-, ⟨cellB, hcB, hoB, hclB⟩, hPc⟩ := hp
  intro T hT X
  obtain ⟨v, vm₁, ⟨U', l2, c2, s2⟩, hW₁, X', ⟨g', mk, t, L, e1, e2, hq, h1, hL, h2, h3⟩, st⟩ := vx_callVW X hx (C := C) (hh := hh) (bytes := bytes) (maxL := maxL) (ret := ret) ho hl hin hse hcode hy hK (by rw [hT]; exact hcB) hoB hclB hg (hsize.trans hml.symm) (argsL := As) (rest := rest) (fun sig h => hn.trans (hlen sig h)) hstack hW (by rw [hb]; exact hdg)
    (fun vm₁ hW₁ => ⟨hf.1, hf.2, hPc (T.setVm vm₁) hT hW₁⟩)
  dsimp only [Pt.U, Pt.locs, Pt.cells, Pt.slots] at X' e1 e2 h1 h2 h3 st
  subst h1; subst h2; subst h3
  exact ⟨v, (T.setVm vm₁).calling g' mk (Value.ref b :: As).toArray, t, U', L, hT, X', hL, e1, e2, hq, st⟩
section
variable {y : MethodName} {bytes cc : ByteArray} {maxL nL mc ms n index : Nat} {ret : Option FieldType} {ws : List Cond} {rm : Room} {Pc : Array Value → State → Prop} {Qc : Array Value → State → Outcome → State → Prop} {XC : String → State → State → Prop} {free : Addr → Prop} {Ts : List Cond} {own C : String} {b : Addr} {As rest : List Value} {g : JFrame}
theorem vx_runVX {hh : List (Nat × Nat × Nat × Nat)} (S : CallFix p m c cc nL s args Ts own) (hM : vx_Met l y ws rm Pc Qc XC mc ms free) (cw : vx_CVW R s args own C index y bytes maxL ret hh ws rm mc ms n) (hp : PreV s H C b Pc As)
    (hg : g.method = m) (hn : As.length = n) (hsize : g.locals.size = nL) (hstack : g.stack = As.reverse ++ .ref b :: rest) (hW : 2 * g.monitorRoom + (rest.map fun v => v.category).sum ≤ 8) (hdg : decode cc g.pc = .ok (.invokevirtual index, 3)) (hf : cells + mc ≤ R.cells ∧ slots + ms ≤ R.slots) :
    vx_Run p l e R s m args below meth c H locs cells slots mc ms g rest (Qc (Value.ref b :: As).toArray) XC free := by
  obtain ⟨⟨hrc, hrs, hfr, hlo, hws, hcw⟩, hcode, hini, hy, hlen, hl, hin, hse⟩ := cw
  have hK : vx_Back l R p e below s args y 3 8 (PreOf R mc ms Pc) (PostOf Qc mc ms free) (vx_Post XC mc ms free) := vx_backW (hh := hh) (bytes := bytes) (maxL := maxL) (ret := ret) hM hp.1 hrc hrs hfr hlo hws hcw (fun a' U hW => word_at hW (Or.inl (by first | rfl | simp [Cond.onTables, Cond.keeps, Cond.steady])) hini)
  obtain ⟨hx, hb, hml, ho, -⟩ := S
  obtain ⟨-, ⟨cellB, hcB, hoB, hclB⟩, hPc⟩ := hp
  intro T hT X
  rcases vx_callVX X hx (C := C) (hh := hh) (bytes := bytes) (maxL := maxL) (ret := ret) ho hl hin hse hcode hy hK (by rw [hT]; exact hcB) hoB hclB hg (hsize.trans hml.symm) (argsL := As) (rest := rest) (fun sig h => hn.trans (hlen sig h)) hstack hW (by rw [hb]; exact hdg)
    (fun vm₁ hW₁ => ⟨hf.1, hf.2, hPc (T.setVm vm₁) hT hW₁⟩) with ⟨v, vm₁, ⟨U', l2, c2, s2⟩, hW₁, X', ⟨g', mk, t, L, e1, e2, hq, h1, hL, h2, h3⟩, st⟩ | ⟨q, vm₁, ⟨U', l2, c2, s2⟩, hW₁, X', ⟨g', mk, t, L, E, ce, e1, e2, hq, hce, hcv, hcl, h1, hL, h2, h3⟩, st⟩
  · dsimp only [Pt.U, Pt.locs, Pt.cells, Pt.slots] at X' e1 e2 h1 h2 h3 st
    subst h1; subst h2; subst h3
    exact Or.inl ⟨v, (T.setVm vm₁).calling g' mk (Value.ref b :: As).toArray, t, U', L, hT, X', hL, e1, e2, hq, st⟩
  · dsimp only [Pt.U, Pt.locs, Pt.cells, Pt.slots] at X' e1 e2 h1 h2 h3 st hcl
    subst h1; subst h2; subst h3
    exact Or.inr ⟨q, (T.setVm vm₁).calling g' mk (Value.ref b :: As).toArray, t, U', L, E, ce, hT, X', hL, e1, e2, hq, hce, hcv, vx_cls hW₁ hcl, st⟩
theorem vx_runSX {hh : List (Nat × Nat × Nat × Nat)} (S : CallFix p m c cc nL s args Ts own) (hM : vx_Met l y ws rm Pc Qc XC mc ms free) (cw : vx_CSW R s args own index y bytes maxL ret hh ws rm mc ms n) (hp : PreS s H Pc As)
    (hg : g.method = m) (hn : As.length = n) (hsize : g.locals.size = nL) (hstack : g.stack = As.reverse ++ rest) (hW : 2 * g.monitorRoom + (rest.map fun v => v.category).sum ≤ 8) (hdg : decode cc g.pc = .ok (.invokestatic index, 3)) (hf : cells + mc ≤ R.cells ∧ slots + ms ≤ R.slots) :
    vx_Run p l e R s m args below meth c H locs cells slots mc ms g rest (Qc As.toArray) XC free := by
  obtain ⟨⟨hrc, hrs, hfr, hlo, hws, hcw⟩, hcode, hini, hy, hlen, hl, hstt⟩ := cw
  have hK : vx_Back l R p e below s args y 3 8 (PreOf R mc ms Pc) (PostOf Qc mc ms free) (vx_Post XC mc ms free) := vx_backW (hh := hh) (bytes := bytes) (maxL := maxL) (ret := ret) hM hp.1 hrc hrs hfr hlo hws hcw (fun a' U hW => word_at hW (Or.inl (by first | rfl | simp [Cond.onTables, Cond.keeps, Cond.steady])) hini)
  obtain ⟨hx, hb, hml, ho, -⟩ := S
  intro T hT X
  rcases vx_callSX X hx (hh := hh) (bytes := bytes) (maxL := maxL) (ret := ret) ho hl hstt hini hcode hy hK hg (hsize.trans hml.symm) (argsL := As) (rest := rest) (fun sig h => hn.trans (hlen sig h)) hstack hW (by rw [hb]; exact hdg)
    (fun vm₁ hW₁ => ⟨hf.1, hf.2, hp.2 (T.setVm vm₁) hT hW₁⟩) with ⟨v, vm₁, ⟨U', l2, c2, s2⟩, hW₁, X', ⟨g', mk, t, L, e1, e2, hq, h1, hL, h2, h3⟩, st⟩ | ⟨q, vm₁, ⟨U', l2, c2, s2⟩, hW₁, X', ⟨g', mk, t, L, E, ce, e1, e2, hq, hce, hcv, hcl, h1, hL, h2, h3⟩, st⟩
  · dsimp only [Pt.U, Pt.locs, Pt.cells, Pt.slots] at X' e1 e2 h1 h2 h3 st
    subst h1; subst h2; subst h3
    exact Or.inl ⟨v, (T.setVm vm₁).calling g' mk As.toArray, t, U', L, hT, X', hL, e1, e2, hq, st⟩
  · dsimp only [Pt.U, Pt.locs, Pt.cells, Pt.slots] at X' e1 e2 h1 h2 h3 st hcl
    subst h1; subst h2; subst h3
    exact Or.inr ⟨q, (T.setVm vm₁).calling g' mk As.toArray, t, U', L, E, ce, hT, X', hL, e1, e2, hq, hce, hcv, vx_cls hW₁ hcl, st⟩
end
end VXH
theorem vx_ofWH {l : Launch} {y : MethodName} {ws ws' : List Cond} {rm : Room} {Pc : Array Value → State → Prop} {Qc : Array Value → State → Outcome → State → Prop} {XC : String → State → State → Prop} {mc ms : Nat} {free : Addr → Prop} {cc : ByteArray} {maxL : Nat} {ret : Option FieldType} {hh : List (Nat × Nat × Nat × Nat)}
    (hy : plainName y.cls = true) (hw : ws = Cond.codeWith y cc maxL ret hh :: ws')
    (body : ∀ p e s m args below meth c s₁, BodyLoose p l y (headSpec ws rm) cc maxL ret e s m args below meth c s₁ → c.maxLocals = maxL → Pc args s →
      W p l e (headSpec ws rm).room s m args below meth c s.heap [] 0 0 (vx_MQ below Qc XC args s mc ms free) (entryFrame m args maxL)) : vx_Met l y ws rm Pc Qc XC mc ms free := by
  refine MetFree.of_bodyS (code := cc) (maxLocals := maxL) (ret := ret) hy ?_ ?_
  · intro args s m h hn
    obtain ⟨m9, meth, c, hn9, h1, h2, h3, h4, -, h5, h6, -⟩ := Cond.codeWith_spec (atoms_spec (ws := ws) h _ (by rw [hw]; exact List.mem_cons_self))
    cases hn.symm.trans hn9
    exact ⟨meth, c, h1, h2, h3, h4, h5, h6⟩
  · intro p e s m args below meth c s₁ B hml hP _
    have hh0 : s₁.heap = s.heap := by rw [B.state]; rfl
    obtain ⟨t, a1, o, b1, b2, b3⟩ := body p e s m args below meth c s₁ B hml hP s₁ hh0 (Stand.of_body B)
    exact ⟨t, o, a1, b1, b2, b3⟩
/-! ===== END ===== -/

/-! ===== BEGIN printed: names, fields, word lists, decode rows ===== -/
def RX0 : String := "BridgeBells$Bridge"
def TX0 : u_T := fun k => match k with
  | 0 => ("BridgeBells$Bridge", "minute", "I", false)
  | 1 => ("BridgeBells$Bridge", "angle", "I", false)
  | 2 => ("BridgeBells$Bridge", "counterpoise", "I", false)
  | 3 => ("BridgeBells$Bridge", "ice", "I", false)
  | 4 => ("BridgeBells$Bridge", "code", "I", false)
  | 5 => ("BridgeBells$Bridge", "waitedInAll", "I", false)
  | 6 => ("BridgeBells$Bridge", "cold", "[I", true)
  | 7 => ("BridgeBells$Bridge", "travellers", "LBridgeBells$Travellers;", true)
  | 8 => ("BridgeBells$Bridge", "passing", "I", false)
  | 9 => ("BridgeBells$Bridge", "toGo", "I", false)
  | _ => ("BridgeBells$Bridge", "latestWasBarge", "Z", false)
def tyX0 : Nat → FieldType := fun k => match k with
  | 0 => .int
  | 1 => .int
  | 2 => .int
  | 3 => .int
  | 4 => .int
  | 5 => .int
  | 6 => .array .int
  | 7 => .object "BridgeBells$Travellers"
  | 8 => .int
  | 9 => .int
  | _ => .boolean
abbrev wsX00 : List Cond := u_ws RX0 TX0 11
theorem nmX0 : ∀ a, a < 11 → ∀ b, b < 11 → a ≠ b → (TX0 a).2.1 ≠ (TX0 b).2.1 := by decide +kernel
theorem tyX0_ok : ∀ k, k < 11 → parseFieldDescriptor (TX0 k).2.2.1 = some (tyX0 k) := by decide +kernel
abbrev cX0_init : ByteArray := prog_2_method_1_code
def yX0_init : MethodName := ⟨RX0, "<init>", "()V"⟩
abbrev cX0_copyFrom : ByteArray := prog_2_method_2_code
def yX0_copyFrom : MethodName := ⟨RX0, "copyFrom", "(LBridgeBells$Bridge;)V"⟩
abbrev cX0_goOn : ByteArray := prog_2_method_3_code
def yX0_goOn : MethodName := ⟨RX0, "goOn", "(I)V"⟩
abbrev cX0_goOneMinute : ByteArray := prog_2_method_4_code
def yX0_goOneMinute : MethodName := ⟨RX0, "goOneMinute", "()V"⟩
abbrev cX0_speedTowards : ByteArray := prog_2_method_5_code
def yX0_speedTowards : MethodName := ⟨RX0, "speedTowards", "(Z)I"⟩
abbrev cX0_servedNext : ByteArray := prog_2_method_6_code
def yX0_servedNext : MethodName := ⟨RX0, "servedNext", "()I"⟩
abbrev cX0_serve : ByteArray := prog_2_method_7_code
def yX0_serve : MethodName := ⟨RX0, "serve", "(I)V"⟩
abbrev cX0_goOnPassing : ByteArray := prog_2_method_8_code
def yX0_goOnPassing : MethodName := ⟨RX0, "goOnPassing", "()V"⟩
abbrev cX0_freeze : ByteArray := prog_2_method_9_code
def yX0_freeze : MethodName := ⟨RX0, "freeze", "()V"⟩
abbrev cX0_total : ByteArray := prog_2_method_10_code
def yX0_total : MethodName := ⟨RX0, "total", "(I)I"⟩
abbrev cX0_factOf : ByteArray := prog_2_method_11_code
def yX0_factOf : MethodName := ⟨RX0, "factOf", "(II)I"⟩
def RX1 : String := "BridgeBells$Travellers"
def TX1 : u_T := fun k => match k with
  | 0 => ("BridgeBells$Travellers", "number", "I", false)
  | 1 => ("BridgeBells$Travellers", "passed", "I", false)
  | 2 => ("BridgeBells$Travellers", "bargesWaiting", "I", false)
  | 3 => ("BridgeBells$Travellers", "cartsWaiting", "I", false)
  | 4 => ("BridgeBells$Travellers", "barge", "[I", true)
  | 5 => ("BridgeBells$Travellers", "needs", "[I", true)
  | 6 => ("BridgeBells$Travellers", "state", "[I", true)
  | 7 => ("BridgeBells$Travellers", "came", "[I", true)
  | 8 => ("BridgeBells$Travellers", "passedIn", "[I", true)
  | 9 => ("BridgeBells$Travellers", "waitEnd", "[I", true)
  | 10 => ("BridgeBells$Travellers", "firstBarge", "I", false)
  | _ => ("BridgeBells$Travellers", "firstCart", "I", false)
def tyX1 : Nat → FieldType := fun k => match k with
  | 0 => .int
  | 1 => .int
  | 2 => .int
  | 3 => .int
  | 4 => .array .int
  | 5 => .array .int
  | 6 => .array .int
  | 7 => .array .int
  | 8 => .array .int
  | 9 => .array .int
  | 10 => .int
  | _ => .int
abbrev wsX10 : List Cond := u_ws RX1 TX1 12
theorem nmX1 : ∀ a, a < 12 → ∀ b, b < 12 → a ≠ b → (TX1 a).2.1 ≠ (TX1 b).2.1 := by decide +kernel
theorem tyX1_ok : ∀ k, k < 12 → parseFieldDescriptor (TX1 k).2.2.1 = some (tyX1 k) := by decide +kernel
abbrev cX1_init : ByteArray := prog_3_method_1_code
def yX1_init : MethodName := ⟨RX1, "<init>", "()V"⟩
abbrev cX1_copyFrom : ByteArray := prog_3_method_2_code
def yX1_copyFrom : MethodName := ⟨RX1, "copyFrom", "(LBridgeBells$Travellers;)V"⟩
abbrev cX1_has : ByteArray := prog_3_method_3_code
def yX1_has : MethodName := ⟨RX1, "has", "(I)Z"⟩
abbrev cX1_add : ByteArray := prog_3_method_4_code
def yX1_add : MethodName := ⟨RX1, "add", "(ZII)I"⟩
abbrev cX1_endWait : ByteArray := prog_3_method_5_code
def yX1_endWait : MethodName := ⟨RX1, "endWait", "(III)V"⟩
abbrev cX1_endPassage : ByteArray := prog_3_method_6_code
def yX1_endPassage : MethodName := ⟨RX1, "endPassage", "(II)V"⟩
abbrev cX1_waited : ByteArray := prog_3_method_7_code
def yX1_waited : MethodName := ⟨RX1, "waited", "(II)I"⟩
abbrev cX1_firstOfAll : ByteArray := prog_3_method_8_code
def yX1_firstOfAll : MethodName := ⟨RX1, "firstOfAll", "()I"⟩
abbrev cX1_firstBargeElseCart : ByteArray := prog_3_method_9_code
def yX1_firstBargeElseCart : MethodName := ⟨RX1, "firstBargeElseCart", "()I"⟩
abbrev cX1_firstCartElseBarge : ByteArray := prog_3_method_10_code
def yX1_firstCartElseBarge : MethodName := ⟨RX1, "firstCartElseBarge", "()I"⟩
abbrev cX1_seeWhoWaits : ByteArray := prog_3_method_11_code
def yX1_seeWhoWaits : MethodName := ⟨RX1, "seeWhoWaits", "()V"⟩
def RX2 : String := "BridgeBells"
def TX2 : u_T := fun k => match k with
  | 0 => ("BridgeBells", "bridge", "LBridgeBells$Bridge;", true)
  | _ => ("BridgeBells", "trial", "LBridgeBells$Bridge;", true)
def tyX2 : Nat → FieldType := fun k => match k with
  | 0 => .object "BridgeBells$Bridge"
  | _ => .object "BridgeBells$Bridge"
abbrev wsX20 : List Cond := u_ws RX2 TX2 2
theorem nmX2 : ∀ a, a < 2 → ∀ b, b < 2 → a ≠ b → (TX2 a).2.1 ≠ (TX2 b).2.1 := by decide +kernel
theorem tyX2_ok : ∀ k, k < 2 → parseFieldDescriptor (TX2 k).2.2.1 = some (tyX2 k) := by decide +kernel
abbrev cX2_init : ByteArray := prog_1_method_1_code
def yX2_init : MethodName := ⟨RX2, "<init>", "()V"⟩
abbrev cX2_come : ByteArray := prog_1_method_2_code
def yX2_come : MethodName := ⟨RX2, "come", "(ZI)I"⟩
abbrev cX2_leave : ByteArray := prog_1_method_3_code
def yX2_leave : MethodName := ⟨RX2, "leave", "(I)I"⟩
abbrev cX2_ring : ByteArray := prog_1_method_4_code
def yX2_ring : MethodName := ⟨RX2, "ring", "(I)I"⟩
abbrev cX2_poise : ByteArray := prog_1_method_5_code
def yX2_poise : MethodName := ⟨RX2, "poise", "(I)I"⟩
abbrev cX2_setCold : ByteArray := prog_1_method_6_code
def yX2_setCold : MethodName := ⟨RX2, "setCold", "(II)I"⟩
abbrev cX2_crack : ByteArray := prog_1_method_7_code
def yX2_crack : MethodName := ⟨RX2, "crack", "()I"⟩
abbrev cX2_traveller : ByteArray := prog_1_method_8_code
def yX2_traveller : MethodName := ⟨RX2, "traveller", "(II)I"⟩
abbrev cX2_count : ByteArray := prog_1_method_9_code
def yX2_count : MethodName := ⟨RX2, "count", "(I)I"⟩
abbrev cX2_speed : ByteArray := prog_1_method_10_code
def yX2_speed : MethodName := ⟨RX2, "speed", "(Z)I"⟩
abbrev cX2_pass : ByteArray := prog_1_method_11_code
def yX2_pass : MethodName := ⟨RX2, "pass", "(I)I"⟩
abbrev cX2_when : ByteArray := prog_1_method_12_code
def yX2_when : MethodName := ⟨RX2, "when", "(I)I"⟩
abbrev cX2_foresee : ByteArray := prog_1_method_13_code
def yX2_foresee : MethodName := ⟨RX2, "foresee", "(II)I"⟩
abbrev cX2_bestCode : ByteArray := prog_1_method_14_code
def yX2_bestCode : MethodName := ⟨RX2, "bestCode", "(I)I"⟩
abbrev cX2_bestPoise : ByteArray := prog_1_method_15_code
def yX2_bestPoise : MethodName := ⟨RX2, "bestPoise", "(I)I"⟩
abbrev cX2_mean : ByteArray := prog_1_method_16_code
def yX2_mean : MethodName := ⟨RX2, "mean", "()D"⟩
abbrev cX2_digest : ByteArray := prog_1_method_17_code
def yX2_digest : MethodName := ⟨RX2, "digest", "()J"⟩
abbrev cX2_isSpan : ByteArray := prog_1_method_18_code
def yX2_isSpan : MethodName := ⟨RX2, "isSpan", "(I)Z"⟩
abbrev cX2_waitWith : ByteArray := prog_1_method_19_code
def yX2_waitWith : MethodName := ⟨RX2, "waitWith", "(III)I"⟩
def RX3 : String := "BridgeBellsModel$State"
def TX3 : u_T := fun k => match k with
  | 0 => ("BridgeBellsModel$State", "minute", "I", false)
  | 1 => ("BridgeBellsModel$State", "angle", "I", false)
  | 2 => ("BridgeBellsModel$State", "poise", "I", false)
  | 3 => ("BridgeBellsModel$State", "ice", "I", false)
  | 4 => ("BridgeBellsModel$State", "code", "I", false)
  | 5 => ("BridgeBellsModel$State", "passer", "I", false)
  | 6 => ("BridgeBellsModel$State", "latest", "I", false)
  | 7 => ("BridgeBellsModel$State", "is", "[I", true)
  | 8 => ("BridgeBellsModel$State", "waited", "[I", true)
  | 9 => ("BridgeBellsModel$State", "left", "[I", true)
  | 10 => ("BridgeBellsModel$State", "when", "[I", true)
  | _ => ("BridgeBellsModel$State", "this$0", "LBridgeBellsModel;", true)
def tyX3 : Nat → FieldType := fun k => match k with
  | 0 => .int
  | 1 => .int
  | 2 => .int
  | 3 => .int
  | 4 => .int
  | 5 => .int
  | 6 => .int
  | 7 => .array .int
  | 8 => .array .int
  | 9 => .array .int
  | 10 => .array .int
  | _ => .object "BridgeBellsModel"
abbrev wsX30 : List Cond := u_ws RX3 TX3 12
theorem nmX3 : ∀ a, a < 12 → ∀ b, b < 12 → a ≠ b → (TX3 a).2.1 ≠ (TX3 b).2.1 := by decide +kernel
theorem tyX3_ok : ∀ k, k < 12 → parseFieldDescriptor (TX3 k).2.2.1 = some (tyX3 k) := by decide +kernel
abbrev cX3_init : ByteArray := prog_6_method_1_code
def yX3_init : MethodName := ⟨RX3, "<init>", "(LBridgeBellsModel;)V"⟩
abbrev cX3_copy : ByteArray := prog_6_method_2_code
def yX3_copy : MethodName := ⟨RX3, "copy", "([I[I)V"⟩
abbrev cX3_become : ByteArray := prog_6_method_3_code
def yX3_become : MethodName := ⟨RX3, "become", "(LBridgeBellsModel$State;)V"⟩
abbrev cX3_speed : ByteArray := prog_6_method_4_code
def yX3_speed : MethodName := ⟨RX3, "speed", "(Z)I"⟩
abbrev cX3_first : ByteArray := prog_6_method_5_code
def yX3_first : MethodName := ⟨RX3, "first", "(I)I"⟩
abbrev cX3_next : ByteArray := prog_6_method_6_code
def yX3_next : MethodName := ⟨RX3, "next", "()I"⟩
abbrev cX3_serve : ByteArray := prog_6_method_7_code
def yX3_serve : MethodName := ⟨RX3, "serve", "(I)V"⟩
abbrev cX3_pass : ByteArray := prog_6_method_8_code
def yX3_pass : MethodName := ⟨RX3, "pass", "()V"⟩
abbrev cX3_pass_ : ByteArray := prog_6_method_9_code
def yX3_pass_ : MethodName := ⟨RX3, "pass", "(I)V"⟩
abbrev cX3_are : ByteArray := prog_6_method_10_code
def yX3_are : MethodName := ⟨RX3, "are", "(II)I"⟩
abbrev cX3_sumWaited : ByteArray := prog_6_method_11_code
def yX3_sumWaited : MethodName := ⟨RX3, "sumWaited", "()I"⟩
abbrev cX3_counted : ByteArray := prog_6_method_12_code
def yX3_counted : MethodName := ⟨RX3, "counted", "(I)I"⟩
def RX4 : String := "BridgeBellsModel"
def TX4 : u_T := fun k => match k with
  | 0 => ("BridgeBellsModel", "thrown", "I", false)
  | 1 => ("BridgeBellsModel", "travellers", "I", false)
  | 2 => ("BridgeBellsModel", "isBarge", "[I", true)
  | 3 => ("BridgeBellsModel", "needs", "[I", true)
  | 4 => ("BridgeBellsModel", "came", "[I", true)
  | 5 => ("BridgeBellsModel", "cold", "[I", true)
  | 6 => ("BridgeBellsModel", "s", "LBridgeBellsModel$State;", true)
  | _ => ("BridgeBellsModel", "ahead", "LBridgeBellsModel$State;", true)
def tyX4 : Nat → FieldType := fun k => match k with
  | 0 => .int
  | 1 => .int
  | 2 => .array .int
  | 3 => .array .int
  | 4 => .array .int
  | 5 => .array .int
  | 6 => .object "BridgeBellsModel$State"
  | _ => .object "BridgeBellsModel$State"
abbrev wsX40 : List Cond := u_ws RX4 TX4 8
theorem nmX4 : ∀ a, a < 8 → ∀ b, b < 8 → a ≠ b → (TX4 a).2.1 ≠ (TX4 b).2.1 := by decide +kernel
theorem tyX4_ok : ∀ k, k < 8 → parseFieldDescriptor (TX4 k).2.2.1 = some (tyX4 k) := by decide +kernel
abbrev cX4_init : ByteArray := prog_5_method_1_code
def yX4_init : MethodName := ⟨RX4, "<init>", "()V"⟩
abbrev cX4_thrown : ByteArray := prog_5_method_2_code
def yX4_thrown : MethodName := ⟨RX4, "thrown", "()I"⟩
abbrev cX4_no : ByteArray := prog_5_method_3_code
def yX4_no : MethodName := ⟨RX4, "no", "(I)I"⟩
abbrev cX4_isIn : ByteArray := prog_5_method_4_code
def yX4_isIn : MethodName := ⟨RX4, "isIn", "(III)Z"⟩
abbrev cX4_isTraveller : ByteArray := prog_5_method_5_code
def yX4_isTraveller : MethodName := ⟨RX4, "isTraveller", "(I)Z"⟩
abbrev cX4_come : ByteArray := prog_5_method_6_code
def yX4_come : MethodName := ⟨RX4, "come", "(ZI)I"⟩
abbrev cX4_leave : ByteArray := prog_5_method_7_code
def yX4_leave : MethodName := ⟨RX4, "leave", "(I)I"⟩
abbrev cX4_ring : ByteArray := prog_5_method_8_code
def yX4_ring : MethodName := ⟨RX4, "ring", "(I)I"⟩
abbrev cX4_poise : ByteArray := prog_5_method_9_code
def yX4_poise : MethodName := ⟨RX4, "poise", "(I)I"⟩
abbrev cX4_setCold : ByteArray := prog_5_method_10_code
def yX4_setCold : MethodName := ⟨RX4, "setCold", "(II)I"⟩
abbrev cX4_crack : ByteArray := prog_5_method_11_code
def yX4_crack : MethodName := ⟨RX4, "crack", "()I"⟩
abbrev cX4_told : ByteArray := prog_5_method_12_code
def yX4_told : MethodName := ⟨RX4, "told", "(II)I"⟩
abbrev cX4_traveller : ByteArray := prog_5_method_13_code
def yX4_traveller : MethodName := ⟨RX4, "traveller", "(II)I"⟩
abbrev cX4_count : ByteArray := prog_5_method_14_code
def yX4_count : MethodName := ⟨RX4, "count", "(I)I"⟩
abbrev cX4_speed : ByteArray := prog_5_method_15_code
def yX4_speed : MethodName := ⟨RX4, "speed", "(Z)I"⟩
abbrev cX4_pass : ByteArray := prog_5_method_16_code
def yX4_pass : MethodName := ⟨RX4, "pass", "(I)I"⟩
abbrev cX4_when : ByteArray := prog_5_method_17_code
def yX4_when : MethodName := ⟨RX4, "when", "(I)I"⟩
abbrev cX4_foresee : ByteArray := prog_5_method_18_code
def yX4_foresee : MethodName := ⟨RX4, "foresee", "(II)I"⟩
abbrev cX4_best : ByteArray := prog_5_method_19_code
def yX4_best : MethodName := ⟨RX4, "best", "(IZI)I"⟩
abbrev cX4_bestCode : ByteArray := prog_5_method_20_code
def yX4_bestCode : MethodName := ⟨RX4, "bestCode", "(I)I"⟩
abbrev cX4_bestPoise : ByteArray := prog_5_method_21_code
def yX4_bestPoise : MethodName := ⟨RX4, "bestPoise", "(I)I"⟩
abbrev cX4_mean : ByteArray := prog_5_method_22_code
def yX4_mean : MethodName := ⟨RX4, "mean", "()D"⟩
abbrev cX4_digest : ByteArray := prog_5_method_23_code
def yX4_digest : MethodName := ⟨RX4, "digest", "()J"⟩
def RJ9 : String := "java/lang/Math"
def TJ9 : u_T := fun k => match k with
  | _ => ("", "", "", false)
def tyJ9 : Nat → FieldType := fun k => match k with
  | _ => .int
abbrev wsJ90 : List Cond := u_ws RJ9 TJ9 0
theorem nmJ9 : ∀ a, a < 0 → ∀ b, b < 0 → a ≠ b → (TJ9 a).2.1 ≠ (TJ9 b).2.1 := by decide +kernel
theorem tyJ9_ok : ∀ k, k < 0 → parseFieldDescriptor (TJ9 k).2.2.1 = some (tyJ9 k) := by decide +kernel
abbrev cJ9_floorMod_7cf53 : ByteArray := prog_11_method_50_code
def yJ9_floorMod_7cf53 : MethodName := ⟨RJ9, "floorMod", "(II)I"⟩
abbrev cJ9_max_7cf53 : ByteArray := prog_11_method_65_code
def yJ9_max_7cf53 : MethodName := ⟨RJ9, "max", "(II)I"⟩
abbrev cJ9_min_7cf53 : ByteArray := prog_11_method_69_code
def yJ9_min_7cf53 : MethodName := ⟨RJ9, "min", "(II)I"⟩
def RJ0 : String := "java/lang/String"
def TJ0 : u_T := fun k => match k with
  | _ => ("", "", "", false)
def tyJ0 : Nat → FieldType := fun k => match k with
  | _ => .int
abbrev wsJ00 : List Cond := u_ws RJ0 TJ0 0
theorem nmJ0 : ∀ a, a < 0 → ∀ b, b < 0 → a ≠ b → (TJ0 a).2.1 ≠ (TJ0 b).2.1 := by decide +kernel
theorem tyJ0_ok : ∀ k, k < 0 → parseFieldDescriptor (TJ0 k).2.2.1 = some (tyJ0 k) := by decide +kernel
def RJ10 : String := "java/lang/System"
def TJ10 : u_T := fun k => match k with
  | _ => ("", "", "", false)
def tyJ10 : Nat → FieldType := fun k => match k with
  | _ => .int
abbrev wsJ100 : List Cond := u_ws RJ10 TJ10 0
theorem nmJ10 : ∀ a, a < 0 → ∀ b, b < 0 → a ≠ b → (TJ10 a).2.1 ≠ (TJ10 b).2.1 := by decide +kernel
theorem tyJ10_ok : ∀ k, k < 0 → parseFieldDescriptor (TJ10 k).2.2.1 = some (tyJ10 k) := by decide +kernel
def RL : String := "BridgeBellsLaw"
abbrev cL_come : ByteArray := method_3_code
def yL_come : MethodName := ⟨RL, "come", "(LBridgeBells;ZI[J)I"⟩
abbrev cL_leave : ByteArray := method_4_code
def yL_leave : MethodName := ⟨RL, "leave", "(LBridgeBells;I[J)I"⟩
abbrev cL_ring : ByteArray := method_5_code
def yL_ring : MethodName := ⟨RL, "ring", "(LBridgeBells;I[J)I"⟩
abbrev cL_poise : ByteArray := method_6_code
def yL_poise : MethodName := ⟨RL, "poise", "(LBridgeBells;I[J)I"⟩
abbrev cL_setCold : ByteArray := method_7_code
def yL_setCold : MethodName := ⟨RL, "setCold", "(LBridgeBells;II[J)I"⟩
abbrev cL_traveller : ByteArray := method_8_code
def yL_traveller : MethodName := ⟨RL, "traveller", "(LBridgeBells;II[J)I"⟩
abbrev cL_count : ByteArray := method_9_code
def yL_count : MethodName := ⟨RL, "count", "(LBridgeBells;I[J)I"⟩
abbrev cL_pass : ByteArray := method_10_code
def yL_pass : MethodName := ⟨RL, "pass", "(LBridgeBells;I[J)I"⟩
abbrev cL_when : ByteArray := method_11_code
def yL_when : MethodName := ⟨RL, "when", "(LBridgeBells;I[J)I"⟩
abbrev cL_foresee : ByteArray := method_12_code
def yL_foresee : MethodName := ⟨RL, "foresee", "(LBridgeBells;II[J)I"⟩
abbrev cL_bestCode : ByteArray := method_13_code
def yL_bestCode : MethodName := ⟨RL, "bestCode", "(LBridgeBells;I[J)I"⟩
abbrev cL_bestPoise : ByteArray := method_14_code
def yL_bestPoise : MethodName := ⟨RL, "bestPoise", "(LBridgeBells;I[J)I"⟩
abbrev cL_law : ByteArray := code
def yL_law : MethodName := ⟨RL, "law", "([I)Z"⟩
def wsX1_init : List Cond := .code yX1_init cX1_init 1 none :: ([.methodLink RX1 3 objectInit, .instanceMethod objectInit, .code objectInit ⟨#[0xb1]⟩ 1 none, .fieldLink RX1 9 "BridgeBells$Travellers" "number" "I", .fieldLink RX1 15 "BridgeBells$Travellers" "passed" "I", .fieldLink RX1 18 "BridgeBells$Travellers" "bargesWaiting" "I", .fieldLink RX1 21 "BridgeBells$Travellers" "cartsWaiting" "I", .arrayClass .int, .fieldLink RX1 24 "BridgeBells$Travellers" "barge" "[I", .fieldLink RX1 28 "BridgeBells$Travellers" "needs" "[I", .fieldLink RX1 31 "BridgeBells$Travellers" "state" "[I", .fieldLink RX1 34 "BridgeBells$Travellers" "came" "[I", .fieldLink RX1 37 "BridgeBells$Travellers" "passedIn" "[I", .fieldLink RX1 40 "BridgeBells$Travellers" "waitEnd" "[I", .fieldLink RX1 43 "BridgeBells$Travellers" "firstBarge" "I", .fieldLink RX1 46 "BridgeBells$Travellers" "firstCart" "I"] ++ wsX10)
def wsX0_init_r1 : List Cond := [Cond.methodLink RX0 3 objectInit, Cond.instanceMethod objectInit, Cond.code objectInit ⟨#[0xb1]⟩ 1 none, Cond.fieldLink RX0 9 "BridgeBells$Bridge" "minute" "I", Cond.fieldLink RX0 15 "BridgeBells$Bridge" "angle" "I", Cond.fieldLink RX0 18 "BridgeBells$Bridge" "counterpoise" "I", Cond.fieldLink RX0 21 "BridgeBells$Bridge" "ice" "I", Cond.fieldLink RX0 24 "BridgeBells$Bridge" "code" "I", Cond.fieldLink RX0 27 "BridgeBells$Bridge" "waitedInAll" "I", Cond.arrayClass .int, Cond.fieldLink RX0 30 "BridgeBells$Bridge" "cold" "[I", Cond.classLink RX0 34 RX1, Cond.instantiable RX1 12, Cond.initialized RX1, Cond.fieldLink RX0 37 "BridgeBells$Bridge" "travellers" "LBridgeBells$Travellers;", Cond.fieldLink RX0 41 "BridgeBells$Bridge" "passing" "I", Cond.fieldLink RX0 44 "BridgeBells$Bridge" "toGo" "I", Cond.fieldLink RX0 47 "BridgeBells$Bridge" "latestWasBarge" "Z", Cond.instanceMethod yX1_init, Cond.code yX1_init cX1_init 1 none, Cond.methodLink RX1 3 objectInit, Cond.fieldLink RX1 9 "BridgeBells$Travellers" "number" "I", Cond.fieldLink RX1 15 "BridgeBells$Travellers" "passed" "I", Cond.fieldLink RX1 18 "BridgeBells$Travellers" "bargesWaiting" "I"]
def wsX0_init_r2 : List Cond := [Cond.fieldLink RX1 21 "BridgeBells$Travellers" "cartsWaiting" "I", Cond.fieldLink RX1 24 "BridgeBells$Travellers" "barge" "[I", Cond.fieldLink RX1 28 "BridgeBells$Travellers" "needs" "[I", Cond.fieldLink RX1 31 "BridgeBells$Travellers" "state" "[I", Cond.fieldLink RX1 34 "BridgeBells$Travellers" "came" "[I", Cond.fieldLink RX1 37 "BridgeBells$Travellers" "passedIn" "[I", Cond.fieldLink RX1 40 "BridgeBells$Travellers" "waitEnd" "[I", Cond.fieldLink RX1 43 "BridgeBells$Travellers" "firstBarge" "I", Cond.fieldLink RX1 46 "BridgeBells$Travellers" "firstCart" "I"]
def wsX0_init : List Cond := .code yX0_init cX0_init 1 none :: ((wsX0_init_r1 ++ wsX0_init_r2) ++ wsX00 ++ wsX10)
def wsX1_copyFrom : List Cond := .code yX1_copyFrom cX1_copyFrom 2 none :: ([.fieldLink RX1 9 "BridgeBells$Travellers" "number" "I", .fieldLink RX1 15 "BridgeBells$Travellers" "passed" "I", .fieldLink RX1 18 "BridgeBells$Travellers" "bargesWaiting" "I", .fieldLink RX1 21 "BridgeBells$Travellers" "cartsWaiting" "I", .fieldLink RX1 24 "BridgeBells$Travellers" "barge" "[I", .methodLink RX1 49 arraycopyName, .native arraycopyName, .static arraycopyName, .initialized "java/lang/System", .fieldLink RX1 28 "BridgeBells$Travellers" "needs" "[I", .fieldLink RX1 31 "BridgeBells$Travellers" "state" "[I", .fieldLink RX1 34 "BridgeBells$Travellers" "came" "[I", .fieldLink RX1 37 "BridgeBells$Travellers" "passedIn" "[I", .fieldLink RX1 40 "BridgeBells$Travellers" "waitEnd" "[I", .fieldLink RX1 43 "BridgeBells$Travellers" "firstBarge" "I", .fieldLink RX1 46 "BridgeBells$Travellers" "firstCart" "I"] ++ wsX10)
def wsX0_copyFrom_r1 : List Cond := [Cond.fieldLink RX0 9 "BridgeBells$Bridge" "minute" "I", Cond.fieldLink RX0 15 "BridgeBells$Bridge" "angle" "I", Cond.fieldLink RX0 18 "BridgeBells$Bridge" "counterpoise" "I", Cond.fieldLink RX0 21 "BridgeBells$Bridge" "ice" "I", Cond.fieldLink RX0 24 "BridgeBells$Bridge" "code" "I", Cond.fieldLink RX0 27 "BridgeBells$Bridge" "waitedInAll" "I", Cond.fieldLink RX0 30 "BridgeBells$Bridge" "cold" "[I", Cond.methodLink RX0 51 arraycopyName, Cond.native arraycopyName, Cond.static arraycopyName, Cond.initialized "java/lang/System", Cond.fieldLink RX0 37 "BridgeBells$Bridge" "travellers" "LBridgeBells$Travellers;", Cond.fieldLink RX0 41 "BridgeBells$Bridge" "passing" "I", Cond.fieldLink RX0 44 "BridgeBells$Bridge" "toGo" "I", Cond.fieldLink RX0 47 "BridgeBells$Bridge" "latestWasBarge" "Z", Cond.methodLink RX0 57 yX1_copyFrom, Cond.instanceMethod yX1_copyFrom, Cond.selects RX1 yX1_copyFrom yX1_copyFrom, Cond.initialized RX1, Cond.code yX1_copyFrom cX1_copyFrom 2 none, Cond.fieldLink RX1 9 "BridgeBells$Travellers" "number" "I", Cond.fieldLink RX1 15 "BridgeBells$Travellers" "passed" "I", Cond.fieldLink RX1 18 "BridgeBells$Travellers" "bargesWaiting" "I", Cond.fieldLink RX1 21 "BridgeBells$Travellers" "cartsWaiting" "I"]
def wsX0_copyFrom_r2 : List Cond := [Cond.fieldLink RX1 24 "BridgeBells$Travellers" "barge" "[I", Cond.methodLink RX1 49 arraycopyName, Cond.fieldLink RX1 28 "BridgeBells$Travellers" "needs" "[I", Cond.fieldLink RX1 31 "BridgeBells$Travellers" "state" "[I", Cond.fieldLink RX1 34 "BridgeBells$Travellers" "came" "[I", Cond.fieldLink RX1 37 "BridgeBells$Travellers" "passedIn" "[I", Cond.fieldLink RX1 40 "BridgeBells$Travellers" "waitEnd" "[I", Cond.fieldLink RX1 43 "BridgeBells$Travellers" "firstBarge" "I", Cond.fieldLink RX1 46 "BridgeBells$Travellers" "firstCart" "I"]
def wsX0_copyFrom : List Cond := .code yX0_copyFrom cX0_copyFrom 2 none :: ((wsX0_copyFrom_r1 ++ wsX0_copyFrom_r2) ++ wsX00 ++ wsX10)
def wsX1_firstOfAll : List Cond := .code yX1_firstOfAll cX1_firstOfAll 1 (some .int) :: ([.fieldLink RX1 43 "BridgeBells$Travellers" "firstBarge" "I", .fieldLink RX1 46 "BridgeBells$Travellers" "firstCart" "I", .methodLink RX1 58 Lib.Math.min.name, .static Lib.Math.min.name, .initialized "java/lang/Math", .code Lib.Math.min.name Lib.Math.min.code 2 (some .int)] ++ wsX10)
def wsX1_firstBargeElseCart : List Cond := .code yX1_firstBargeElseCart cX1_firstBargeElseCart 1 (some .int) :: ([.fieldLink RX1 43 "BridgeBells$Travellers" "firstBarge" "I", .fieldLink RX1 46 "BridgeBells$Travellers" "firstCart" "I"] ++ wsX10)
def wsX1_firstCartElseBarge : List Cond := .code yX1_firstCartElseBarge cX1_firstCartElseBarge 1 (some .int) :: ([.fieldLink RX1 46 "BridgeBells$Travellers" "firstCart" "I", .fieldLink RX1 43 "BridgeBells$Travellers" "firstBarge" "I"] ++ wsX10)
def wsX0_servedNext : List Cond := .code yX0_servedNext cX0_servedNext 1 (some .int) :: ([.fieldLink RX0 41 "BridgeBells$Bridge" "passing" "I", .fieldLink RX0 24 "BridgeBells$Bridge" "code" "I", .fieldLink RX0 37 "BridgeBells$Bridge" "travellers" "LBridgeBells$Travellers;", .fieldLink RX0 47 "BridgeBells$Bridge" "latestWasBarge" "Z", .methodLink RX0 90 yX1_firstOfAll, .instanceMethod yX1_firstOfAll, .selects RX1 yX1_firstOfAll yX1_firstOfAll, .initialized RX1, .code yX1_firstOfAll cX1_firstOfAll 1 (some .int), .fieldLink RX1 43 "BridgeBells$Travellers" "firstBarge" "I", .fieldLink RX1 46 "BridgeBells$Travellers" "firstCart" "I", .methodLink RX1 58 Lib.Math.min.name, .static Lib.Math.min.name, .initialized "java/lang/Math", .code Lib.Math.min.name Lib.Math.min.code 2 (some .int), .methodLink RX0 93 yX1_firstBargeElseCart, .instanceMethod yX1_firstBargeElseCart, .selects RX1 yX1_firstBargeElseCart yX1_firstBargeElseCart, .code yX1_firstBargeElseCart cX1_firstBargeElseCart 1 (some .int), .methodLink RX0 96 yX1_firstCartElseBarge, .instanceMethod yX1_firstCartElseBarge, .selects RX1 yX1_firstCartElseBarge yX1_firstCartElseBarge, .code yX1_firstCartElseBarge cX1_firstCartElseBarge 1 (some .int)] ++ wsX00 ++ wsX10)
def wsX1_has : List Cond := .code yX1_has cX1_has 2 (some .boolean) :: ([.fieldLink RX1 9 "BridgeBells$Travellers" "number" "I"] ++ wsX10)
def wsX1_seeWhoWaits : List Cond := .code yX1_seeWhoWaits cX1_seeWhoWaits 2 none :: ([.fieldLink RX1 18 "BridgeBells$Travellers" "bargesWaiting" "I", .fieldLink RX1 21 "BridgeBells$Travellers" "cartsWaiting" "I", .fieldLink RX1 43 "BridgeBells$Travellers" "firstBarge" "I", .fieldLink RX1 46 "BridgeBells$Travellers" "firstCart" "I", .fieldLink RX1 9 "BridgeBells$Travellers" "number" "I", .fieldLink RX1 31 "BridgeBells$Travellers" "state" "[I", .fieldLink RX1 24 "BridgeBells$Travellers" "barge" "[I"] ++ wsX10)
def wsX1_endWait : List Cond := .code yX1_endWait cX1_endWait 4 none :: ([.fieldLink RX1 31 "BridgeBells$Travellers" "state" "[I", .fieldLink RX1 40 "BridgeBells$Travellers" "waitEnd" "[I", .methodLink RX1 55 yX1_seeWhoWaits, .instanceMethod yX1_seeWhoWaits, .selects RX1 yX1_seeWhoWaits yX1_seeWhoWaits, .initialized RX1, .code yX1_seeWhoWaits cX1_seeWhoWaits 2 none, .fieldLink RX1 18 "BridgeBells$Travellers" "bargesWaiting" "I", .fieldLink RX1 21 "BridgeBells$Travellers" "cartsWaiting" "I", .fieldLink RX1 43 "BridgeBells$Travellers" "firstBarge" "I", .fieldLink RX1 46 "BridgeBells$Travellers" "firstCart" "I", .fieldLink RX1 9 "BridgeBells$Travellers" "number" "I", .fieldLink RX1 24 "BridgeBells$Travellers" "barge" "[I"] ++ wsX10)
def wsX0_speedTowards : List Cond := .code yX0_speedTowards cX0_speedTowards 4 (some .int) :: ([.fieldLink RX0 18 "BridgeBells$Bridge" "counterpoise" "I", .fieldLink RX0 21 "BridgeBells$Bridge" "ice" "I", .methodLink RX0 84 Lib.Math.max.name, .static Lib.Math.max.name, .initialized "java/lang/Math", .code Lib.Math.max.name Lib.Math.max.code 2 (some .int)] ++ wsX00)
def wsX0_serve_r1 : List Cond := [Cond.fieldLink RX0 37 "BridgeBells$Bridge" "travellers" "LBridgeBells$Travellers;", Cond.fieldLink RX0 103 "BridgeBells$Travellers" "barge" "[I", Cond.fieldLink RX0 15 "BridgeBells$Bridge" "angle" "I", Cond.fieldLink RX0 41 "BridgeBells$Bridge" "passing" "I", Cond.fieldLink RX0 106 "BridgeBells$Travellers" "needs" "[I", Cond.fieldLink RX0 44 "BridgeBells$Bridge" "toGo" "I", Cond.fieldLink RX0 47 "BridgeBells$Bridge" "latestWasBarge" "Z", Cond.fieldLink RX0 9 "BridgeBells$Bridge" "minute" "I", Cond.methodLink RX0 117 Lib.Math.min.name, Cond.static Lib.Math.min.name, Cond.initialized "java/lang/Math", Cond.code Lib.Math.min.name Lib.Math.min.code 2 (some .int), Cond.methodLink RX0 84 Lib.Math.max.name, Cond.static Lib.Math.max.name, Cond.code Lib.Math.max.name Lib.Math.max.code 2 (some .int), Cond.methodLink RX0 99 yX1_has, Cond.instanceMethod yX1_has, Cond.selects RX1 yX1_has yX1_has, Cond.initialized RX1, Cond.code yX1_has cX1_has 2 (some .boolean), Cond.fieldLink RX1 9 "BridgeBells$Travellers" "number" "I", Cond.methodLink RX0 109 yX1_endWait, Cond.instanceMethod yX1_endWait, Cond.selects RX1 yX1_endWait yX1_endWait]
def wsX0_serve_r2 : List Cond := [Cond.code yX1_endWait cX1_endWait 4 none, Cond.fieldLink RX1 31 "BridgeBells$Travellers" "state" "[I", Cond.fieldLink RX1 40 "BridgeBells$Travellers" "waitEnd" "[I", Cond.methodLink RX1 55 yX1_seeWhoWaits, Cond.instanceMethod yX1_seeWhoWaits, Cond.selects RX1 yX1_seeWhoWaits yX1_seeWhoWaits, Cond.code yX1_seeWhoWaits cX1_seeWhoWaits 2 none, Cond.fieldLink RX1 18 "BridgeBells$Travellers" "bargesWaiting" "I", Cond.fieldLink RX1 21 "BridgeBells$Travellers" "cartsWaiting" "I", Cond.fieldLink RX1 43 "BridgeBells$Travellers" "firstBarge" "I", Cond.fieldLink RX1 46 "BridgeBells$Travellers" "firstCart" "I", Cond.fieldLink RX1 24 "BridgeBells$Travellers" "barge" "[I", Cond.methodLink RX0 113 yX0_speedTowards, Cond.instanceMethod yX0_speedTowards, Cond.selects RX0 yX0_speedTowards yX0_speedTowards, Cond.initialized RX0, Cond.code yX0_speedTowards cX0_speedTowards 4 (some .int), Cond.fieldLink RX0 18 "BridgeBells$Bridge" "counterpoise" "I", Cond.fieldLink RX0 21 "BridgeBells$Bridge" "ice" "I"]
def wsX0_serve : List Cond := .code yX0_serve cX0_serve 3 none :: ((wsX0_serve_r1 ++ wsX0_serve_r2) ++ wsX00 ++ wsX10)
def wsX1_endPassage : List Cond := .code yX1_endPassage cX1_endPassage 3 none :: ([.fieldLink RX1 31 "BridgeBells$Travellers" "state" "[I", .fieldLink RX1 37 "BridgeBells$Travellers" "passedIn" "[I", .fieldLink RX1 15 "BridgeBells$Travellers" "passed" "I"] ++ wsX10)
def wsX0_goOnPassing : List Cond := .code yX0_goOnPassing cX0_goOnPassing 1 none :: ([.fieldLink RX0 37 "BridgeBells$Bridge" "travellers" "LBridgeBells$Travellers;", .fieldLink RX0 41 "BridgeBells$Bridge" "passing" "I", .fieldLink RX0 44 "BridgeBells$Bridge" "toGo" "I", .fieldLink RX0 9 "BridgeBells$Bridge" "minute" "I", .methodLink RX0 99 yX1_has, .instanceMethod yX1_has, .selects RX1 yX1_has yX1_has, .initialized RX1, .code yX1_has cX1_has 2 (some .boolean), .fieldLink RX1 9 "BridgeBells$Travellers" "number" "I", .methodLink RX0 120 yX1_endPassage, .instanceMethod yX1_endPassage, .selects RX1 yX1_endPassage yX1_endPassage, .code yX1_endPassage cX1_endPassage 3 none, .fieldLink RX1 31 "BridgeBells$Travellers" "state" "[I", .fieldLink RX1 37 "BridgeBells$Travellers" "passedIn" "[I", .fieldLink RX1 15 "BridgeBells$Travellers" "passed" "I"] ++ wsX00 ++ wsX10)
def wsJ9_floorMod_7cf53 : List Cond := .code yJ9_floorMod_7cf53 cJ9_floorMod_7cf53 3 (some .int) :: ([])
def wsX0_freeze : List Cond := .code yX0_freeze cX0_freeze 2 none :: ([.fieldLink RX0 9 "BridgeBells$Bridge" "minute" "I", .fieldLink RX0 21 "BridgeBells$Bridge" "ice" "I", .fieldLink RX0 30 "BridgeBells$Bridge" "cold" "[I", .methodLink RX0 117 Lib.Math.min.name, .static Lib.Math.min.name, .initialized "java/lang/Math", .code Lib.Math.min.name Lib.Math.min.code 2 (some .int), .methodLink RX0 84 Lib.Math.max.name, .static Lib.Math.max.name, .code Lib.Math.max.name Lib.Math.max.code 2 (some .int), .methodLink RX0 124 yJ9_floorMod_7cf53, .static yJ9_floorMod_7cf53, .initialized RJ9, .code yJ9_floorMod_7cf53 cJ9_floorMod_7cf53 3 (some .int)] ++ wsX00)
def wsX0_goOneMinute_r1 : List Cond := [Cond.fieldLink RX0 27 "BridgeBells$Bridge" "waitedInAll" "I", Cond.fieldLink RX0 37 "BridgeBells$Bridge" "travellers" "LBridgeBells$Travellers;", Cond.fieldLink RX0 75 "BridgeBells$Travellers" "bargesWaiting" "I", Cond.fieldLink RX0 78 "BridgeBells$Travellers" "cartsWaiting" "I", Cond.fieldLink RX0 9 "BridgeBells$Bridge" "minute" "I", Cond.methodLink RX0 64 yX0_servedNext, Cond.instanceMethod yX0_servedNext, Cond.selects RX0 yX0_servedNext yX0_servedNext, Cond.initialized RX0, Cond.code yX0_servedNext cX0_servedNext 1 (some .int), Cond.fieldLink RX0 41 "BridgeBells$Bridge" "passing" "I", Cond.fieldLink RX0 24 "BridgeBells$Bridge" "code" "I", Cond.fieldLink RX0 47 "BridgeBells$Bridge" "latestWasBarge" "Z", Cond.methodLink RX0 90 yX1_firstOfAll, Cond.instanceMethod yX1_firstOfAll, Cond.selects RX1 yX1_firstOfAll yX1_firstOfAll, Cond.initialized RX1, Cond.code yX1_firstOfAll cX1_firstOfAll 1 (some .int), Cond.fieldLink RX1 43 "BridgeBells$Travellers" "firstBarge" "I", Cond.fieldLink RX1 46 "BridgeBells$Travellers" "firstCart" "I", Cond.methodLink RX1 58 Lib.Math.min.name, Cond.static Lib.Math.min.name, Cond.initialized "java/lang/Math", Cond.code Lib.Math.min.name Lib.Math.min.code 2 (some .int)]
def wsX0_goOneMinute_r2 : List Cond := [Cond.methodLink RX0 93 yX1_firstBargeElseCart, Cond.instanceMethod yX1_firstBargeElseCart, Cond.selects RX1 yX1_firstBargeElseCart yX1_firstBargeElseCart, Cond.code yX1_firstBargeElseCart cX1_firstBargeElseCart 1 (some .int), Cond.methodLink RX0 96 yX1_firstCartElseBarge, Cond.instanceMethod yX1_firstCartElseBarge, Cond.selects RX1 yX1_firstCartElseBarge yX1_firstCartElseBarge, Cond.code yX1_firstCartElseBarge cX1_firstCartElseBarge 1 (some .int), Cond.methodLink RX0 68 yX0_serve, Cond.instanceMethod yX0_serve, Cond.selects RX0 yX0_serve yX0_serve, Cond.code yX0_serve cX0_serve 3 none, Cond.fieldLink RX0 103 "BridgeBells$Travellers" "barge" "[I", Cond.fieldLink RX0 15 "BridgeBells$Bridge" "angle" "I", Cond.fieldLink RX0 106 "BridgeBells$Travellers" "needs" "[I", Cond.fieldLink RX0 44 "BridgeBells$Bridge" "toGo" "I", Cond.methodLink RX0 117 Lib.Math.min.name, Cond.methodLink RX0 84 Lib.Math.max.name, Cond.static Lib.Math.max.name, Cond.code Lib.Math.max.name Lib.Math.max.code 2 (some .int), Cond.methodLink RX0 99 yX1_has, Cond.instanceMethod yX1_has, Cond.selects RX1 yX1_has yX1_has, Cond.code yX1_has cX1_has 2 (some .boolean)]
def wsX0_goOneMinute_r3 : List Cond := [Cond.fieldLink RX1 9 "BridgeBells$Travellers" "number" "I", Cond.methodLink RX0 109 yX1_endWait, Cond.instanceMethod yX1_endWait, Cond.selects RX1 yX1_endWait yX1_endWait, Cond.code yX1_endWait cX1_endWait 4 none, Cond.fieldLink RX1 31 "BridgeBells$Travellers" "state" "[I", Cond.fieldLink RX1 40 "BridgeBells$Travellers" "waitEnd" "[I", Cond.methodLink RX1 55 yX1_seeWhoWaits, Cond.instanceMethod yX1_seeWhoWaits, Cond.selects RX1 yX1_seeWhoWaits yX1_seeWhoWaits, Cond.code yX1_seeWhoWaits cX1_seeWhoWaits 2 none, Cond.fieldLink RX1 18 "BridgeBells$Travellers" "bargesWaiting" "I", Cond.fieldLink RX1 21 "BridgeBells$Travellers" "cartsWaiting" "I", Cond.fieldLink RX1 24 "BridgeBells$Travellers" "barge" "[I", Cond.methodLink RX0 113 yX0_speedTowards, Cond.instanceMethod yX0_speedTowards, Cond.selects RX0 yX0_speedTowards yX0_speedTowards, Cond.code yX0_speedTowards cX0_speedTowards 4 (some .int), Cond.fieldLink RX0 18 "BridgeBells$Bridge" "counterpoise" "I", Cond.fieldLink RX0 21 "BridgeBells$Bridge" "ice" "I", Cond.methodLink RX0 72 yX0_goOnPassing, Cond.instanceMethod yX0_goOnPassing, Cond.selects RX0 yX0_goOnPassing yX0_goOnPassing, Cond.code yX0_goOnPassing cX0_goOnPassing 1 none]
def wsX0_goOneMinute_r4 : List Cond := [Cond.methodLink RX0 120 yX1_endPassage, Cond.instanceMethod yX1_endPassage, Cond.selects RX1 yX1_endPassage yX1_endPassage, Cond.code yX1_endPassage cX1_endPassage 3 none, Cond.fieldLink RX1 37 "BridgeBells$Travellers" "passedIn" "[I", Cond.fieldLink RX1 15 "BridgeBells$Travellers" "passed" "I", Cond.methodLink RX0 81 yX0_freeze, Cond.instanceMethod yX0_freeze, Cond.selects RX0 yX0_freeze yX0_freeze, Cond.code yX0_freeze cX0_freeze 2 none, Cond.fieldLink RX0 30 "BridgeBells$Bridge" "cold" "[I", Cond.methodLink RX0 124 yJ9_floorMod_7cf53, Cond.static yJ9_floorMod_7cf53, Cond.initialized RJ9, Cond.code yJ9_floorMod_7cf53 cJ9_floorMod_7cf53 3 (some .int)]
def wsX0_goOneMinute : List Cond := .code yX0_goOneMinute cX0_goOneMinute 1 none :: ((wsX0_goOneMinute_r1 ++ (wsX0_goOneMinute_r2 ++ (wsX0_goOneMinute_r3 ++ wsX0_goOneMinute_r4))) ++ wsX00 ++ wsX10)
def wsX0_goOn_r1 : List Cond := [Cond.methodLink RX0 61 yX0_goOneMinute, Cond.instanceMethod yX0_goOneMinute, Cond.selects RX0 yX0_goOneMinute yX0_goOneMinute, Cond.initialized RX0, Cond.code yX0_goOneMinute cX0_goOneMinute 1 none, Cond.fieldLink RX0 27 "BridgeBells$Bridge" "waitedInAll" "I", Cond.fieldLink RX0 37 "BridgeBells$Bridge" "travellers" "LBridgeBells$Travellers;", Cond.fieldLink RX0 75 "BridgeBells$Travellers" "bargesWaiting" "I", Cond.fieldLink RX0 78 "BridgeBells$Travellers" "cartsWaiting" "I", Cond.fieldLink RX0 9 "BridgeBells$Bridge" "minute" "I", Cond.methodLink RX0 64 yX0_servedNext, Cond.instanceMethod yX0_servedNext, Cond.selects RX0 yX0_servedNext yX0_servedNext, Cond.code yX0_servedNext cX0_servedNext 1 (some .int), Cond.fieldLink RX0 41 "BridgeBells$Bridge" "passing" "I", Cond.fieldLink RX0 24 "BridgeBells$Bridge" "code" "I", Cond.fieldLink RX0 47 "BridgeBells$Bridge" "latestWasBarge" "Z", Cond.methodLink RX0 90 yX1_firstOfAll, Cond.instanceMethod yX1_firstOfAll, Cond.selects RX1 yX1_firstOfAll yX1_firstOfAll, Cond.initialized RX1, Cond.code yX1_firstOfAll cX1_firstOfAll 1 (some .int), Cond.fieldLink RX1 43 "BridgeBells$Travellers" "firstBarge" "I", Cond.fieldLink RX1 46 "BridgeBells$Travellers" "firstCart" "I"]
def wsX0_goOn_r2 : List Cond := [Cond.methodLink RX1 58 Lib.Math.min.name, Cond.static Lib.Math.min.name, Cond.initialized "java/lang/Math", Cond.code Lib.Math.min.name Lib.Math.min.code 2 (some .int), Cond.methodLink RX0 93 yX1_firstBargeElseCart, Cond.instanceMethod yX1_firstBargeElseCart, Cond.selects RX1 yX1_firstBargeElseCart yX1_firstBargeElseCart, Cond.code yX1_firstBargeElseCart cX1_firstBargeElseCart 1 (some .int), Cond.methodLink RX0 96 yX1_firstCartElseBarge, Cond.instanceMethod yX1_firstCartElseBarge, Cond.selects RX1 yX1_firstCartElseBarge yX1_firstCartElseBarge, Cond.code yX1_firstCartElseBarge cX1_firstCartElseBarge 1 (some .int), Cond.methodLink RX0 68 yX0_serve, Cond.instanceMethod yX0_serve, Cond.selects RX0 yX0_serve yX0_serve, Cond.code yX0_serve cX0_serve 3 none, Cond.fieldLink RX0 103 "BridgeBells$Travellers" "barge" "[I", Cond.fieldLink RX0 15 "BridgeBells$Bridge" "angle" "I", Cond.fieldLink RX0 106 "BridgeBells$Travellers" "needs" "[I", Cond.fieldLink RX0 44 "BridgeBells$Bridge" "toGo" "I", Cond.methodLink RX0 117 Lib.Math.min.name, Cond.methodLink RX0 84 Lib.Math.max.name, Cond.static Lib.Math.max.name, Cond.code Lib.Math.max.name Lib.Math.max.code 2 (some .int)]
def wsX0_goOn_r3 : List Cond := [Cond.methodLink RX0 99 yX1_has, Cond.instanceMethod yX1_has, Cond.selects RX1 yX1_has yX1_has, Cond.code yX1_has cX1_has 2 (some .boolean), Cond.fieldLink RX1 9 "BridgeBells$Travellers" "number" "I", Cond.methodLink RX0 109 yX1_endWait, Cond.instanceMethod yX1_endWait, Cond.selects RX1 yX1_endWait yX1_endWait, Cond.code yX1_endWait cX1_endWait 4 none, Cond.fieldLink RX1 31 "BridgeBells$Travellers" "state" "[I", Cond.fieldLink RX1 40 "BridgeBells$Travellers" "waitEnd" "[I", Cond.methodLink RX1 55 yX1_seeWhoWaits, Cond.instanceMethod yX1_seeWhoWaits, Cond.selects RX1 yX1_seeWhoWaits yX1_seeWhoWaits, Cond.code yX1_seeWhoWaits cX1_seeWhoWaits 2 none, Cond.fieldLink RX1 18 "BridgeBells$Travellers" "bargesWaiting" "I", Cond.fieldLink RX1 21 "BridgeBells$Travellers" "cartsWaiting" "I", Cond.fieldLink RX1 24 "BridgeBells$Travellers" "barge" "[I", Cond.methodLink RX0 113 yX0_speedTowards, Cond.instanceMethod yX0_speedTowards, Cond.selects RX0 yX0_speedTowards yX0_speedTowards, Cond.code yX0_speedTowards cX0_speedTowards 4 (some .int), Cond.fieldLink RX0 18 "BridgeBells$Bridge" "counterpoise" "I", Cond.fieldLink RX0 21 "BridgeBells$Bridge" "ice" "I"]
def wsX0_goOn_r4 : List Cond := [Cond.methodLink RX0 72 yX0_goOnPassing, Cond.instanceMethod yX0_goOnPassing, Cond.selects RX0 yX0_goOnPassing yX0_goOnPassing, Cond.code yX0_goOnPassing cX0_goOnPassing 1 none, Cond.methodLink RX0 120 yX1_endPassage, Cond.instanceMethod yX1_endPassage, Cond.selects RX1 yX1_endPassage yX1_endPassage, Cond.code yX1_endPassage cX1_endPassage 3 none, Cond.fieldLink RX1 37 "BridgeBells$Travellers" "passedIn" "[I", Cond.fieldLink RX1 15 "BridgeBells$Travellers" "passed" "I", Cond.methodLink RX0 81 yX0_freeze, Cond.instanceMethod yX0_freeze, Cond.selects RX0 yX0_freeze yX0_freeze, Cond.code yX0_freeze cX0_freeze 2 none, Cond.fieldLink RX0 30 "BridgeBells$Bridge" "cold" "[I", Cond.methodLink RX0 124 yJ9_floorMod_7cf53, Cond.static yJ9_floorMod_7cf53, Cond.initialized RJ9, Cond.code yJ9_floorMod_7cf53 cJ9_floorMod_7cf53 3 (some .int)]
def wsX0_goOn : List Cond := .code yX0_goOn cX0_goOn 3 none :: ((wsX0_goOn_r1 ++ (wsX0_goOn_r2 ++ (wsX0_goOn_r3 ++ wsX0_goOn_r4))) ++ wsX00 ++ wsX10)
def wsX0_total_r1 : List Cond := [Cond.fieldLink RX0 9 "BridgeBells$Bridge" "minute" "I", Cond.fieldLink RX0 15 "BridgeBells$Bridge" "angle" "I", Cond.fieldLink RX0 18 "BridgeBells$Bridge" "counterpoise" "I", Cond.fieldLink RX0 21 "BridgeBells$Bridge" "ice" "I", Cond.fieldLink RX0 24 "BridgeBells$Bridge" "code" "I", Cond.fieldLink RX0 37 "BridgeBells$Bridge" "travellers" "LBridgeBells$Travellers;", Cond.fieldLink RX0 127 "BridgeBells$Travellers" "number" "I", Cond.fieldLink RX0 75 "BridgeBells$Travellers" "bargesWaiting" "I", Cond.fieldLink RX0 78 "BridgeBells$Travellers" "cartsWaiting" "I", Cond.fieldLink RX0 130 "BridgeBells$Travellers" "passed" "I", Cond.fieldLink RX0 27 "BridgeBells$Bridge" "waitedInAll" "I", Cond.fieldLink RX0 41 "BridgeBells$Bridge" "passing" "I", Cond.methodLink RX0 64 yX0_servedNext, Cond.instanceMethod yX0_servedNext, Cond.selects RX0 yX0_servedNext yX0_servedNext, Cond.initialized RX0, Cond.code yX0_servedNext cX0_servedNext 1 (some .int), Cond.fieldLink RX0 47 "BridgeBells$Bridge" "latestWasBarge" "Z", Cond.methodLink RX0 90 yX1_firstOfAll, Cond.instanceMethod yX1_firstOfAll, Cond.selects RX1 yX1_firstOfAll yX1_firstOfAll, Cond.initialized RX1, Cond.code yX1_firstOfAll cX1_firstOfAll 1 (some .int), Cond.fieldLink RX1 43 "BridgeBells$Travellers" "firstBarge" "I"]
def wsX0_total_r2 : List Cond := [Cond.fieldLink RX1 46 "BridgeBells$Travellers" "firstCart" "I", Cond.methodLink RX1 58 Lib.Math.min.name, Cond.static Lib.Math.min.name, Cond.initialized "java/lang/Math", Cond.code Lib.Math.min.name Lib.Math.min.code 2 (some .int), Cond.methodLink RX0 93 yX1_firstBargeElseCart, Cond.instanceMethod yX1_firstBargeElseCart, Cond.selects RX1 yX1_firstBargeElseCart yX1_firstBargeElseCart, Cond.code yX1_firstBargeElseCart cX1_firstBargeElseCart 1 (some .int), Cond.methodLink RX0 96 yX1_firstCartElseBarge, Cond.instanceMethod yX1_firstCartElseBarge, Cond.selects RX1 yX1_firstCartElseBarge yX1_firstCartElseBarge, Cond.code yX1_firstCartElseBarge cX1_firstCartElseBarge 1 (some .int)]
def wsX0_total : List Cond := .code yX0_total cX0_total 2 (some .int) :: ((wsX0_total_r1 ++ wsX0_total_r2) ++ wsX00 ++ wsX10)
def wsX1_waited : List Cond := .code yX1_waited cX1_waited 4 (some .int) :: ([.fieldLink RX1 31 "BridgeBells$Travellers" "state" "[I", .fieldLink RX1 40 "BridgeBells$Travellers" "waitEnd" "[I", .fieldLink RX1 34 "BridgeBells$Travellers" "came" "[I"] ++ wsX10)
def wsX0_factOf : List Cond := .code yX0_factOf cX0_factOf 3 (some .int) :: ([.fieldLink RX0 37 "BridgeBells$Bridge" "travellers" "LBridgeBells$Travellers;", .fieldLink RX0 103 "BridgeBells$Travellers" "barge" "[I", .fieldLink RX0 106 "BridgeBells$Travellers" "needs" "[I", .fieldLink RX0 133 "BridgeBells$Travellers" "state" "[I", .fieldLink RX0 136 "BridgeBells$Travellers" "came" "[I", .fieldLink RX0 9 "BridgeBells$Bridge" "minute" "I", .fieldLink RX0 41 "BridgeBells$Bridge" "passing" "I", .fieldLink RX0 44 "BridgeBells$Bridge" "toGo" "I", .fieldLink RX0 142 "BridgeBells$Travellers" "passedIn" "[I", .methodLink RX0 139 yX1_waited, .instanceMethod yX1_waited, .selects RX1 yX1_waited yX1_waited, .initialized RX1, .code yX1_waited cX1_waited 4 (some .int), .fieldLink RX1 31 "BridgeBells$Travellers" "state" "[I", .fieldLink RX1 40 "BridgeBells$Travellers" "waitEnd" "[I", .fieldLink RX1 34 "BridgeBells$Travellers" "came" "[I"] ++ wsX00 ++ wsX10)
def wsX1_add : List Cond := .code yX1_add cX1_add 5 (some .int) :: ([.fieldLink RX1 9 "BridgeBells$Travellers" "number" "I", .fieldLink RX1 24 "BridgeBells$Travellers" "barge" "[I", .fieldLink RX1 28 "BridgeBells$Travellers" "needs" "[I", .fieldLink RX1 31 "BridgeBells$Travellers" "state" "[I", .fieldLink RX1 34 "BridgeBells$Travellers" "came" "[I", .fieldLink RX1 37 "BridgeBells$Travellers" "passedIn" "[I", .methodLink RX1 55 yX1_seeWhoWaits, .instanceMethod yX1_seeWhoWaits, .selects RX1 yX1_seeWhoWaits yX1_seeWhoWaits, .initialized RX1, .code yX1_seeWhoWaits cX1_seeWhoWaits 2 none, .fieldLink RX1 18 "BridgeBells$Travellers" "bargesWaiting" "I", .fieldLink RX1 21 "BridgeBells$Travellers" "cartsWaiting" "I", .fieldLink RX1 43 "BridgeBells$Travellers" "firstBarge" "I", .fieldLink RX1 46 "BridgeBells$Travellers" "firstCart" "I"] ++ wsX10)
def wsX2_init_r1 : List Cond := [Cond.methodLink RX2 1 objectInit, Cond.instanceMethod objectInit, Cond.code objectInit ⟨#[0xb1]⟩ 1 none, Cond.classLink RX2 7 RX0, Cond.instantiable RX0 11, Cond.initialized RX0, Cond.fieldLink RX2 10 "BridgeBells" "bridge" "LBridgeBells$Bridge;", Cond.fieldLink RX2 16 "BridgeBells" "trial" "LBridgeBells$Bridge;", Cond.instanceMethod yX0_init, Cond.code yX0_init cX0_init 1 none, Cond.methodLink RX0 3 objectInit, Cond.fieldLink RX0 9 "BridgeBells$Bridge" "minute" "I", Cond.fieldLink RX0 15 "BridgeBells$Bridge" "angle" "I", Cond.fieldLink RX0 18 "BridgeBells$Bridge" "counterpoise" "I", Cond.fieldLink RX0 21 "BridgeBells$Bridge" "ice" "I", Cond.fieldLink RX0 24 "BridgeBells$Bridge" "code" "I", Cond.fieldLink RX0 27 "BridgeBells$Bridge" "waitedInAll" "I", Cond.arrayClass .int, Cond.fieldLink RX0 30 "BridgeBells$Bridge" "cold" "[I", Cond.classLink RX0 34 RX1, Cond.instantiable RX1 12, Cond.initialized RX1, Cond.fieldLink RX0 37 "BridgeBells$Bridge" "travellers" "LBridgeBells$Travellers;", Cond.fieldLink RX0 41 "BridgeBells$Bridge" "passing" "I"]
def wsX2_init_r2 : List Cond := [Cond.fieldLink RX0 44 "BridgeBells$Bridge" "toGo" "I", Cond.fieldLink RX0 47 "BridgeBells$Bridge" "latestWasBarge" "Z", Cond.instanceMethod yX1_init, Cond.code yX1_init cX1_init 1 none, Cond.methodLink RX1 3 objectInit, Cond.fieldLink RX1 9 "BridgeBells$Travellers" "number" "I", Cond.fieldLink RX1 15 "BridgeBells$Travellers" "passed" "I", Cond.fieldLink RX1 18 "BridgeBells$Travellers" "bargesWaiting" "I", Cond.fieldLink RX1 21 "BridgeBells$Travellers" "cartsWaiting" "I", Cond.fieldLink RX1 24 "BridgeBells$Travellers" "barge" "[I", Cond.fieldLink RX1 28 "BridgeBells$Travellers" "needs" "[I", Cond.fieldLink RX1 31 "BridgeBells$Travellers" "state" "[I", Cond.fieldLink RX1 34 "BridgeBells$Travellers" "came" "[I", Cond.fieldLink RX1 37 "BridgeBells$Travellers" "passedIn" "[I", Cond.fieldLink RX1 40 "BridgeBells$Travellers" "waitEnd" "[I", Cond.fieldLink RX1 43 "BridgeBells$Travellers" "firstBarge" "I", Cond.fieldLink RX1 46 "BridgeBells$Travellers" "firstCart" "I"]
def wsX2_init : List Cond := .code yX2_init cX2_init 1 none :: ((wsX2_init_r1 ++ wsX2_init_r2) ++ wsX00 ++ wsX20 ++ wsX10)
def wsX2_come_r1 : List Cond := [Cond.classLink RX2 19 "java/lang/IllegalArgumentException", Cond.initialized "java/lang/IllegalArgumentException", Cond.classLink RX2 36 "java/lang/IllegalStateException", Cond.initialized "java/lang/IllegalStateException", Cond.fieldLink RX2 10 "BridgeBells" "bridge" "LBridgeBells$Bridge;", Cond.fieldLink RX2 26 "BridgeBells$Bridge" "travellers" "LBridgeBells$Travellers;", Cond.fieldLink RX2 30 "BridgeBells$Travellers" "number" "I", Cond.fieldLink RX2 41 "BridgeBells$Bridge" "minute" "I", Cond.methodLink RX2 44 yX1_add, Cond.instanceMethod yX1_add, Cond.selects RX1 yX1_add yX1_add, Cond.initialized RX1, Cond.code yX1_add cX1_add 5 (some .int), Cond.fieldLink RX1 9 "BridgeBells$Travellers" "number" "I", Cond.fieldLink RX1 24 "BridgeBells$Travellers" "barge" "[I", Cond.fieldLink RX1 28 "BridgeBells$Travellers" "needs" "[I", Cond.fieldLink RX1 31 "BridgeBells$Travellers" "state" "[I", Cond.fieldLink RX1 34 "BridgeBells$Travellers" "came" "[I", Cond.fieldLink RX1 37 "BridgeBells$Travellers" "passedIn" "[I", Cond.methodLink RX1 55 yX1_seeWhoWaits, Cond.instanceMethod yX1_seeWhoWaits, Cond.selects RX1 yX1_seeWhoWaits yX1_seeWhoWaits, Cond.code yX1_seeWhoWaits cX1_seeWhoWaits 2 none, Cond.fieldLink RX1 18 "BridgeBells$Travellers" "bargesWaiting" "I"]
def wsX2_come_r2 : List Cond := [Cond.fieldLink RX1 21 "BridgeBells$Travellers" "cartsWaiting" "I", Cond.fieldLink RX1 43 "BridgeBells$Travellers" "firstBarge" "I", Cond.fieldLink RX1 46 "BridgeBells$Travellers" "firstCart" "I"]
def wsX2_come : List Cond := .code yX2_come cX2_come 3 (some .int) :: ((wsX2_come_r1 ++ wsX2_come_r2) ++ wsX20 ++ wsX00 ++ wsX10 ++ (vx_atS RX2 23 "java/lang/IllegalArgumentException" ["java/lang/RuntimeException", "java/lang/Exception"]).filter goodWord ++ (vx_atS RX2 40 "java/lang/IllegalStateException" ["java/lang/RuntimeException", "java/lang/Exception"]).filter goodWord)
def wsX2_leave_r1 : List Cond := [Cond.classLink RX2 52 "java/lang/IndexOutOfBoundsException", Cond.initialized "java/lang/IndexOutOfBoundsException", Cond.classLink RX2 36 "java/lang/IllegalStateException", Cond.initialized "java/lang/IllegalStateException", Cond.fieldLink RX2 10 "BridgeBells" "bridge" "LBridgeBells$Bridge;", Cond.fieldLink RX2 26 "BridgeBells$Bridge" "travellers" "LBridgeBells$Travellers;", Cond.fieldLink RX2 57 "BridgeBells$Travellers" "state" "[I", Cond.fieldLink RX2 41 "BridgeBells$Bridge" "minute" "I", Cond.methodLink RX2 48 yX1_has, Cond.instanceMethod yX1_has, Cond.selects RX1 yX1_has yX1_has, Cond.initialized RX1, Cond.code yX1_has cX1_has 2 (some .boolean), Cond.fieldLink RX1 9 "BridgeBells$Travellers" "number" "I", Cond.methodLink RX2 63 yX1_endWait, Cond.instanceMethod yX1_endWait, Cond.selects RX1 yX1_endWait yX1_endWait, Cond.code yX1_endWait cX1_endWait 4 none, Cond.fieldLink RX1 31 "BridgeBells$Travellers" "state" "[I", Cond.fieldLink RX1 40 "BridgeBells$Travellers" "waitEnd" "[I", Cond.methodLink RX1 55 yX1_seeWhoWaits, Cond.instanceMethod yX1_seeWhoWaits, Cond.selects RX1 yX1_seeWhoWaits yX1_seeWhoWaits, Cond.code yX1_seeWhoWaits cX1_seeWhoWaits 2 none]
def wsX2_leave_r2 : List Cond := [Cond.fieldLink RX1 18 "BridgeBells$Travellers" "bargesWaiting" "I", Cond.fieldLink RX1 21 "BridgeBells$Travellers" "cartsWaiting" "I", Cond.fieldLink RX1 43 "BridgeBells$Travellers" "firstBarge" "I", Cond.fieldLink RX1 46 "BridgeBells$Travellers" "firstCart" "I", Cond.fieldLink RX1 24 "BridgeBells$Travellers" "barge" "[I", Cond.methodLink RX2 67 yX1_waited, Cond.instanceMethod yX1_waited, Cond.selects RX1 yX1_waited yX1_waited, Cond.code yX1_waited cX1_waited 4 (some .int), Cond.fieldLink RX1 34 "BridgeBells$Travellers" "came" "[I"]
def wsX2_leave : List Cond := .code yX2_leave cX2_leave 2 (some .int) :: ((wsX2_leave_r1 ++ wsX2_leave_r2) ++ wsX20 ++ wsX00 ++ wsX10 ++ (vx_atS RX2 56 "java/lang/IndexOutOfBoundsException" ["java/lang/RuntimeException", "java/lang/Exception"]).filter goodWord ++ (vx_atS RX2 40 "java/lang/IllegalStateException" ["java/lang/RuntimeException", "java/lang/Exception"]).filter goodWord)
def wsX2_ring : List Cond := .code yX2_ring cX2_ring 3 (some .int) :: ([.classLink RX2 19 "java/lang/IllegalArgumentException", .initialized "java/lang/IllegalArgumentException", .fieldLink RX2 10 "BridgeBells" "bridge" "LBridgeBells$Bridge;", .fieldLink RX2 73 "BridgeBells$Bridge" "code" "I"] ++ wsX20 ++ wsX00 ++ (vx_atS RX2 23 "java/lang/IllegalArgumentException" ["java/lang/RuntimeException", "java/lang/Exception"]).filter goodWord)
def wsX2_poise : List Cond := .code yX2_poise cX2_poise 3 (some .int) :: ([.classLink RX2 19 "java/lang/IllegalArgumentException", .initialized "java/lang/IllegalArgumentException", .classLink RX2 36 "java/lang/IllegalStateException", .initialized "java/lang/IllegalStateException", .fieldLink RX2 10 "BridgeBells" "bridge" "LBridgeBells$Bridge;", .fieldLink RX2 78 "BridgeBells$Bridge" "angle" "I", .fieldLink RX2 83 "BridgeBells$Bridge" "counterpoise" "I"] ++ wsX20 ++ wsX00 ++ (vx_atS RX2 23 "java/lang/IllegalArgumentException" ["java/lang/RuntimeException", "java/lang/Exception"]).filter goodWord ++ (vx_atS RX2 40 "java/lang/IllegalStateException" ["java/lang/RuntimeException", "java/lang/Exception"]).filter goodWord)
def wsX2_setCold : List Cond := .code yX2_setCold cX2_setCold 4 (some .int) :: ([.classLink RX2 52 "java/lang/IndexOutOfBoundsException", .initialized "java/lang/IndexOutOfBoundsException", .classLink RX2 19 "java/lang/IllegalArgumentException", .initialized "java/lang/IllegalArgumentException", .fieldLink RX2 10 "BridgeBells" "bridge" "LBridgeBells$Bridge;", .fieldLink RX2 90 "BridgeBells$Bridge" "cold" "[I"] ++ wsX20 ++ wsX00 ++ (vx_atS RX2 56 "java/lang/IndexOutOfBoundsException" ["java/lang/RuntimeException", "java/lang/Exception"]).filter goodWord ++ (vx_atS RX2 23 "java/lang/IllegalArgumentException" ["java/lang/RuntimeException", "java/lang/Exception"]).filter goodWord)
def wsX2_crack : List Cond := .code yX2_crack cX2_crack 1 (some .int) :: ([.fieldLink RX2 10 "BridgeBells" "bridge" "LBridgeBells$Bridge;", .fieldLink RX2 93 "BridgeBells$Bridge" "ice" "I", .methodLink RX2 96 Lib.Math.max.name, .static Lib.Math.max.name, .initialized "java/lang/Math", .code Lib.Math.max.name Lib.Math.max.code 2 (some .int)] ++ wsX20 ++ wsX00)
def wsX2_traveller_r1 : List Cond := [Cond.classLink RX2 52 "java/lang/IndexOutOfBoundsException", Cond.initialized "java/lang/IndexOutOfBoundsException", Cond.fieldLink RX2 10 "BridgeBells" "bridge" "LBridgeBells$Bridge;", Cond.fieldLink RX2 26 "BridgeBells$Bridge" "travellers" "LBridgeBells$Travellers;", Cond.methodLink RX2 48 yX1_has, Cond.instanceMethod yX1_has, Cond.selects RX1 yX1_has yX1_has, Cond.initialized RX1, Cond.code yX1_has cX1_has 2 (some .boolean), Cond.fieldLink RX1 9 "BridgeBells$Travellers" "number" "I", Cond.methodLink RX2 103 yX0_factOf, Cond.instanceMethod yX0_factOf, Cond.selects RX0 yX0_factOf yX0_factOf, Cond.initialized RX0, Cond.code yX0_factOf cX0_factOf 3 (some .int), Cond.fieldLink RX0 37 "BridgeBells$Bridge" "travellers" "LBridgeBells$Travellers;", Cond.fieldLink RX0 103 "BridgeBells$Travellers" "barge" "[I", Cond.fieldLink RX0 106 "BridgeBells$Travellers" "needs" "[I", Cond.fieldLink RX0 133 "BridgeBells$Travellers" "state" "[I", Cond.fieldLink RX0 136 "BridgeBells$Travellers" "came" "[I", Cond.fieldLink RX0 9 "BridgeBells$Bridge" "minute" "I", Cond.fieldLink RX0 41 "BridgeBells$Bridge" "passing" "I", Cond.fieldLink RX0 44 "BridgeBells$Bridge" "toGo" "I", Cond.fieldLink RX0 142 "BridgeBells$Travellers" "passedIn" "[I"]
def wsX2_traveller_r2 : List Cond := [Cond.methodLink RX0 139 yX1_waited, Cond.instanceMethod yX1_waited, Cond.selects RX1 yX1_waited yX1_waited, Cond.code yX1_waited cX1_waited 4 (some .int), Cond.fieldLink RX1 31 "BridgeBells$Travellers" "state" "[I", Cond.fieldLink RX1 40 "BridgeBells$Travellers" "waitEnd" "[I", Cond.fieldLink RX1 34 "BridgeBells$Travellers" "came" "[I"]
def wsX2_traveller : List Cond := .code yX2_traveller cX2_traveller 3 (some .int) :: ((wsX2_traveller_r1 ++ wsX2_traveller_r2) ++ wsX20 ++ wsX00 ++ wsX10 ++ (vx_atS RX2 56 "java/lang/IndexOutOfBoundsException" ["java/lang/RuntimeException", "java/lang/Exception"]).filter goodWord)
def wsX2_count_r1 : List Cond := [Cond.classLink RX2 52 "java/lang/IndexOutOfBoundsException", Cond.initialized "java/lang/IndexOutOfBoundsException", Cond.fieldLink RX2 10 "BridgeBells" "bridge" "LBridgeBells$Bridge;", Cond.methodLink RX2 108 yX0_total, Cond.instanceMethod yX0_total, Cond.selects RX0 yX0_total yX0_total, Cond.initialized RX0, Cond.code yX0_total cX0_total 2 (some .int), Cond.fieldLink RX0 9 "BridgeBells$Bridge" "minute" "I", Cond.fieldLink RX0 15 "BridgeBells$Bridge" "angle" "I", Cond.fieldLink RX0 18 "BridgeBells$Bridge" "counterpoise" "I", Cond.fieldLink RX0 21 "BridgeBells$Bridge" "ice" "I", Cond.fieldLink RX0 24 "BridgeBells$Bridge" "code" "I", Cond.fieldLink RX0 37 "BridgeBells$Bridge" "travellers" "LBridgeBells$Travellers;", Cond.fieldLink RX0 127 "BridgeBells$Travellers" "number" "I", Cond.fieldLink RX0 75 "BridgeBells$Travellers" "bargesWaiting" "I", Cond.fieldLink RX0 78 "BridgeBells$Travellers" "cartsWaiting" "I", Cond.fieldLink RX0 130 "BridgeBells$Travellers" "passed" "I", Cond.fieldLink RX0 27 "BridgeBells$Bridge" "waitedInAll" "I", Cond.fieldLink RX0 41 "BridgeBells$Bridge" "passing" "I", Cond.methodLink RX0 64 yX0_servedNext, Cond.instanceMethod yX0_servedNext, Cond.selects RX0 yX0_servedNext yX0_servedNext, Cond.code yX0_servedNext cX0_servedNext 1 (some .int)]
def wsX2_count_r2 : List Cond := [Cond.fieldLink RX0 47 "BridgeBells$Bridge" "latestWasBarge" "Z", Cond.methodLink RX0 90 yX1_firstOfAll, Cond.instanceMethod yX1_firstOfAll, Cond.selects RX1 yX1_firstOfAll yX1_firstOfAll, Cond.initialized RX1, Cond.code yX1_firstOfAll cX1_firstOfAll 1 (some .int), Cond.fieldLink RX1 43 "BridgeBells$Travellers" "firstBarge" "I", Cond.fieldLink RX1 46 "BridgeBells$Travellers" "firstCart" "I", Cond.methodLink RX1 58 Lib.Math.min.name, Cond.static Lib.Math.min.name, Cond.initialized "java/lang/Math", Cond.code Lib.Math.min.name Lib.Math.min.code 2 (some .int), Cond.methodLink RX0 93 yX1_firstBargeElseCart, Cond.instanceMethod yX1_firstBargeElseCart, Cond.selects RX1 yX1_firstBargeElseCart yX1_firstBargeElseCart, Cond.code yX1_firstBargeElseCart cX1_firstBargeElseCart 1 (some .int), Cond.methodLink RX0 96 yX1_firstCartElseBarge, Cond.instanceMethod yX1_firstCartElseBarge, Cond.selects RX1 yX1_firstCartElseBarge yX1_firstCartElseBarge, Cond.code yX1_firstCartElseBarge cX1_firstCartElseBarge 1 (some .int)]
def wsX2_count : List Cond := .code yX2_count cX2_count 2 (some .int) :: ((wsX2_count_r1 ++ wsX2_count_r2) ++ wsX20 ++ wsX00 ++ wsX10 ++ (vx_atS RX2 56 "java/lang/IndexOutOfBoundsException" ["java/lang/RuntimeException", "java/lang/Exception"]).filter goodWord)
def wsX2_speed : List Cond := .code yX2_speed cX2_speed 2 (some .int) :: ([.fieldLink RX2 10 "BridgeBells" "bridge" "LBridgeBells$Bridge;", .methodLink RX2 112 yX0_speedTowards, .instanceMethod yX0_speedTowards, .selects RX0 yX0_speedTowards yX0_speedTowards, .initialized RX0, .code yX0_speedTowards cX0_speedTowards 4 (some .int), .fieldLink RX0 18 "BridgeBells$Bridge" "counterpoise" "I", .fieldLink RX0 21 "BridgeBells$Bridge" "ice" "I", .methodLink RX0 84 Lib.Math.max.name, .static Lib.Math.max.name, .initialized "java/lang/Math", .code Lib.Math.max.name Lib.Math.max.code 2 (some .int)] ++ wsX20 ++ wsX00)
def wsX2_isSpan : List Cond := .code yX2_isSpan cX2_isSpan 1 (some .boolean) :: ([])
def wsX2_pass_r1 : List Cond := [Cond.classLink RX2 19 "java/lang/IllegalArgumentException", Cond.initialized "java/lang/IllegalArgumentException", Cond.fieldLink RX2 10 "BridgeBells" "bridge" "LBridgeBells$Bridge;", Cond.fieldLink RX2 26 "BridgeBells$Bridge" "travellers" "LBridgeBells$Travellers;", Cond.fieldLink RX2 121 "BridgeBells$Travellers" "passed" "I", Cond.methodLink RX2 116 yX2_isSpan, Cond.static yX2_isSpan, Cond.initialized RX2, Cond.code yX2_isSpan cX2_isSpan 1 (some .boolean), Cond.methodLink RX2 124 yX0_goOn, Cond.instanceMethod yX0_goOn, Cond.selects RX0 yX0_goOn yX0_goOn, Cond.initialized RX0, Cond.code yX0_goOn cX0_goOn 3 none, Cond.methodLink RX0 61 yX0_goOneMinute, Cond.instanceMethod yX0_goOneMinute, Cond.selects RX0 yX0_goOneMinute yX0_goOneMinute, Cond.code yX0_goOneMinute cX0_goOneMinute 1 none, Cond.fieldLink RX0 27 "BridgeBells$Bridge" "waitedInAll" "I", Cond.fieldLink RX0 37 "BridgeBells$Bridge" "travellers" "LBridgeBells$Travellers;", Cond.fieldLink RX0 75 "BridgeBells$Travellers" "bargesWaiting" "I", Cond.fieldLink RX0 78 "BridgeBells$Travellers" "cartsWaiting" "I", Cond.fieldLink RX0 9 "BridgeBells$Bridge" "minute" "I", Cond.methodLink RX0 64 yX0_servedNext]
def wsX2_pass_r2 : List Cond := [Cond.instanceMethod yX0_servedNext, Cond.selects RX0 yX0_servedNext yX0_servedNext, Cond.code yX0_servedNext cX0_servedNext 1 (some .int), Cond.fieldLink RX0 41 "BridgeBells$Bridge" "passing" "I", Cond.fieldLink RX0 24 "BridgeBells$Bridge" "code" "I", Cond.fieldLink RX0 47 "BridgeBells$Bridge" "latestWasBarge" "Z", Cond.methodLink RX0 90 yX1_firstOfAll, Cond.instanceMethod yX1_firstOfAll, Cond.selects RX1 yX1_firstOfAll yX1_firstOfAll, Cond.initialized RX1, Cond.code yX1_firstOfAll cX1_firstOfAll 1 (some .int), Cond.fieldLink RX1 43 "BridgeBells$Travellers" "firstBarge" "I", Cond.fieldLink RX1 46 "BridgeBells$Travellers" "firstCart" "I", Cond.methodLink RX1 58 Lib.Math.min.name, Cond.static Lib.Math.min.name, Cond.initialized "java/lang/Math", Cond.code Lib.Math.min.name Lib.Math.min.code 2 (some .int), Cond.methodLink RX0 93 yX1_firstBargeElseCart, Cond.instanceMethod yX1_firstBargeElseCart, Cond.selects RX1 yX1_firstBargeElseCart yX1_firstBargeElseCart, Cond.code yX1_firstBargeElseCart cX1_firstBargeElseCart 1 (some .int), Cond.methodLink RX0 96 yX1_firstCartElseBarge, Cond.instanceMethod yX1_firstCartElseBarge, Cond.selects RX1 yX1_firstCartElseBarge yX1_firstCartElseBarge]
def wsX2_pass_r3 : List Cond := [Cond.code yX1_firstCartElseBarge cX1_firstCartElseBarge 1 (some .int), Cond.methodLink RX0 68 yX0_serve, Cond.instanceMethod yX0_serve, Cond.selects RX0 yX0_serve yX0_serve, Cond.code yX0_serve cX0_serve 3 none, Cond.fieldLink RX0 103 "BridgeBells$Travellers" "barge" "[I", Cond.fieldLink RX0 15 "BridgeBells$Bridge" "angle" "I", Cond.fieldLink RX0 106 "BridgeBells$Travellers" "needs" "[I", Cond.fieldLink RX0 44 "BridgeBells$Bridge" "toGo" "I", Cond.methodLink RX0 117 Lib.Math.min.name, Cond.methodLink RX0 84 Lib.Math.max.name, Cond.static Lib.Math.max.name, Cond.code Lib.Math.max.name Lib.Math.max.code 2 (some .int), Cond.methodLink RX0 99 yX1_has, Cond.instanceMethod yX1_has, Cond.selects RX1 yX1_has yX1_has, Cond.code yX1_has cX1_has 2 (some .boolean), Cond.fieldLink RX1 9 "BridgeBells$Travellers" "number" "I", Cond.methodLink RX0 109 yX1_endWait, Cond.instanceMethod yX1_endWait, Cond.selects RX1 yX1_endWait yX1_endWait, Cond.code yX1_endWait cX1_endWait 4 none, Cond.fieldLink RX1 31 "BridgeBells$Travellers" "state" "[I", Cond.fieldLink RX1 40 "BridgeBells$Travellers" "waitEnd" "[I"]
def wsX2_pass_r4 : List Cond := [Cond.methodLink RX1 55 yX1_seeWhoWaits, Cond.instanceMethod yX1_seeWhoWaits, Cond.selects RX1 yX1_seeWhoWaits yX1_seeWhoWaits, Cond.code yX1_seeWhoWaits cX1_seeWhoWaits 2 none, Cond.fieldLink RX1 18 "BridgeBells$Travellers" "bargesWaiting" "I", Cond.fieldLink RX1 21 "BridgeBells$Travellers" "cartsWaiting" "I", Cond.fieldLink RX1 24 "BridgeBells$Travellers" "barge" "[I", Cond.methodLink RX0 113 yX0_speedTowards, Cond.instanceMethod yX0_speedTowards, Cond.selects RX0 yX0_speedTowards yX0_speedTowards, Cond.code yX0_speedTowards cX0_speedTowards 4 (some .int), Cond.fieldLink RX0 18 "BridgeBells$Bridge" "counterpoise" "I", Cond.fieldLink RX0 21 "BridgeBells$Bridge" "ice" "I", Cond.methodLink RX0 72 yX0_goOnPassing, Cond.instanceMethod yX0_goOnPassing, Cond.selects RX0 yX0_goOnPassing yX0_goOnPassing, Cond.code yX0_goOnPassing cX0_goOnPassing 1 none, Cond.methodLink RX0 120 yX1_endPassage, Cond.instanceMethod yX1_endPassage, Cond.selects RX1 yX1_endPassage yX1_endPassage, Cond.code yX1_endPassage cX1_endPassage 3 none, Cond.fieldLink RX1 37 "BridgeBells$Travellers" "passedIn" "[I", Cond.fieldLink RX1 15 "BridgeBells$Travellers" "passed" "I", Cond.methodLink RX0 81 yX0_freeze]
def wsX2_pass_r5 : List Cond := [Cond.instanceMethod yX0_freeze, Cond.selects RX0 yX0_freeze yX0_freeze, Cond.code yX0_freeze cX0_freeze 2 none, Cond.fieldLink RX0 30 "BridgeBells$Bridge" "cold" "[I", Cond.methodLink RX0 124 yJ9_floorMod_7cf53, Cond.static yJ9_floorMod_7cf53, Cond.initialized RJ9, Cond.code yJ9_floorMod_7cf53 cJ9_floorMod_7cf53 3 (some .int)]
def wsX2_pass : List Cond := .code yX2_pass cX2_pass 3 (some .int) :: ((wsX2_pass_r1 ++ (wsX2_pass_r2 ++ (wsX2_pass_r3 ++ (wsX2_pass_r4 ++ wsX2_pass_r5)))) ++ wsX20 ++ wsX00 ++ wsX10 ++ (vx_atS RX2 23 "java/lang/IllegalArgumentException" ["java/lang/RuntimeException", "java/lang/Exception"]).filter goodWord)
def wsX2_when_r1 : List Cond := [Cond.classLink RX2 52 "java/lang/IndexOutOfBoundsException", Cond.initialized "java/lang/IndexOutOfBoundsException", Cond.fieldLink RX2 10 "BridgeBells" "bridge" "LBridgeBells$Bridge;", Cond.fieldLink RX2 26 "BridgeBells$Bridge" "travellers" "LBridgeBells$Travellers;", Cond.fieldLink RX2 16 "BridgeBells" "trial" "LBridgeBells$Bridge;", Cond.fieldLink RX2 57 "BridgeBells$Travellers" "state" "[I", Cond.methodLink RX2 48 yX1_has, Cond.instanceMethod yX1_has, Cond.selects RX1 yX1_has yX1_has, Cond.initialized RX1, Cond.code yX1_has cX1_has 2 (some .boolean), Cond.fieldLink RX1 9 "BridgeBells$Travellers" "number" "I", Cond.methodLink RX2 128 yX0_copyFrom, Cond.instanceMethod yX0_copyFrom, Cond.selects RX0 yX0_copyFrom yX0_copyFrom, Cond.initialized RX0, Cond.code yX0_copyFrom cX0_copyFrom 2 none, Cond.fieldLink RX0 9 "BridgeBells$Bridge" "minute" "I", Cond.fieldLink RX0 15 "BridgeBells$Bridge" "angle" "I", Cond.fieldLink RX0 18 "BridgeBells$Bridge" "counterpoise" "I", Cond.fieldLink RX0 21 "BridgeBells$Bridge" "ice" "I", Cond.fieldLink RX0 24 "BridgeBells$Bridge" "code" "I", Cond.fieldLink RX0 27 "BridgeBells$Bridge" "waitedInAll" "I", Cond.fieldLink RX0 30 "BridgeBells$Bridge" "cold" "[I"]
def wsX2_when_r2 : List Cond := [Cond.methodLink RX0 51 arraycopyName, Cond.native arraycopyName, Cond.static arraycopyName, Cond.initialized "java/lang/System", Cond.fieldLink RX0 37 "BridgeBells$Bridge" "travellers" "LBridgeBells$Travellers;", Cond.fieldLink RX0 41 "BridgeBells$Bridge" "passing" "I", Cond.fieldLink RX0 44 "BridgeBells$Bridge" "toGo" "I", Cond.fieldLink RX0 47 "BridgeBells$Bridge" "latestWasBarge" "Z", Cond.methodLink RX0 57 yX1_copyFrom, Cond.instanceMethod yX1_copyFrom, Cond.selects RX1 yX1_copyFrom yX1_copyFrom, Cond.code yX1_copyFrom cX1_copyFrom 2 none, Cond.fieldLink RX1 15 "BridgeBells$Travellers" "passed" "I", Cond.fieldLink RX1 18 "BridgeBells$Travellers" "bargesWaiting" "I", Cond.fieldLink RX1 21 "BridgeBells$Travellers" "cartsWaiting" "I", Cond.fieldLink RX1 24 "BridgeBells$Travellers" "barge" "[I", Cond.methodLink RX1 49 arraycopyName, Cond.fieldLink RX1 28 "BridgeBells$Travellers" "needs" "[I", Cond.fieldLink RX1 31 "BridgeBells$Travellers" "state" "[I", Cond.fieldLink RX1 34 "BridgeBells$Travellers" "came" "[I", Cond.fieldLink RX1 37 "BridgeBells$Travellers" "passedIn" "[I", Cond.fieldLink RX1 40 "BridgeBells$Travellers" "waitEnd" "[I", Cond.fieldLink RX1 43 "BridgeBells$Travellers" "firstBarge" "I", Cond.fieldLink RX1 46 "BridgeBells$Travellers" "firstCart" "I"]
def wsX2_when_r3 : List Cond := [Cond.methodLink RX2 132 yX0_goOneMinute, Cond.instanceMethod yX0_goOneMinute, Cond.selects RX0 yX0_goOneMinute yX0_goOneMinute, Cond.code yX0_goOneMinute cX0_goOneMinute 1 none, Cond.fieldLink RX0 75 "BridgeBells$Travellers" "bargesWaiting" "I", Cond.fieldLink RX0 78 "BridgeBells$Travellers" "cartsWaiting" "I", Cond.methodLink RX0 64 yX0_servedNext, Cond.instanceMethod yX0_servedNext, Cond.selects RX0 yX0_servedNext yX0_servedNext, Cond.code yX0_servedNext cX0_servedNext 1 (some .int), Cond.methodLink RX0 90 yX1_firstOfAll, Cond.instanceMethod yX1_firstOfAll, Cond.selects RX1 yX1_firstOfAll yX1_firstOfAll, Cond.code yX1_firstOfAll cX1_firstOfAll 1 (some .int), Cond.methodLink RX1 58 Lib.Math.min.name, Cond.static Lib.Math.min.name, Cond.initialized "java/lang/Math", Cond.code Lib.Math.min.name Lib.Math.min.code 2 (some .int), Cond.methodLink RX0 93 yX1_firstBargeElseCart, Cond.instanceMethod yX1_firstBargeElseCart, Cond.selects RX1 yX1_firstBargeElseCart yX1_firstBargeElseCart, Cond.code yX1_firstBargeElseCart cX1_firstBargeElseCart 1 (some .int), Cond.methodLink RX0 96 yX1_firstCartElseBarge, Cond.instanceMethod yX1_firstCartElseBarge]
def wsX2_when_r4 : List Cond := [Cond.selects RX1 yX1_firstCartElseBarge yX1_firstCartElseBarge, Cond.code yX1_firstCartElseBarge cX1_firstCartElseBarge 1 (some .int), Cond.methodLink RX0 68 yX0_serve, Cond.instanceMethod yX0_serve, Cond.selects RX0 yX0_serve yX0_serve, Cond.code yX0_serve cX0_serve 3 none, Cond.fieldLink RX0 103 "BridgeBells$Travellers" "barge" "[I", Cond.fieldLink RX0 106 "BridgeBells$Travellers" "needs" "[I", Cond.methodLink RX0 117 Lib.Math.min.name, Cond.methodLink RX0 84 Lib.Math.max.name, Cond.static Lib.Math.max.name, Cond.code Lib.Math.max.name Lib.Math.max.code 2 (some .int), Cond.methodLink RX0 99 yX1_has, Cond.methodLink RX0 109 yX1_endWait, Cond.instanceMethod yX1_endWait, Cond.selects RX1 yX1_endWait yX1_endWait, Cond.code yX1_endWait cX1_endWait 4 none, Cond.methodLink RX1 55 yX1_seeWhoWaits, Cond.instanceMethod yX1_seeWhoWaits, Cond.selects RX1 yX1_seeWhoWaits yX1_seeWhoWaits, Cond.code yX1_seeWhoWaits cX1_seeWhoWaits 2 none, Cond.methodLink RX0 113 yX0_speedTowards, Cond.instanceMethod yX0_speedTowards, Cond.selects RX0 yX0_speedTowards yX0_speedTowards]
def wsX2_when_r5 : List Cond := [Cond.code yX0_speedTowards cX0_speedTowards 4 (some .int), Cond.methodLink RX0 72 yX0_goOnPassing, Cond.instanceMethod yX0_goOnPassing, Cond.selects RX0 yX0_goOnPassing yX0_goOnPassing, Cond.code yX0_goOnPassing cX0_goOnPassing 1 none, Cond.methodLink RX0 120 yX1_endPassage, Cond.instanceMethod yX1_endPassage, Cond.selects RX1 yX1_endPassage yX1_endPassage, Cond.code yX1_endPassage cX1_endPassage 3 none, Cond.methodLink RX0 81 yX0_freeze, Cond.instanceMethod yX0_freeze, Cond.selects RX0 yX0_freeze yX0_freeze, Cond.code yX0_freeze cX0_freeze 2 none, Cond.methodLink RX0 124 yJ9_floorMod_7cf53, Cond.static yJ9_floorMod_7cf53, Cond.initialized RJ9, Cond.code yJ9_floorMod_7cf53 cJ9_floorMod_7cf53 3 (some .int)]
def wsX2_when : List Cond := .code yX2_when cX2_when 3 (some .int) :: ((wsX2_when_r1 ++ (wsX2_when_r2 ++ (wsX2_when_r3 ++ (wsX2_when_r4 ++ wsX2_when_r5)))) ++ wsX20 ++ wsX00 ++ wsX10 ++ (vx_atS RX2 56 "java/lang/IndexOutOfBoundsException" ["java/lang/RuntimeException", "java/lang/Exception"]).filter goodWord)
def wsX2_foresee_r1 : List Cond := [Cond.classLink RX2 19 "java/lang/IllegalArgumentException", Cond.initialized "java/lang/IllegalArgumentException", Cond.classLink RX2 52 "java/lang/IndexOutOfBoundsException", Cond.initialized "java/lang/IndexOutOfBoundsException", Cond.fieldLink RX2 16 "BridgeBells" "trial" "LBridgeBells$Bridge;", Cond.fieldLink RX2 10 "BridgeBells" "bridge" "LBridgeBells$Bridge;", Cond.fieldLink RX2 26 "BridgeBells$Bridge" "travellers" "LBridgeBells$Travellers;", Cond.fieldLink RX2 121 "BridgeBells$Travellers" "passed" "I", Cond.fieldLink RX2 137 "BridgeBells$Bridge" "waitedInAll" "I", Cond.fieldLink RX2 78 "BridgeBells$Bridge" "angle" "I", Cond.fieldLink RX2 93 "BridgeBells$Bridge" "ice" "I", Cond.methodLink RX2 116 yX2_isSpan, Cond.static yX2_isSpan, Cond.initialized RX2, Cond.code yX2_isSpan cX2_isSpan 1 (some .boolean), Cond.methodLink RX2 128 yX0_copyFrom, Cond.instanceMethod yX0_copyFrom, Cond.selects RX0 yX0_copyFrom yX0_copyFrom, Cond.initialized RX0, Cond.code yX0_copyFrom cX0_copyFrom 2 none, Cond.fieldLink RX0 9 "BridgeBells$Bridge" "minute" "I", Cond.fieldLink RX0 15 "BridgeBells$Bridge" "angle" "I", Cond.fieldLink RX0 18 "BridgeBells$Bridge" "counterpoise" "I", Cond.fieldLink RX0 21 "BridgeBells$Bridge" "ice" "I"]
def wsX2_foresee_r2 : List Cond := [Cond.fieldLink RX0 24 "BridgeBells$Bridge" "code" "I", Cond.fieldLink RX0 27 "BridgeBells$Bridge" "waitedInAll" "I", Cond.fieldLink RX0 30 "BridgeBells$Bridge" "cold" "[I", Cond.methodLink RX0 51 arraycopyName, Cond.native arraycopyName, Cond.static arraycopyName, Cond.initialized "java/lang/System", Cond.fieldLink RX0 37 "BridgeBells$Bridge" "travellers" "LBridgeBells$Travellers;", Cond.fieldLink RX0 41 "BridgeBells$Bridge" "passing" "I", Cond.fieldLink RX0 44 "BridgeBells$Bridge" "toGo" "I", Cond.fieldLink RX0 47 "BridgeBells$Bridge" "latestWasBarge" "Z", Cond.methodLink RX0 57 yX1_copyFrom, Cond.instanceMethod yX1_copyFrom, Cond.selects RX1 yX1_copyFrom yX1_copyFrom, Cond.initialized RX1, Cond.code yX1_copyFrom cX1_copyFrom 2 none, Cond.fieldLink RX1 9 "BridgeBells$Travellers" "number" "I", Cond.fieldLink RX1 15 "BridgeBells$Travellers" "passed" "I", Cond.fieldLink RX1 18 "BridgeBells$Travellers" "bargesWaiting" "I", Cond.fieldLink RX1 21 "BridgeBells$Travellers" "cartsWaiting" "I", Cond.fieldLink RX1 24 "BridgeBells$Travellers" "barge" "[I", Cond.methodLink RX1 49 arraycopyName, Cond.fieldLink RX1 28 "BridgeBells$Travellers" "needs" "[I", Cond.fieldLink RX1 31 "BridgeBells$Travellers" "state" "[I"]
def wsX2_foresee_r3 : List Cond := [Cond.fieldLink RX1 34 "BridgeBells$Travellers" "came" "[I", Cond.fieldLink RX1 37 "BridgeBells$Travellers" "passedIn" "[I", Cond.fieldLink RX1 40 "BridgeBells$Travellers" "waitEnd" "[I", Cond.fieldLink RX1 43 "BridgeBells$Travellers" "firstBarge" "I", Cond.fieldLink RX1 46 "BridgeBells$Travellers" "firstCart" "I", Cond.methodLink RX2 124 yX0_goOn, Cond.instanceMethod yX0_goOn, Cond.selects RX0 yX0_goOn yX0_goOn, Cond.code yX0_goOn cX0_goOn 3 none, Cond.methodLink RX0 61 yX0_goOneMinute, Cond.instanceMethod yX0_goOneMinute, Cond.selects RX0 yX0_goOneMinute yX0_goOneMinute, Cond.code yX0_goOneMinute cX0_goOneMinute 1 none, Cond.fieldLink RX0 75 "BridgeBells$Travellers" "bargesWaiting" "I", Cond.fieldLink RX0 78 "BridgeBells$Travellers" "cartsWaiting" "I", Cond.methodLink RX0 64 yX0_servedNext, Cond.instanceMethod yX0_servedNext, Cond.selects RX0 yX0_servedNext yX0_servedNext, Cond.code yX0_servedNext cX0_servedNext 1 (some .int), Cond.methodLink RX0 90 yX1_firstOfAll, Cond.instanceMethod yX1_firstOfAll, Cond.selects RX1 yX1_firstOfAll yX1_firstOfAll, Cond.code yX1_firstOfAll cX1_firstOfAll 1 (some .int), Cond.methodLink RX1 58 Lib.Math.min.name]
def wsX2_foresee_r4 : List Cond := [Cond.static Lib.Math.min.name, Cond.initialized "java/lang/Math", Cond.code Lib.Math.min.name Lib.Math.min.code 2 (some .int), Cond.methodLink RX0 93 yX1_firstBargeElseCart, Cond.instanceMethod yX1_firstBargeElseCart, Cond.selects RX1 yX1_firstBargeElseCart yX1_firstBargeElseCart, Cond.code yX1_firstBargeElseCart cX1_firstBargeElseCart 1 (some .int), Cond.methodLink RX0 96 yX1_firstCartElseBarge, Cond.instanceMethod yX1_firstCartElseBarge, Cond.selects RX1 yX1_firstCartElseBarge yX1_firstCartElseBarge, Cond.code yX1_firstCartElseBarge cX1_firstCartElseBarge 1 (some .int), Cond.methodLink RX0 68 yX0_serve, Cond.instanceMethod yX0_serve, Cond.selects RX0 yX0_serve yX0_serve, Cond.code yX0_serve cX0_serve 3 none, Cond.fieldLink RX0 103 "BridgeBells$Travellers" "barge" "[I", Cond.fieldLink RX0 106 "BridgeBells$Travellers" "needs" "[I", Cond.methodLink RX0 117 Lib.Math.min.name, Cond.methodLink RX0 84 Lib.Math.max.name, Cond.static Lib.Math.max.name, Cond.code Lib.Math.max.name Lib.Math.max.code 2 (some .int), Cond.methodLink RX0 99 yX1_has, Cond.instanceMethod yX1_has, Cond.selects RX1 yX1_has yX1_has]
def wsX2_foresee_r5 : List Cond := [Cond.code yX1_has cX1_has 2 (some .boolean), Cond.methodLink RX0 109 yX1_endWait, Cond.instanceMethod yX1_endWait, Cond.selects RX1 yX1_endWait yX1_endWait, Cond.code yX1_endWait cX1_endWait 4 none, Cond.methodLink RX1 55 yX1_seeWhoWaits, Cond.instanceMethod yX1_seeWhoWaits, Cond.selects RX1 yX1_seeWhoWaits yX1_seeWhoWaits, Cond.code yX1_seeWhoWaits cX1_seeWhoWaits 2 none, Cond.methodLink RX0 113 yX0_speedTowards, Cond.instanceMethod yX0_speedTowards, Cond.selects RX0 yX0_speedTowards yX0_speedTowards, Cond.code yX0_speedTowards cX0_speedTowards 4 (some .int), Cond.methodLink RX0 72 yX0_goOnPassing, Cond.instanceMethod yX0_goOnPassing, Cond.selects RX0 yX0_goOnPassing yX0_goOnPassing, Cond.code yX0_goOnPassing cX0_goOnPassing 1 none, Cond.methodLink RX0 120 yX1_endPassage, Cond.instanceMethod yX1_endPassage, Cond.selects RX1 yX1_endPassage yX1_endPassage, Cond.code yX1_endPassage cX1_endPassage 3 none, Cond.methodLink RX0 81 yX0_freeze, Cond.instanceMethod yX0_freeze, Cond.selects RX0 yX0_freeze yX0_freeze]
def wsX2_foresee_r6 : List Cond := [Cond.code yX0_freeze cX0_freeze 2 none, Cond.methodLink RX0 124 yJ9_floorMod_7cf53, Cond.static yJ9_floorMod_7cf53, Cond.initialized RJ9, Cond.code yJ9_floorMod_7cf53 cJ9_floorMod_7cf53 3 (some .int)]
def wsX2_foresee : List Cond := .code yX2_foresee cX2_foresee 3 (some .int) :: ((wsX2_foresee_r1 ++ (wsX2_foresee_r2 ++ (wsX2_foresee_r3 ++ (wsX2_foresee_r4 ++ (wsX2_foresee_r5 ++ wsX2_foresee_r6))))) ++ wsX20 ++ wsX00 ++ wsX10 ++ (vx_atS RX2 23 "java/lang/IllegalArgumentException" ["java/lang/RuntimeException", "java/lang/Exception"]).filter goodWord ++ (vx_atS RX2 56 "java/lang/IndexOutOfBoundsException" ["java/lang/RuntimeException", "java/lang/Exception"]).filter goodWord)
def wsX2_waitWith_r1 : List Cond := [Cond.fieldLink RX2 16 "BridgeBells" "trial" "LBridgeBells$Bridge;", Cond.fieldLink RX2 10 "BridgeBells" "bridge" "LBridgeBells$Bridge;", Cond.fieldLink RX2 73 "BridgeBells$Bridge" "code" "I", Cond.fieldLink RX2 83 "BridgeBells$Bridge" "counterpoise" "I", Cond.fieldLink RX2 137 "BridgeBells$Bridge" "waitedInAll" "I", Cond.methodLink RX2 128 yX0_copyFrom, Cond.instanceMethod yX0_copyFrom, Cond.selects RX0 yX0_copyFrom yX0_copyFrom, Cond.initialized RX0, Cond.code yX0_copyFrom cX0_copyFrom 2 none, Cond.fieldLink RX0 9 "BridgeBells$Bridge" "minute" "I", Cond.fieldLink RX0 15 "BridgeBells$Bridge" "angle" "I", Cond.fieldLink RX0 18 "BridgeBells$Bridge" "counterpoise" "I", Cond.fieldLink RX0 21 "BridgeBells$Bridge" "ice" "I", Cond.fieldLink RX0 24 "BridgeBells$Bridge" "code" "I", Cond.fieldLink RX0 27 "BridgeBells$Bridge" "waitedInAll" "I", Cond.fieldLink RX0 30 "BridgeBells$Bridge" "cold" "[I", Cond.methodLink RX0 51 arraycopyName, Cond.native arraycopyName, Cond.static arraycopyName, Cond.initialized "java/lang/System", Cond.fieldLink RX0 37 "BridgeBells$Bridge" "travellers" "LBridgeBells$Travellers;", Cond.fieldLink RX0 41 "BridgeBells$Bridge" "passing" "I", Cond.fieldLink RX0 44 "BridgeBells$Bridge" "toGo" "I"]
def wsX2_waitWith_r2 : List Cond := [Cond.fieldLink RX0 47 "BridgeBells$Bridge" "latestWasBarge" "Z", Cond.methodLink RX0 57 yX1_copyFrom, Cond.instanceMethod yX1_copyFrom, Cond.selects RX1 yX1_copyFrom yX1_copyFrom, Cond.initialized RX1, Cond.code yX1_copyFrom cX1_copyFrom 2 none, Cond.fieldLink RX1 9 "BridgeBells$Travellers" "number" "I", Cond.fieldLink RX1 15 "BridgeBells$Travellers" "passed" "I", Cond.fieldLink RX1 18 "BridgeBells$Travellers" "bargesWaiting" "I", Cond.fieldLink RX1 21 "BridgeBells$Travellers" "cartsWaiting" "I", Cond.fieldLink RX1 24 "BridgeBells$Travellers" "barge" "[I", Cond.methodLink RX1 49 arraycopyName, Cond.fieldLink RX1 28 "BridgeBells$Travellers" "needs" "[I", Cond.fieldLink RX1 31 "BridgeBells$Travellers" "state" "[I", Cond.fieldLink RX1 34 "BridgeBells$Travellers" "came" "[I", Cond.fieldLink RX1 37 "BridgeBells$Travellers" "passedIn" "[I", Cond.fieldLink RX1 40 "BridgeBells$Travellers" "waitEnd" "[I", Cond.fieldLink RX1 43 "BridgeBells$Travellers" "firstBarge" "I", Cond.fieldLink RX1 46 "BridgeBells$Travellers" "firstCart" "I", Cond.methodLink RX2 124 yX0_goOn, Cond.instanceMethod yX0_goOn, Cond.selects RX0 yX0_goOn yX0_goOn, Cond.code yX0_goOn cX0_goOn 3 none, Cond.methodLink RX0 61 yX0_goOneMinute]
def wsX2_waitWith_r3 : List Cond := [Cond.instanceMethod yX0_goOneMinute, Cond.selects RX0 yX0_goOneMinute yX0_goOneMinute, Cond.code yX0_goOneMinute cX0_goOneMinute 1 none, Cond.fieldLink RX0 75 "BridgeBells$Travellers" "bargesWaiting" "I", Cond.fieldLink RX0 78 "BridgeBells$Travellers" "cartsWaiting" "I", Cond.methodLink RX0 64 yX0_servedNext, Cond.instanceMethod yX0_servedNext, Cond.selects RX0 yX0_servedNext yX0_servedNext, Cond.code yX0_servedNext cX0_servedNext 1 (some .int), Cond.methodLink RX0 90 yX1_firstOfAll, Cond.instanceMethod yX1_firstOfAll, Cond.selects RX1 yX1_firstOfAll yX1_firstOfAll, Cond.code yX1_firstOfAll cX1_firstOfAll 1 (some .int), Cond.methodLink RX1 58 Lib.Math.min.name, Cond.static Lib.Math.min.name, Cond.initialized "java/lang/Math", Cond.code Lib.Math.min.name Lib.Math.min.code 2 (some .int), Cond.methodLink RX0 93 yX1_firstBargeElseCart, Cond.instanceMethod yX1_firstBargeElseCart, Cond.selects RX1 yX1_firstBargeElseCart yX1_firstBargeElseCart, Cond.code yX1_firstBargeElseCart cX1_firstBargeElseCart 1 (some .int), Cond.methodLink RX0 96 yX1_firstCartElseBarge, Cond.instanceMethod yX1_firstCartElseBarge, Cond.selects RX1 yX1_firstCartElseBarge yX1_firstCartElseBarge]
def wsX2_waitWith_r4 : List Cond := [Cond.code yX1_firstCartElseBarge cX1_firstCartElseBarge 1 (some .int), Cond.methodLink RX0 68 yX0_serve, Cond.instanceMethod yX0_serve, Cond.selects RX0 yX0_serve yX0_serve, Cond.code yX0_serve cX0_serve 3 none, Cond.fieldLink RX0 103 "BridgeBells$Travellers" "barge" "[I", Cond.fieldLink RX0 106 "BridgeBells$Travellers" "needs" "[I", Cond.methodLink RX0 117 Lib.Math.min.name, Cond.methodLink RX0 84 Lib.Math.max.name, Cond.static Lib.Math.max.name, Cond.code Lib.Math.max.name Lib.Math.max.code 2 (some .int), Cond.methodLink RX0 99 yX1_has, Cond.instanceMethod yX1_has, Cond.selects RX1 yX1_has yX1_has, Cond.code yX1_has cX1_has 2 (some .boolean), Cond.methodLink RX0 109 yX1_endWait, Cond.instanceMethod yX1_endWait, Cond.selects RX1 yX1_endWait yX1_endWait, Cond.code yX1_endWait cX1_endWait 4 none, Cond.methodLink RX1 55 yX1_seeWhoWaits, Cond.instanceMethod yX1_seeWhoWaits, Cond.selects RX1 yX1_seeWhoWaits yX1_seeWhoWaits, Cond.code yX1_seeWhoWaits cX1_seeWhoWaits 2 none, Cond.methodLink RX0 113 yX0_speedTowards]
def wsX2_waitWith_r5 : List Cond := [Cond.instanceMethod yX0_speedTowards, Cond.selects RX0 yX0_speedTowards yX0_speedTowards, Cond.code yX0_speedTowards cX0_speedTowards 4 (some .int), Cond.methodLink RX0 72 yX0_goOnPassing, Cond.instanceMethod yX0_goOnPassing, Cond.selects RX0 yX0_goOnPassing yX0_goOnPassing, Cond.code yX0_goOnPassing cX0_goOnPassing 1 none, Cond.methodLink RX0 120 yX1_endPassage, Cond.instanceMethod yX1_endPassage, Cond.selects RX1 yX1_endPassage yX1_endPassage, Cond.code yX1_endPassage cX1_endPassage 3 none, Cond.methodLink RX0 81 yX0_freeze, Cond.instanceMethod yX0_freeze, Cond.selects RX0 yX0_freeze yX0_freeze, Cond.code yX0_freeze cX0_freeze 2 none, Cond.methodLink RX0 124 yJ9_floorMod_7cf53, Cond.static yJ9_floorMod_7cf53, Cond.initialized RJ9, Cond.code yJ9_floorMod_7cf53 cJ9_floorMod_7cf53 3 (some .int)]
def wsX2_waitWith : List Cond := .code yX2_waitWith cX2_waitWith 4 (some .int) :: ((wsX2_waitWith_r1 ++ (wsX2_waitWith_r2 ++ (wsX2_waitWith_r3 ++ (wsX2_waitWith_r4 ++ wsX2_waitWith_r5)))) ++ wsX20 ++ wsX00 ++ wsX10)
def wsX2_bestCode_r1 : List Cond := [Cond.classLink RX2 19 "java/lang/IllegalArgumentException", Cond.initialized "java/lang/IllegalArgumentException", Cond.fieldLink RX2 10 "BridgeBells" "bridge" "LBridgeBells$Bridge;", Cond.fieldLink RX2 83 "BridgeBells$Bridge" "counterpoise" "I", Cond.methodLink RX2 116 yX2_isSpan, Cond.static yX2_isSpan, Cond.initialized RX2, Cond.code yX2_isSpan cX2_isSpan 1 (some .boolean), Cond.methodLink RX2 140 yX2_waitWith, Cond.instanceMethod yX2_waitWith, Cond.selects RX2 yX2_waitWith yX2_waitWith, Cond.code yX2_waitWith cX2_waitWith 4 (some .int), Cond.fieldLink RX2 16 "BridgeBells" "trial" "LBridgeBells$Bridge;", Cond.fieldLink RX2 73 "BridgeBells$Bridge" "code" "I", Cond.fieldLink RX2 137 "BridgeBells$Bridge" "waitedInAll" "I", Cond.methodLink RX2 128 yX0_copyFrom, Cond.instanceMethod yX0_copyFrom, Cond.selects RX0 yX0_copyFrom yX0_copyFrom, Cond.initialized RX0, Cond.code yX0_copyFrom cX0_copyFrom 2 none, Cond.fieldLink RX0 9 "BridgeBells$Bridge" "minute" "I", Cond.fieldLink RX0 15 "BridgeBells$Bridge" "angle" "I", Cond.fieldLink RX0 18 "BridgeBells$Bridge" "counterpoise" "I", Cond.fieldLink RX0 21 "BridgeBells$Bridge" "ice" "I"]
def wsX2_bestCode_r2 : List Cond := [Cond.fieldLink RX0 24 "BridgeBells$Bridge" "code" "I", Cond.fieldLink RX0 27 "BridgeBells$Bridge" "waitedInAll" "I", Cond.fieldLink RX0 30 "BridgeBells$Bridge" "cold" "[I", Cond.methodLink RX0 51 arraycopyName, Cond.native arraycopyName, Cond.static arraycopyName, Cond.initialized "java/lang/System", Cond.fieldLink RX0 37 "BridgeBells$Bridge" "travellers" "LBridgeBells$Travellers;", Cond.fieldLink RX0 41 "BridgeBells$Bridge" "passing" "I", Cond.fieldLink RX0 44 "BridgeBells$Bridge" "toGo" "I", Cond.fieldLink RX0 47 "BridgeBells$Bridge" "latestWasBarge" "Z", Cond.methodLink RX0 57 yX1_copyFrom, Cond.instanceMethod yX1_copyFrom, Cond.selects RX1 yX1_copyFrom yX1_copyFrom, Cond.initialized RX1, Cond.code yX1_copyFrom cX1_copyFrom 2 none, Cond.fieldLink RX1 9 "BridgeBells$Travellers" "number" "I", Cond.fieldLink RX1 15 "BridgeBells$Travellers" "passed" "I", Cond.fieldLink RX1 18 "BridgeBells$Travellers" "bargesWaiting" "I", Cond.fieldLink RX1 21 "BridgeBells$Travellers" "cartsWaiting" "I", Cond.fieldLink RX1 24 "BridgeBells$Travellers" "barge" "[I", Cond.methodLink RX1 49 arraycopyName, Cond.fieldLink RX1 28 "BridgeBells$Travellers" "needs" "[I", Cond.fieldLink RX1 31 "BridgeBells$Travellers" "state" "[I"]
def wsX2_bestCode_r3 : List Cond := [Cond.fieldLink RX1 34 "BridgeBells$Travellers" "came" "[I", Cond.fieldLink RX1 37 "BridgeBells$Travellers" "passedIn" "[I", Cond.fieldLink RX1 40 "BridgeBells$Travellers" "waitEnd" "[I", Cond.fieldLink RX1 43 "BridgeBells$Travellers" "firstBarge" "I", Cond.fieldLink RX1 46 "BridgeBells$Travellers" "firstCart" "I", Cond.methodLink RX2 124 yX0_goOn, Cond.instanceMethod yX0_goOn, Cond.selects RX0 yX0_goOn yX0_goOn, Cond.code yX0_goOn cX0_goOn 3 none, Cond.methodLink RX0 61 yX0_goOneMinute, Cond.instanceMethod yX0_goOneMinute, Cond.selects RX0 yX0_goOneMinute yX0_goOneMinute, Cond.code yX0_goOneMinute cX0_goOneMinute 1 none, Cond.fieldLink RX0 75 "BridgeBells$Travellers" "bargesWaiting" "I", Cond.fieldLink RX0 78 "BridgeBells$Travellers" "cartsWaiting" "I", Cond.methodLink RX0 64 yX0_servedNext, Cond.instanceMethod yX0_servedNext, Cond.selects RX0 yX0_servedNext yX0_servedNext, Cond.code yX0_servedNext cX0_servedNext 1 (some .int), Cond.methodLink RX0 90 yX1_firstOfAll, Cond.instanceMethod yX1_firstOfAll, Cond.selects RX1 yX1_firstOfAll yX1_firstOfAll, Cond.code yX1_firstOfAll cX1_firstOfAll 1 (some .int), Cond.methodLink RX1 58 Lib.Math.min.name]
def wsX2_bestCode_r4 : List Cond := [Cond.static Lib.Math.min.name, Cond.initialized "java/lang/Math", Cond.code Lib.Math.min.name Lib.Math.min.code 2 (some .int), Cond.methodLink RX0 93 yX1_firstBargeElseCart, Cond.instanceMethod yX1_firstBargeElseCart, Cond.selects RX1 yX1_firstBargeElseCart yX1_firstBargeElseCart, Cond.code yX1_firstBargeElseCart cX1_firstBargeElseCart 1 (some .int), Cond.methodLink RX0 96 yX1_firstCartElseBarge, Cond.instanceMethod yX1_firstCartElseBarge, Cond.selects RX1 yX1_firstCartElseBarge yX1_firstCartElseBarge, Cond.code yX1_firstCartElseBarge cX1_firstCartElseBarge 1 (some .int), Cond.methodLink RX0 68 yX0_serve, Cond.instanceMethod yX0_serve, Cond.selects RX0 yX0_serve yX0_serve, Cond.code yX0_serve cX0_serve 3 none, Cond.fieldLink RX0 103 "BridgeBells$Travellers" "barge" "[I", Cond.fieldLink RX0 106 "BridgeBells$Travellers" "needs" "[I", Cond.methodLink RX0 117 Lib.Math.min.name, Cond.methodLink RX0 84 Lib.Math.max.name, Cond.static Lib.Math.max.name, Cond.code Lib.Math.max.name Lib.Math.max.code 2 (some .int), Cond.methodLink RX0 99 yX1_has, Cond.instanceMethod yX1_has, Cond.selects RX1 yX1_has yX1_has]
def wsX2_bestCode_r5 : List Cond := [Cond.code yX1_has cX1_has 2 (some .boolean), Cond.methodLink RX0 109 yX1_endWait, Cond.instanceMethod yX1_endWait, Cond.selects RX1 yX1_endWait yX1_endWait, Cond.code yX1_endWait cX1_endWait 4 none, Cond.methodLink RX1 55 yX1_seeWhoWaits, Cond.instanceMethod yX1_seeWhoWaits, Cond.selects RX1 yX1_seeWhoWaits yX1_seeWhoWaits, Cond.code yX1_seeWhoWaits cX1_seeWhoWaits 2 none, Cond.methodLink RX0 113 yX0_speedTowards, Cond.instanceMethod yX0_speedTowards, Cond.selects RX0 yX0_speedTowards yX0_speedTowards, Cond.code yX0_speedTowards cX0_speedTowards 4 (some .int), Cond.methodLink RX0 72 yX0_goOnPassing, Cond.instanceMethod yX0_goOnPassing, Cond.selects RX0 yX0_goOnPassing yX0_goOnPassing, Cond.code yX0_goOnPassing cX0_goOnPassing 1 none, Cond.methodLink RX0 120 yX1_endPassage, Cond.instanceMethod yX1_endPassage, Cond.selects RX1 yX1_endPassage yX1_endPassage, Cond.code yX1_endPassage cX1_endPassage 3 none, Cond.methodLink RX0 81 yX0_freeze, Cond.instanceMethod yX0_freeze, Cond.selects RX0 yX0_freeze yX0_freeze]
def wsX2_bestCode_r6 : List Cond := [Cond.code yX0_freeze cX0_freeze 2 none, Cond.methodLink RX0 124 yJ9_floorMod_7cf53, Cond.static yJ9_floorMod_7cf53, Cond.initialized RJ9, Cond.code yJ9_floorMod_7cf53 cJ9_floorMod_7cf53 3 (some .int)]
def wsX2_bestCode : List Cond := .code yX2_bestCode cX2_bestCode 6 (some .int) :: ((wsX2_bestCode_r1 ++ (wsX2_bestCode_r2 ++ (wsX2_bestCode_r3 ++ (wsX2_bestCode_r4 ++ (wsX2_bestCode_r5 ++ wsX2_bestCode_r6))))) ++ wsX20 ++ wsX00 ++ wsX10 ++ (vx_atS RX2 23 "java/lang/IllegalArgumentException" ["java/lang/RuntimeException", "java/lang/Exception"]).filter goodWord)
def wsX2_bestPoise_r1 : List Cond := [Cond.classLink RX2 19 "java/lang/IllegalArgumentException", Cond.initialized "java/lang/IllegalArgumentException", Cond.fieldLink RX2 10 "BridgeBells" "bridge" "LBridgeBells$Bridge;", Cond.fieldLink RX2 73 "BridgeBells$Bridge" "code" "I", Cond.methodLink RX2 116 yX2_isSpan, Cond.static yX2_isSpan, Cond.initialized RX2, Cond.code yX2_isSpan cX2_isSpan 1 (some .boolean), Cond.methodLink RX2 140 yX2_waitWith, Cond.instanceMethod yX2_waitWith, Cond.selects RX2 yX2_waitWith yX2_waitWith, Cond.code yX2_waitWith cX2_waitWith 4 (some .int), Cond.fieldLink RX2 16 "BridgeBells" "trial" "LBridgeBells$Bridge;", Cond.fieldLink RX2 83 "BridgeBells$Bridge" "counterpoise" "I", Cond.fieldLink RX2 137 "BridgeBells$Bridge" "waitedInAll" "I", Cond.methodLink RX2 128 yX0_copyFrom, Cond.instanceMethod yX0_copyFrom, Cond.selects RX0 yX0_copyFrom yX0_copyFrom, Cond.initialized RX0, Cond.code yX0_copyFrom cX0_copyFrom 2 none, Cond.fieldLink RX0 9 "BridgeBells$Bridge" "minute" "I", Cond.fieldLink RX0 15 "BridgeBells$Bridge" "angle" "I", Cond.fieldLink RX0 18 "BridgeBells$Bridge" "counterpoise" "I", Cond.fieldLink RX0 21 "BridgeBells$Bridge" "ice" "I"]
def wsX2_bestPoise_r2 : List Cond := [Cond.fieldLink RX0 24 "BridgeBells$Bridge" "code" "I", Cond.fieldLink RX0 27 "BridgeBells$Bridge" "waitedInAll" "I", Cond.fieldLink RX0 30 "BridgeBells$Bridge" "cold" "[I", Cond.methodLink RX0 51 arraycopyName, Cond.native arraycopyName, Cond.static arraycopyName, Cond.initialized "java/lang/System", Cond.fieldLink RX0 37 "BridgeBells$Bridge" "travellers" "LBridgeBells$Travellers;", Cond.fieldLink RX0 41 "BridgeBells$Bridge" "passing" "I", Cond.fieldLink RX0 44 "BridgeBells$Bridge" "toGo" "I", Cond.fieldLink RX0 47 "BridgeBells$Bridge" "latestWasBarge" "Z", Cond.methodLink RX0 57 yX1_copyFrom, Cond.instanceMethod yX1_copyFrom, Cond.selects RX1 yX1_copyFrom yX1_copyFrom, Cond.initialized RX1, Cond.code yX1_copyFrom cX1_copyFrom 2 none, Cond.fieldLink RX1 9 "BridgeBells$Travellers" "number" "I", Cond.fieldLink RX1 15 "BridgeBells$Travellers" "passed" "I", Cond.fieldLink RX1 18 "BridgeBells$Travellers" "bargesWaiting" "I", Cond.fieldLink RX1 21 "BridgeBells$Travellers" "cartsWaiting" "I", Cond.fieldLink RX1 24 "BridgeBells$Travellers" "barge" "[I", Cond.methodLink RX1 49 arraycopyName, Cond.fieldLink RX1 28 "BridgeBells$Travellers" "needs" "[I", Cond.fieldLink RX1 31 "BridgeBells$Travellers" "state" "[I"]
def wsX2_bestPoise_r3 : List Cond := [Cond.fieldLink RX1 34 "BridgeBells$Travellers" "came" "[I", Cond.fieldLink RX1 37 "BridgeBells$Travellers" "passedIn" "[I", Cond.fieldLink RX1 40 "BridgeBells$Travellers" "waitEnd" "[I", Cond.fieldLink RX1 43 "BridgeBells$Travellers" "firstBarge" "I", Cond.fieldLink RX1 46 "BridgeBells$Travellers" "firstCart" "I", Cond.methodLink RX2 124 yX0_goOn, Cond.instanceMethod yX0_goOn, Cond.selects RX0 yX0_goOn yX0_goOn, Cond.code yX0_goOn cX0_goOn 3 none, Cond.methodLink RX0 61 yX0_goOneMinute, Cond.instanceMethod yX0_goOneMinute, Cond.selects RX0 yX0_goOneMinute yX0_goOneMinute, Cond.code yX0_goOneMinute cX0_goOneMinute 1 none, Cond.fieldLink RX0 75 "BridgeBells$Travellers" "bargesWaiting" "I", Cond.fieldLink RX0 78 "BridgeBells$Travellers" "cartsWaiting" "I", Cond.methodLink RX0 64 yX0_servedNext, Cond.instanceMethod yX0_servedNext, Cond.selects RX0 yX0_servedNext yX0_servedNext, Cond.code yX0_servedNext cX0_servedNext 1 (some .int), Cond.methodLink RX0 90 yX1_firstOfAll, Cond.instanceMethod yX1_firstOfAll, Cond.selects RX1 yX1_firstOfAll yX1_firstOfAll, Cond.code yX1_firstOfAll cX1_firstOfAll 1 (some .int), Cond.methodLink RX1 58 Lib.Math.min.name]
def wsX2_bestPoise_r4 : List Cond := [Cond.static Lib.Math.min.name, Cond.initialized "java/lang/Math", Cond.code Lib.Math.min.name Lib.Math.min.code 2 (some .int), Cond.methodLink RX0 93 yX1_firstBargeElseCart, Cond.instanceMethod yX1_firstBargeElseCart, Cond.selects RX1 yX1_firstBargeElseCart yX1_firstBargeElseCart, Cond.code yX1_firstBargeElseCart cX1_firstBargeElseCart 1 (some .int), Cond.methodLink RX0 96 yX1_firstCartElseBarge, Cond.instanceMethod yX1_firstCartElseBarge, Cond.selects RX1 yX1_firstCartElseBarge yX1_firstCartElseBarge, Cond.code yX1_firstCartElseBarge cX1_firstCartElseBarge 1 (some .int), Cond.methodLink RX0 68 yX0_serve, Cond.instanceMethod yX0_serve, Cond.selects RX0 yX0_serve yX0_serve, Cond.code yX0_serve cX0_serve 3 none, Cond.fieldLink RX0 103 "BridgeBells$Travellers" "barge" "[I", Cond.fieldLink RX0 106 "BridgeBells$Travellers" "needs" "[I", Cond.methodLink RX0 117 Lib.Math.min.name, Cond.methodLink RX0 84 Lib.Math.max.name, Cond.static Lib.Math.max.name, Cond.code Lib.Math.max.name Lib.Math.max.code 2 (some .int), Cond.methodLink RX0 99 yX1_has, Cond.instanceMethod yX1_has, Cond.selects RX1 yX1_has yX1_has]
def wsX2_bestPoise_r5 : List Cond := [Cond.code yX1_has cX1_has 2 (some .boolean), Cond.methodLink RX0 109 yX1_endWait, Cond.instanceMethod yX1_endWait, Cond.selects RX1 yX1_endWait yX1_endWait, Cond.code yX1_endWait cX1_endWait 4 none, Cond.methodLink RX1 55 yX1_seeWhoWaits, Cond.instanceMethod yX1_seeWhoWaits, Cond.selects RX1 yX1_seeWhoWaits yX1_seeWhoWaits, Cond.code yX1_seeWhoWaits cX1_seeWhoWaits 2 none, Cond.methodLink RX0 113 yX0_speedTowards, Cond.instanceMethod yX0_speedTowards, Cond.selects RX0 yX0_speedTowards yX0_speedTowards, Cond.code yX0_speedTowards cX0_speedTowards 4 (some .int), Cond.methodLink RX0 72 yX0_goOnPassing, Cond.instanceMethod yX0_goOnPassing, Cond.selects RX0 yX0_goOnPassing yX0_goOnPassing, Cond.code yX0_goOnPassing cX0_goOnPassing 1 none, Cond.methodLink RX0 120 yX1_endPassage, Cond.instanceMethod yX1_endPassage, Cond.selects RX1 yX1_endPassage yX1_endPassage, Cond.code yX1_endPassage cX1_endPassage 3 none, Cond.methodLink RX0 81 yX0_freeze, Cond.instanceMethod yX0_freeze, Cond.selects RX0 yX0_freeze yX0_freeze]
def wsX2_bestPoise_r6 : List Cond := [Cond.code yX0_freeze cX0_freeze 2 none, Cond.methodLink RX0 124 yJ9_floorMod_7cf53, Cond.static yJ9_floorMod_7cf53, Cond.initialized RJ9, Cond.code yJ9_floorMod_7cf53 cJ9_floorMod_7cf53 3 (some .int)]
def wsX2_bestPoise : List Cond := .code yX2_bestPoise cX2_bestPoise 6 (some .int) :: ((wsX2_bestPoise_r1 ++ (wsX2_bestPoise_r2 ++ (wsX2_bestPoise_r3 ++ (wsX2_bestPoise_r4 ++ (wsX2_bestPoise_r5 ++ wsX2_bestPoise_r6))))) ++ wsX20 ++ wsX00 ++ wsX10 ++ (vx_atS RX2 23 "java/lang/IllegalArgumentException" ["java/lang/RuntimeException", "java/lang/Exception"]).filter goodWord)
def wsX2_mean : List Cond := .code yX2_mean cX2_mean 2 (some .double) :: ([.fieldLink RX2 10 "BridgeBells" "bridge" "LBridgeBells$Bridge;", .fieldLink RX2 26 "BridgeBells$Bridge" "travellers" "LBridgeBells$Travellers;", .fieldLink RX2 30 "BridgeBells$Travellers" "number" "I", .fieldLink RX2 137 "BridgeBells$Bridge" "waitedInAll" "I"] ++ wsX20 ++ wsX00 ++ wsX10)
def wsX2_digest_r1 : List Cond := [Cond.constantLong RX2 144 (1021), Cond.constantLong RX2 146 (31), Cond.fieldLink RX2 10 "BridgeBells" "bridge" "LBridgeBells$Bridge;", Cond.fieldLink RX2 90 "BridgeBells$Bridge" "cold" "[I", Cond.fieldLink RX2 26 "BridgeBells$Bridge" "travellers" "LBridgeBells$Travellers;", Cond.fieldLink RX2 30 "BridgeBells$Travellers" "number" "I", Cond.methodLink RX2 108 yX0_total, Cond.instanceMethod yX0_total, Cond.selects RX0 yX0_total yX0_total, Cond.initialized RX0, Cond.code yX0_total cX0_total 2 (some .int), Cond.fieldLink RX0 9 "BridgeBells$Bridge" "minute" "I", Cond.fieldLink RX0 15 "BridgeBells$Bridge" "angle" "I", Cond.fieldLink RX0 18 "BridgeBells$Bridge" "counterpoise" "I", Cond.fieldLink RX0 21 "BridgeBells$Bridge" "ice" "I", Cond.fieldLink RX0 24 "BridgeBells$Bridge" "code" "I", Cond.fieldLink RX0 37 "BridgeBells$Bridge" "travellers" "LBridgeBells$Travellers;", Cond.fieldLink RX0 127 "BridgeBells$Travellers" "number" "I", Cond.fieldLink RX0 75 "BridgeBells$Travellers" "bargesWaiting" "I", Cond.fieldLink RX0 78 "BridgeBells$Travellers" "cartsWaiting" "I", Cond.fieldLink RX0 130 "BridgeBells$Travellers" "passed" "I", Cond.fieldLink RX0 27 "BridgeBells$Bridge" "waitedInAll" "I", Cond.fieldLink RX0 41 "BridgeBells$Bridge" "passing" "I", Cond.methodLink RX0 64 yX0_servedNext]
def wsX2_digest_r2 : List Cond := [Cond.instanceMethod yX0_servedNext, Cond.selects RX0 yX0_servedNext yX0_servedNext, Cond.code yX0_servedNext cX0_servedNext 1 (some .int), Cond.fieldLink RX0 47 "BridgeBells$Bridge" "latestWasBarge" "Z", Cond.methodLink RX0 90 yX1_firstOfAll, Cond.instanceMethod yX1_firstOfAll, Cond.selects RX1 yX1_firstOfAll yX1_firstOfAll, Cond.initialized RX1, Cond.code yX1_firstOfAll cX1_firstOfAll 1 (some .int), Cond.fieldLink RX1 43 "BridgeBells$Travellers" "firstBarge" "I", Cond.fieldLink RX1 46 "BridgeBells$Travellers" "firstCart" "I", Cond.methodLink RX1 58 Lib.Math.min.name, Cond.static Lib.Math.min.name, Cond.initialized "java/lang/Math", Cond.code Lib.Math.min.name Lib.Math.min.code 2 (some .int), Cond.methodLink RX0 93 yX1_firstBargeElseCart, Cond.instanceMethod yX1_firstBargeElseCart, Cond.selects RX1 yX1_firstBargeElseCart yX1_firstBargeElseCart, Cond.code yX1_firstBargeElseCart cX1_firstBargeElseCart 1 (some .int), Cond.methodLink RX0 96 yX1_firstCartElseBarge, Cond.instanceMethod yX1_firstCartElseBarge, Cond.selects RX1 yX1_firstCartElseBarge yX1_firstCartElseBarge, Cond.code yX1_firstCartElseBarge cX1_firstCartElseBarge 1 (some .int), Cond.methodLink RX2 103 yX0_factOf]
def wsX2_digest_r3 : List Cond := [Cond.instanceMethod yX0_factOf, Cond.selects RX0 yX0_factOf yX0_factOf, Cond.code yX0_factOf cX0_factOf 3 (some .int), Cond.fieldLink RX0 103 "BridgeBells$Travellers" "barge" "[I", Cond.fieldLink RX0 106 "BridgeBells$Travellers" "needs" "[I", Cond.fieldLink RX0 133 "BridgeBells$Travellers" "state" "[I", Cond.fieldLink RX0 136 "BridgeBells$Travellers" "came" "[I", Cond.fieldLink RX0 44 "BridgeBells$Bridge" "toGo" "I", Cond.fieldLink RX0 142 "BridgeBells$Travellers" "passedIn" "[I", Cond.methodLink RX0 139 yX1_waited, Cond.instanceMethod yX1_waited, Cond.selects RX1 yX1_waited yX1_waited, Cond.code yX1_waited cX1_waited 4 (some .int), Cond.fieldLink RX1 31 "BridgeBells$Travellers" "state" "[I", Cond.fieldLink RX1 40 "BridgeBells$Travellers" "waitEnd" "[I", Cond.fieldLink RX1 34 "BridgeBells$Travellers" "came" "[I"]
def wsX2_digest : List Cond := .code yX2_digest cX2_digest 5 (some .long) :: ((wsX2_digest_r1 ++ (wsX2_digest_r2 ++ wsX2_digest_r3)) ++ wsX20 ++ wsX00 ++ wsX10)
def wsX3_init : List Cond := .code yX3_init cX3_init 2 none :: ([.fieldLink RX3 3 "BridgeBellsModel$State" "this$0" "LBridgeBellsModel;", .methodLink RX3 9 objectInit, .instanceMethod objectInit, .code objectInit ⟨#[0xb1]⟩ 1 none, .fieldLink RX3 15 "BridgeBellsModel$State" "poise" "I", .fieldLink RX3 19 "BridgeBellsModel$State" "passer" "I", .arrayClass .int, .fieldLink RX3 22 "BridgeBellsModel$State" "is" "[I", .fieldLink RX3 26 "BridgeBellsModel$State" "waited" "[I", .fieldLink RX3 29 "BridgeBellsModel$State" "left" "[I", .fieldLink RX3 32 "BridgeBellsModel$State" "when" "[I"] ++ wsX30)
def wsX3_copy : List Cond := .code yX3_copy cX3_copy 3 none :: ([.methodLink RX3 35 arraycopyName, .native arraycopyName, .static arraycopyName, .initialized "java/lang/System"])
def wsX3_become : List Cond := .code yX3_become cX3_become 2 none :: ([.fieldLink RX3 41 "BridgeBellsModel$State" "minute" "I", .fieldLink RX3 44 "BridgeBellsModel$State" "angle" "I", .fieldLink RX3 15 "BridgeBellsModel$State" "poise" "I", .fieldLink RX3 47 "BridgeBellsModel$State" "ice" "I", .fieldLink RX3 50 "BridgeBellsModel$State" "code" "I", .fieldLink RX3 19 "BridgeBellsModel$State" "passer" "I", .fieldLink RX3 53 "BridgeBellsModel$State" "latest" "I", .fieldLink RX3 22 "BridgeBellsModel$State" "is" "[I", .fieldLink RX3 26 "BridgeBellsModel$State" "waited" "[I", .fieldLink RX3 29 "BridgeBellsModel$State" "left" "[I", .fieldLink RX3 32 "BridgeBellsModel$State" "when" "[I", .methodLink RX3 56 yX3_copy, .instanceMethod yX3_copy, .selects RX3 yX3_copy yX3_copy, .initialized RX3, .code yX3_copy cX3_copy 3 none, .methodLink RX3 35 arraycopyName, .native arraycopyName, .static arraycopyName, .initialized "java/lang/System"] ++ wsX30)
def wsX3_speed : List Cond := .code yX3_speed cX3_speed 3 (some .int) :: ([.fieldLink RX3 15 "BridgeBellsModel$State" "poise" "I", .fieldLink RX3 47 "BridgeBellsModel$State" "ice" "I", .methodLink RX3 60 Lib.Math.max.name, .static Lib.Math.max.name, .initialized "java/lang/Math", .code Lib.Math.max.name Lib.Math.max.code 2 (some .int)] ++ wsX30)
def wsX3_first : List Cond := .code yX3_first cX3_first 3 (some .int) :: ([.fieldLink RX3 3 "BridgeBellsModel$State" "this$0" "LBridgeBellsModel;", .fieldLink RX3 22 "BridgeBellsModel$State" "is" "[I"] ++ wsX30 ++ wsX40)
def wsX3_next : List Cond := .code yX3_next cX3_next 2 (some .int) :: ([.fieldLink RX3 19 "BridgeBellsModel$State" "passer" "I", .fieldLink RX3 50 "BridgeBellsModel$State" "code" "I", .fieldLink RX3 53 "BridgeBellsModel$State" "latest" "I", .methodLink RX3 72 yX3_first, .instanceMethod yX3_first, .selects RX3 yX3_first yX3_first, .initialized RX3, .code yX3_first cX3_first 3 (some .int), .fieldLink RX3 3 "BridgeBellsModel$State" "this$0" "LBridgeBellsModel;", .fieldLink RX3 22 "BridgeBellsModel$State" "is" "[I"] ++ wsX30 ++ wsX40)
def wsX3_serve : List Cond := .code yX3_serve cX3_serve 3 none :: ([.fieldLink RX3 3 "BridgeBellsModel$State" "this$0" "LBridgeBellsModel;", .fieldLink RX3 44 "BridgeBellsModel$State" "angle" "I", .fieldLink RX3 19 "BridgeBellsModel$State" "passer" "I", .fieldLink RX3 22 "BridgeBellsModel$State" "is" "[I", .fieldLink RX3 29 "BridgeBellsModel$State" "left" "[I", .fieldLink RX3 53 "BridgeBellsModel$State" "latest" "I", .methodLink RX3 83 Lib.Math.min.name, .static Lib.Math.min.name, .initialized "java/lang/Math", .code Lib.Math.min.name Lib.Math.min.code 2 (some .int), .methodLink RX3 60 Lib.Math.max.name, .static Lib.Math.max.name, .code Lib.Math.max.name Lib.Math.max.code 2 (some .int), .methodLink RX3 79 yX3_speed, .instanceMethod yX3_speed, .selects RX3 yX3_speed yX3_speed, .initialized RX3, .code yX3_speed cX3_speed 3 (some .int), .fieldLink RX3 15 "BridgeBellsModel$State" "poise" "I", .fieldLink RX3 47 "BridgeBellsModel$State" "ice" "I"] ++ wsX30 ++ wsX40)
def wsX3_pass_r1 : List Cond := [Cond.fieldLink RX3 19 "BridgeBellsModel$State" "passer" "I", Cond.fieldLink RX3 29 "BridgeBellsModel$State" "left" "[I", Cond.fieldLink RX3 22 "BridgeBellsModel$State" "is" "[I", Cond.fieldLink RX3 32 "BridgeBellsModel$State" "when" "[I", Cond.fieldLink RX3 41 "BridgeBellsModel$State" "minute" "I", Cond.fieldLink RX3 3 "BridgeBellsModel$State" "this$0" "LBridgeBellsModel;", Cond.fieldLink RX3 26 "BridgeBellsModel$State" "waited" "[I", Cond.fieldLink RX3 47 "BridgeBellsModel$State" "ice" "I", Cond.methodLink RX3 83 Lib.Math.min.name, Cond.static Lib.Math.min.name, Cond.initialized "java/lang/Math", Cond.code Lib.Math.min.name Lib.Math.min.code 2 (some .int), Cond.methodLink RX3 60 Lib.Math.max.name, Cond.static Lib.Math.max.name, Cond.code Lib.Math.max.name Lib.Math.max.code 2 (some .int), Cond.methodLink RX3 86 yX3_next, Cond.instanceMethod yX3_next, Cond.selects RX3 yX3_next yX3_next, Cond.initialized RX3, Cond.code yX3_next cX3_next 2 (some .int), Cond.fieldLink RX3 50 "BridgeBellsModel$State" "code" "I", Cond.fieldLink RX3 53 "BridgeBellsModel$State" "latest" "I", Cond.methodLink RX3 72 yX3_first, Cond.instanceMethod yX3_first]
def wsX3_pass_r2 : List Cond := [Cond.selects RX3 yX3_first yX3_first, Cond.code yX3_first cX3_first 3 (some .int), Cond.methodLink RX3 90 yX3_serve, Cond.instanceMethod yX3_serve, Cond.selects RX3 yX3_serve yX3_serve, Cond.code yX3_serve cX3_serve 3 none, Cond.fieldLink RX3 44 "BridgeBellsModel$State" "angle" "I", Cond.methodLink RX3 79 yX3_speed, Cond.instanceMethod yX3_speed, Cond.selects RX3 yX3_speed yX3_speed, Cond.code yX3_speed cX3_speed 3 (some .int), Cond.fieldLink RX3 15 "BridgeBellsModel$State" "poise" "I"]
def wsX3_pass : List Cond := .code yX3_pass cX3_pass 3 none :: ((wsX3_pass_r1 ++ wsX3_pass_r2) ++ wsX30 ++ wsX40)
def wsX3_pass__r1 : List Cond := [Cond.methodLink RX3 97 yX3_pass, Cond.instanceMethod yX3_pass, Cond.selects RX3 yX3_pass yX3_pass, Cond.initialized RX3, Cond.code yX3_pass cX3_pass 3 none, Cond.fieldLink RX3 19 "BridgeBellsModel$State" "passer" "I", Cond.fieldLink RX3 29 "BridgeBellsModel$State" "left" "[I", Cond.fieldLink RX3 22 "BridgeBellsModel$State" "is" "[I", Cond.fieldLink RX3 32 "BridgeBellsModel$State" "when" "[I", Cond.fieldLink RX3 41 "BridgeBellsModel$State" "minute" "I", Cond.fieldLink RX3 3 "BridgeBellsModel$State" "this$0" "LBridgeBellsModel;", Cond.fieldLink RX3 26 "BridgeBellsModel$State" "waited" "[I", Cond.fieldLink RX3 47 "BridgeBellsModel$State" "ice" "I", Cond.methodLink RX3 83 Lib.Math.min.name, Cond.static Lib.Math.min.name, Cond.initialized "java/lang/Math", Cond.code Lib.Math.min.name Lib.Math.min.code 2 (some .int), Cond.methodLink RX3 60 Lib.Math.max.name, Cond.static Lib.Math.max.name, Cond.code Lib.Math.max.name Lib.Math.max.code 2 (some .int), Cond.methodLink RX3 86 yX3_next, Cond.instanceMethod yX3_next, Cond.selects RX3 yX3_next yX3_next, Cond.code yX3_next cX3_next 2 (some .int)]
def wsX3_pass__r2 : List Cond := [Cond.fieldLink RX3 50 "BridgeBellsModel$State" "code" "I", Cond.fieldLink RX3 53 "BridgeBellsModel$State" "latest" "I", Cond.methodLink RX3 72 yX3_first, Cond.instanceMethod yX3_first, Cond.selects RX3 yX3_first yX3_first, Cond.code yX3_first cX3_first 3 (some .int), Cond.methodLink RX3 90 yX3_serve, Cond.instanceMethod yX3_serve, Cond.selects RX3 yX3_serve yX3_serve, Cond.code yX3_serve cX3_serve 3 none, Cond.fieldLink RX3 44 "BridgeBellsModel$State" "angle" "I", Cond.methodLink RX3 79 yX3_speed, Cond.instanceMethod yX3_speed, Cond.selects RX3 yX3_speed yX3_speed, Cond.code yX3_speed cX3_speed 3 (some .int), Cond.fieldLink RX3 15 "BridgeBellsModel$State" "poise" "I"]
def wsX3_pass_ : List Cond := .code yX3_pass_ cX3_pass_ 3 none :: ((wsX3_pass__r1 ++ wsX3_pass__r2) ++ wsX30 ++ wsX40)
def wsX3_are : List Cond := .code yX3_are cX3_are 5 (some .int) :: ([.fieldLink RX3 3 "BridgeBellsModel$State" "this$0" "LBridgeBellsModel;", .fieldLink RX3 22 "BridgeBellsModel$State" "is" "[I"] ++ wsX30 ++ wsX40)
def wsX3_sumWaited : List Cond := .code yX3_sumWaited cX3_sumWaited 3 (some .int) :: ([.fieldLink RX3 3 "BridgeBellsModel$State" "this$0" "LBridgeBellsModel;", .fieldLink RX3 26 "BridgeBellsModel$State" "waited" "[I"] ++ wsX30 ++ wsX40)
def wsX3_counted_r1 : List Cond := [Cond.fieldLink RX3 41 "BridgeBellsModel$State" "minute" "I", Cond.fieldLink RX3 44 "BridgeBellsModel$State" "angle" "I", Cond.fieldLink RX3 15 "BridgeBellsModel$State" "poise" "I", Cond.fieldLink RX3 47 "BridgeBellsModel$State" "ice" "I", Cond.fieldLink RX3 50 "BridgeBellsModel$State" "code" "I", Cond.fieldLink RX3 3 "BridgeBellsModel$State" "this$0" "LBridgeBellsModel;", Cond.fieldLink RX3 19 "BridgeBellsModel$State" "passer" "I", Cond.methodLink RX3 100 yX3_are, Cond.instanceMethod yX3_are, Cond.selects RX3 yX3_are yX3_are, Cond.initialized RX3, Cond.code yX3_are cX3_are 5 (some .int), Cond.fieldLink RX3 22 "BridgeBellsModel$State" "is" "[I", Cond.methodLink RX3 103 yX3_sumWaited, Cond.instanceMethod yX3_sumWaited, Cond.selects RX3 yX3_sumWaited yX3_sumWaited, Cond.code yX3_sumWaited cX3_sumWaited 3 (some .int), Cond.fieldLink RX3 26 "BridgeBellsModel$State" "waited" "[I", Cond.methodLink RX3 86 yX3_next, Cond.instanceMethod yX3_next, Cond.selects RX3 yX3_next yX3_next, Cond.code yX3_next cX3_next 2 (some .int), Cond.fieldLink RX3 53 "BridgeBellsModel$State" "latest" "I", Cond.methodLink RX3 72 yX3_first]
def wsX3_counted_r2 : List Cond := [Cond.instanceMethod yX3_first, Cond.selects RX3 yX3_first yX3_first, Cond.code yX3_first cX3_first 3 (some .int)]
def wsX3_counted : List Cond := .code yX3_counted cX3_counted 2 (some .int) :: ((wsX3_counted_r1 ++ wsX3_counted_r2) ++ wsX30 ++ wsX40)
def wsX4_init : List Cond := .code yX4_init cX4_init 1 none :: ([.methodLink RX4 1 objectInit, .instanceMethod objectInit, .code objectInit ⟨#[0xb1]⟩ 1 none, .arrayClass .int, .fieldLink RX4 9 "BridgeBellsModel" "isBarge" "[I", .fieldLink RX4 13 "BridgeBellsModel" "needs" "[I", .fieldLink RX4 16 "BridgeBellsModel" "came" "[I", .fieldLink RX4 19 "BridgeBellsModel" "cold" "[I", .classLink RX4 22 RX3, .instantiable RX3 12, .initialized RX3, .fieldLink RX4 27 "BridgeBellsModel" "s" "LBridgeBellsModel$State;", .fieldLink RX4 31 "BridgeBellsModel" "ahead" "LBridgeBellsModel$State;", .instanceMethod yX3_init, .code yX3_init cX3_init 2 none, .fieldLink RX3 3 "BridgeBellsModel$State" "this$0" "LBridgeBellsModel;", .methodLink RX3 9 objectInit, .fieldLink RX3 15 "BridgeBellsModel$State" "poise" "I", .fieldLink RX3 19 "BridgeBellsModel$State" "passer" "I", .fieldLink RX3 22 "BridgeBellsModel$State" "is" "[I", .fieldLink RX3 26 "BridgeBellsModel$State" "waited" "[I", .fieldLink RX3 29 "BridgeBellsModel$State" "left" "[I", .fieldLink RX3 32 "BridgeBellsModel$State" "when" "[I"] ++ wsX40 ++ wsX30)
def wsX4_thrown : List Cond := .code yX4_thrown cX4_thrown 1 (some .int) :: ([.fieldLink RX4 34 "BridgeBellsModel" "thrown" "I"] ++ wsX40)
def wsX4_no : List Cond := .code yX4_no cX4_no 2 (some .int) :: ([.fieldLink RX4 34 "BridgeBellsModel" "thrown" "I"] ++ wsX40)
def wsX4_isIn : List Cond := .code yX4_isIn cX4_isIn 3 (some .boolean) :: ([])
def wsX4_isTraveller : List Cond := .code yX4_isTraveller cX4_isTraveller 2 (some .boolean) :: ([.fieldLink RX4 38 "BridgeBellsModel" "travellers" "I", .methodLink RX4 41 yX4_isIn, .static yX4_isIn, .initialized RX4, .code yX4_isIn cX4_isIn 3 (some .boolean)] ++ wsX40)
def wsX4_come : List Cond := .code yX4_come cX4_come 3 (some .int) :: ([.fieldLink RX4 34 "BridgeBellsModel" "thrown" "I", .fieldLink RX4 38 "BridgeBellsModel" "travellers" "I", .fieldLink RX4 9 "BridgeBellsModel" "isBarge" "[I", .fieldLink RX4 13 "BridgeBellsModel" "needs" "[I", .fieldLink RX4 16 "BridgeBellsModel" "came" "[I", .fieldLink RX4 27 "BridgeBellsModel" "s" "LBridgeBellsModel$State;", .methodLink RX4 41 yX4_isIn, .static yX4_isIn, .initialized RX4, .code yX4_isIn cX4_isIn 3 (some .boolean), .methodLink RX4 45 yX4_no, .instanceMethod yX4_no, .selects RX4 yX4_no yX4_no, .code yX4_no cX4_no 2 (some .int)] ++ wsX40 ++ wsX30)
def wsX4_leave : List Cond := .code yX4_leave cX4_leave 2 (some .int) :: ([.fieldLink RX4 34 "BridgeBellsModel" "thrown" "I", .fieldLink RX4 27 "BridgeBellsModel" "s" "LBridgeBellsModel$State;", .methodLink RX4 55 yX4_isTraveller, .instanceMethod yX4_isTraveller, .selects RX4 yX4_isTraveller yX4_isTraveller, .initialized RX4, .code yX4_isTraveller cX4_isTraveller 2 (some .boolean), .fieldLink RX4 38 "BridgeBellsModel" "travellers" "I", .methodLink RX4 41 yX4_isIn, .static yX4_isIn, .code yX4_isIn cX4_isIn 3 (some .boolean), .methodLink RX4 45 yX4_no, .instanceMethod yX4_no, .selects RX4 yX4_no yX4_no, .code yX4_no cX4_no 2 (some .int)] ++ wsX40 ++ wsX30)
def wsX4_ring : List Cond := .code yX4_ring cX4_ring 3 (some .int) :: ([.fieldLink RX4 34 "BridgeBellsModel" "thrown" "I", .fieldLink RX4 27 "BridgeBellsModel" "s" "LBridgeBellsModel$State;", .methodLink RX4 41 yX4_isIn, .static yX4_isIn, .initialized RX4, .code yX4_isIn cX4_isIn 3 (some .boolean), .methodLink RX4 45 yX4_no, .instanceMethod yX4_no, .selects RX4 yX4_no yX4_no, .code yX4_no cX4_no 2 (some .int)] ++ wsX40 ++ wsX30)
def wsX4_poise : List Cond := .code yX4_poise cX4_poise 3 (some .int) :: ([.fieldLink RX4 34 "BridgeBellsModel" "thrown" "I", .fieldLink RX4 27 "BridgeBellsModel" "s" "LBridgeBellsModel$State;", .methodLink RX4 41 yX4_isIn, .static yX4_isIn, .initialized RX4, .code yX4_isIn cX4_isIn 3 (some .boolean), .methodLink RX4 45 yX4_no, .instanceMethod yX4_no, .selects RX4 yX4_no yX4_no, .code yX4_no cX4_no 2 (some .int)] ++ wsX40 ++ wsX30)
def wsX4_setCold : List Cond := .code yX4_setCold cX4_setCold 4 (some .int) :: ([.fieldLink RX4 34 "BridgeBellsModel" "thrown" "I", .fieldLink RX4 19 "BridgeBellsModel" "cold" "[I", .methodLink RX4 41 yX4_isIn, .static yX4_isIn, .initialized RX4, .code yX4_isIn cX4_isIn 3 (some .boolean), .methodLink RX4 45 yX4_no, .instanceMethod yX4_no, .selects RX4 yX4_no yX4_no, .code yX4_no cX4_no 2 (some .int)] ++ wsX40)
def wsX4_crack : List Cond := .code yX4_crack cX4_crack 1 (some .int) :: ([.fieldLink RX4 34 "BridgeBellsModel" "thrown" "I", .fieldLink RX4 27 "BridgeBellsModel" "s" "LBridgeBellsModel$State;", .methodLink RX4 77 Lib.Math.max.name, .static Lib.Math.max.name, .initialized "java/lang/Math", .code Lib.Math.max.name Lib.Math.max.code 2 (some .int)] ++ wsX40 ++ wsX30)
def wsX4_told : List Cond := .code yX4_told cX4_told 4 (some .int) :: ([.arrayClass .int, .fieldLink RX4 9 "BridgeBellsModel" "isBarge" "[I", .fieldLink RX4 13 "BridgeBellsModel" "needs" "[I", .fieldLink RX4 27 "BridgeBellsModel" "s" "LBridgeBellsModel$State;", .fieldLink RX4 16 "BridgeBellsModel" "came" "[I"] ++ wsX40 ++ wsX30)
def wsX4_traveller : List Cond := .code yX4_traveller cX4_traveller 3 (some .int) :: ([.fieldLink RX4 34 "BridgeBellsModel" "thrown" "I", .methodLink RX4 55 yX4_isTraveller, .instanceMethod yX4_isTraveller, .selects RX4 yX4_isTraveller yX4_isTraveller, .initialized RX4, .code yX4_isTraveller cX4_isTraveller 2 (some .boolean), .fieldLink RX4 38 "BridgeBellsModel" "travellers" "I", .methodLink RX4 41 yX4_isIn, .static yX4_isIn, .code yX4_isIn cX4_isIn 3 (some .boolean), .methodLink RX4 86 yX4_told, .instanceMethod yX4_told, .selects RX4 yX4_told yX4_told, .code yX4_told cX4_told 4 (some .int), .arrayClass .int, .fieldLink RX4 9 "BridgeBellsModel" "isBarge" "[I", .fieldLink RX4 13 "BridgeBellsModel" "needs" "[I", .fieldLink RX4 27 "BridgeBellsModel" "s" "LBridgeBellsModel$State;", .fieldLink RX4 16 "BridgeBellsModel" "came" "[I", .methodLink RX4 45 yX4_no, .instanceMethod yX4_no, .selects RX4 yX4_no yX4_no, .code yX4_no cX4_no 2 (some .int)] ++ wsX40 ++ wsX30)
def wsX4_count_r1 : List Cond := [Cond.fieldLink RX4 34 "BridgeBellsModel" "thrown" "I", Cond.fieldLink RX4 27 "BridgeBellsModel" "s" "LBridgeBellsModel$State;", Cond.methodLink RX4 41 yX4_isIn, Cond.static yX4_isIn, Cond.initialized RX4, Cond.code yX4_isIn cX4_isIn 3 (some .boolean), Cond.methodLink RX4 89 yX3_counted, Cond.instanceMethod yX3_counted, Cond.selects RX3 yX3_counted yX3_counted, Cond.initialized RX3, Cond.code yX3_counted cX3_counted 2 (some .int), Cond.fieldLink RX3 41 "BridgeBellsModel$State" "minute" "I", Cond.fieldLink RX3 44 "BridgeBellsModel$State" "angle" "I", Cond.fieldLink RX3 15 "BridgeBellsModel$State" "poise" "I", Cond.fieldLink RX3 47 "BridgeBellsModel$State" "ice" "I", Cond.fieldLink RX3 50 "BridgeBellsModel$State" "code" "I", Cond.fieldLink RX3 3 "BridgeBellsModel$State" "this$0" "LBridgeBellsModel;", Cond.fieldLink RX3 19 "BridgeBellsModel$State" "passer" "I", Cond.methodLink RX3 100 yX3_are, Cond.instanceMethod yX3_are, Cond.selects RX3 yX3_are yX3_are, Cond.code yX3_are cX3_are 5 (some .int), Cond.fieldLink RX3 22 "BridgeBellsModel$State" "is" "[I", Cond.methodLink RX3 103 yX3_sumWaited]
def wsX4_count_r2 : List Cond := [Cond.instanceMethod yX3_sumWaited, Cond.selects RX3 yX3_sumWaited yX3_sumWaited, Cond.code yX3_sumWaited cX3_sumWaited 3 (some .int), Cond.fieldLink RX3 26 "BridgeBellsModel$State" "waited" "[I", Cond.methodLink RX3 86 yX3_next, Cond.instanceMethod yX3_next, Cond.selects RX3 yX3_next yX3_next, Cond.code yX3_next cX3_next 2 (some .int), Cond.fieldLink RX3 53 "BridgeBellsModel$State" "latest" "I", Cond.methodLink RX3 72 yX3_first, Cond.instanceMethod yX3_first, Cond.selects RX3 yX3_first yX3_first, Cond.code yX3_first cX3_first 3 (some .int), Cond.methodLink RX4 45 yX4_no, Cond.instanceMethod yX4_no, Cond.selects RX4 yX4_no yX4_no, Cond.code yX4_no cX4_no 2 (some .int)]
def wsX4_count : List Cond := .code yX4_count cX4_count 2 (some .int) :: ((wsX4_count_r1 ++ wsX4_count_r2) ++ wsX40 ++ wsX30)
def wsX4_speed : List Cond := .code yX4_speed cX4_speed 2 (some .int) :: ([.fieldLink RX4 34 "BridgeBellsModel" "thrown" "I", .fieldLink RX4 27 "BridgeBellsModel" "s" "LBridgeBellsModel$State;", .methodLink RX4 92 yX3_speed, .instanceMethod yX3_speed, .selects RX3 yX3_speed yX3_speed, .initialized RX3, .code yX3_speed cX3_speed 3 (some .int), .fieldLink RX3 15 "BridgeBellsModel$State" "poise" "I", .fieldLink RX3 47 "BridgeBellsModel$State" "ice" "I", .methodLink RX3 60 Lib.Math.max.name, .static Lib.Math.max.name, .initialized "java/lang/Math", .code Lib.Math.max.name Lib.Math.max.code 2 (some .int)] ++ wsX40 ++ wsX30)
def wsX4_pass_r1 : List Cond := [Cond.fieldLink RX4 34 "BridgeBellsModel" "thrown" "I", Cond.fieldLink RX4 27 "BridgeBellsModel" "s" "LBridgeBellsModel$State;", Cond.methodLink RX4 41 yX4_isIn, Cond.static yX4_isIn, Cond.initialized RX4, Cond.code yX4_isIn cX4_isIn 3 (some .boolean), Cond.methodLink RX4 45 yX4_no, Cond.instanceMethod yX4_no, Cond.selects RX4 yX4_no yX4_no, Cond.code yX4_no cX4_no 2 (some .int), Cond.methodLink RX4 96 yX3_are, Cond.instanceMethod yX3_are, Cond.selects RX3 yX3_are yX3_are, Cond.initialized RX3, Cond.code yX3_are cX3_are 5 (some .int), Cond.fieldLink RX3 3 "BridgeBellsModel$State" "this$0" "LBridgeBellsModel;", Cond.fieldLink RX3 22 "BridgeBellsModel$State" "is" "[I", Cond.methodLink RX4 99 yX3_pass_, Cond.instanceMethod yX3_pass_, Cond.selects RX3 yX3_pass_ yX3_pass_, Cond.code yX3_pass_ cX3_pass_ 3 none, Cond.methodLink RX3 97 yX3_pass, Cond.instanceMethod yX3_pass, Cond.selects RX3 yX3_pass yX3_pass]
def wsX4_pass_r2 : List Cond := [Cond.code yX3_pass cX3_pass 3 none, Cond.fieldLink RX3 19 "BridgeBellsModel$State" "passer" "I", Cond.fieldLink RX3 29 "BridgeBellsModel$State" "left" "[I", Cond.fieldLink RX3 32 "BridgeBellsModel$State" "when" "[I", Cond.fieldLink RX3 41 "BridgeBellsModel$State" "minute" "I", Cond.fieldLink RX3 26 "BridgeBellsModel$State" "waited" "[I", Cond.fieldLink RX3 47 "BridgeBellsModel$State" "ice" "I", Cond.methodLink RX3 83 Lib.Math.min.name, Cond.static Lib.Math.min.name, Cond.initialized "java/lang/Math", Cond.code Lib.Math.min.name Lib.Math.min.code 2 (some .int), Cond.methodLink RX3 60 Lib.Math.max.name, Cond.static Lib.Math.max.name, Cond.code Lib.Math.max.name Lib.Math.max.code 2 (some .int), Cond.methodLink RX3 86 yX3_next, Cond.instanceMethod yX3_next, Cond.selects RX3 yX3_next yX3_next, Cond.code yX3_next cX3_next 2 (some .int), Cond.fieldLink RX3 50 "BridgeBellsModel$State" "code" "I", Cond.fieldLink RX3 53 "BridgeBellsModel$State" "latest" "I", Cond.methodLink RX3 72 yX3_first, Cond.instanceMethod yX3_first, Cond.selects RX3 yX3_first yX3_first, Cond.code yX3_first cX3_first 3 (some .int)]
def wsX4_pass_r3 : List Cond := [Cond.methodLink RX3 90 yX3_serve, Cond.instanceMethod yX3_serve, Cond.selects RX3 yX3_serve yX3_serve, Cond.code yX3_serve cX3_serve 3 none, Cond.fieldLink RX3 44 "BridgeBellsModel$State" "angle" "I", Cond.methodLink RX3 79 yX3_speed, Cond.instanceMethod yX3_speed, Cond.selects RX3 yX3_speed yX3_speed, Cond.code yX3_speed cX3_speed 3 (some .int), Cond.fieldLink RX3 15 "BridgeBellsModel$State" "poise" "I"]
def wsX4_pass : List Cond := .code yX4_pass cX4_pass 3 (some .int) :: ((wsX4_pass_r1 ++ (wsX4_pass_r2 ++ wsX4_pass_r3)) ++ wsX40 ++ wsX30)
def wsX4_when_r1 : List Cond := [Cond.fieldLink RX4 34 "BridgeBellsModel" "thrown" "I", Cond.fieldLink RX4 31 "BridgeBellsModel" "ahead" "LBridgeBellsModel$State;", Cond.fieldLink RX4 27 "BridgeBellsModel" "s" "LBridgeBellsModel$State;", Cond.methodLink RX4 55 yX4_isTraveller, Cond.instanceMethod yX4_isTraveller, Cond.selects RX4 yX4_isTraveller yX4_isTraveller, Cond.initialized RX4, Cond.code yX4_isTraveller cX4_isTraveller 2 (some .boolean), Cond.fieldLink RX4 38 "BridgeBellsModel" "travellers" "I", Cond.methodLink RX4 41 yX4_isIn, Cond.static yX4_isIn, Cond.code yX4_isIn cX4_isIn 3 (some .boolean), Cond.methodLink RX4 45 yX4_no, Cond.instanceMethod yX4_no, Cond.selects RX4 yX4_no yX4_no, Cond.code yX4_no cX4_no 2 (some .int), Cond.methodLink RX4 103 yX3_become, Cond.instanceMethod yX3_become, Cond.selects RX3 yX3_become yX3_become, Cond.initialized RX3, Cond.code yX3_become cX3_become 2 none, Cond.fieldLink RX3 41 "BridgeBellsModel$State" "minute" "I", Cond.fieldLink RX3 44 "BridgeBellsModel$State" "angle" "I", Cond.fieldLink RX3 15 "BridgeBellsModel$State" "poise" "I"]
def wsX4_when_r2 : List Cond := [Cond.fieldLink RX3 47 "BridgeBellsModel$State" "ice" "I", Cond.fieldLink RX3 50 "BridgeBellsModel$State" "code" "I", Cond.fieldLink RX3 19 "BridgeBellsModel$State" "passer" "I", Cond.fieldLink RX3 53 "BridgeBellsModel$State" "latest" "I", Cond.fieldLink RX3 22 "BridgeBellsModel$State" "is" "[I", Cond.fieldLink RX3 26 "BridgeBellsModel$State" "waited" "[I", Cond.fieldLink RX3 29 "BridgeBellsModel$State" "left" "[I", Cond.fieldLink RX3 32 "BridgeBellsModel$State" "when" "[I", Cond.methodLink RX3 56 yX3_copy, Cond.instanceMethod yX3_copy, Cond.selects RX3 yX3_copy yX3_copy, Cond.code yX3_copy cX3_copy 3 none, Cond.methodLink RX3 35 arraycopyName, Cond.native arraycopyName, Cond.static arraycopyName, Cond.initialized "java/lang/System", Cond.methodLink RX4 107 yX3_pass, Cond.instanceMethod yX3_pass, Cond.selects RX3 yX3_pass yX3_pass, Cond.code yX3_pass cX3_pass 3 none, Cond.fieldLink RX3 3 "BridgeBellsModel$State" "this$0" "LBridgeBellsModel;", Cond.methodLink RX3 83 Lib.Math.min.name, Cond.static Lib.Math.min.name, Cond.initialized "java/lang/Math"]
def wsX4_when_r3 : List Cond := [Cond.code Lib.Math.min.name Lib.Math.min.code 2 (some .int), Cond.methodLink RX3 60 Lib.Math.max.name, Cond.static Lib.Math.max.name, Cond.code Lib.Math.max.name Lib.Math.max.code 2 (some .int), Cond.methodLink RX3 86 yX3_next, Cond.instanceMethod yX3_next, Cond.selects RX3 yX3_next yX3_next, Cond.code yX3_next cX3_next 2 (some .int), Cond.methodLink RX3 72 yX3_first, Cond.instanceMethod yX3_first, Cond.selects RX3 yX3_first yX3_first, Cond.code yX3_first cX3_first 3 (some .int), Cond.methodLink RX3 90 yX3_serve, Cond.instanceMethod yX3_serve, Cond.selects RX3 yX3_serve yX3_serve, Cond.code yX3_serve cX3_serve 3 none, Cond.methodLink RX3 79 yX3_speed, Cond.instanceMethod yX3_speed, Cond.selects RX3 yX3_speed yX3_speed, Cond.code yX3_speed cX3_speed 3 (some .int)]
def wsX4_when : List Cond := .code yX4_when cX4_when 3 (some .int) :: ((wsX4_when_r1 ++ (wsX4_when_r2 ++ wsX4_when_r3)) ++ wsX40 ++ wsX30)
def wsX4_foresee_r1 : List Cond := [Cond.fieldLink RX4 34 "BridgeBellsModel" "thrown" "I", Cond.fieldLink RX4 31 "BridgeBellsModel" "ahead" "LBridgeBellsModel$State;", Cond.fieldLink RX4 27 "BridgeBellsModel" "s" "LBridgeBellsModel$State;", Cond.methodLink RX4 41 yX4_isIn, Cond.static yX4_isIn, Cond.initialized RX4, Cond.code yX4_isIn cX4_isIn 3 (some .boolean), Cond.methodLink RX4 45 yX4_no, Cond.instanceMethod yX4_no, Cond.selects RX4 yX4_no yX4_no, Cond.code yX4_no cX4_no 2 (some .int), Cond.methodLink RX4 103 yX3_become, Cond.instanceMethod yX3_become, Cond.selects RX3 yX3_become yX3_become, Cond.initialized RX3, Cond.code yX3_become cX3_become 2 none, Cond.fieldLink RX3 41 "BridgeBellsModel$State" "minute" "I", Cond.fieldLink RX3 44 "BridgeBellsModel$State" "angle" "I", Cond.fieldLink RX3 15 "BridgeBellsModel$State" "poise" "I", Cond.fieldLink RX3 47 "BridgeBellsModel$State" "ice" "I", Cond.fieldLink RX3 50 "BridgeBellsModel$State" "code" "I", Cond.fieldLink RX3 19 "BridgeBellsModel$State" "passer" "I", Cond.fieldLink RX3 53 "BridgeBellsModel$State" "latest" "I", Cond.fieldLink RX3 22 "BridgeBellsModel$State" "is" "[I"]
def wsX4_foresee_r2 : List Cond := [Cond.fieldLink RX3 26 "BridgeBellsModel$State" "waited" "[I", Cond.fieldLink RX3 29 "BridgeBellsModel$State" "left" "[I", Cond.fieldLink RX3 32 "BridgeBellsModel$State" "when" "[I", Cond.methodLink RX3 56 yX3_copy, Cond.instanceMethod yX3_copy, Cond.selects RX3 yX3_copy yX3_copy, Cond.code yX3_copy cX3_copy 3 none, Cond.methodLink RX3 35 arraycopyName, Cond.native arraycopyName, Cond.static arraycopyName, Cond.initialized "java/lang/System", Cond.methodLink RX4 99 yX3_pass_, Cond.instanceMethod yX3_pass_, Cond.selects RX3 yX3_pass_ yX3_pass_, Cond.code yX3_pass_ cX3_pass_ 3 none, Cond.methodLink RX3 97 yX3_pass, Cond.instanceMethod yX3_pass, Cond.selects RX3 yX3_pass yX3_pass, Cond.code yX3_pass cX3_pass 3 none, Cond.fieldLink RX3 3 "BridgeBellsModel$State" "this$0" "LBridgeBellsModel;", Cond.methodLink RX3 83 Lib.Math.min.name, Cond.static Lib.Math.min.name, Cond.initialized "java/lang/Math", Cond.code Lib.Math.min.name Lib.Math.min.code 2 (some .int)]
def wsX4_foresee_r3 : List Cond := [Cond.methodLink RX3 60 Lib.Math.max.name, Cond.static Lib.Math.max.name, Cond.code Lib.Math.max.name Lib.Math.max.code 2 (some .int), Cond.methodLink RX3 86 yX3_next, Cond.instanceMethod yX3_next, Cond.selects RX3 yX3_next yX3_next, Cond.code yX3_next cX3_next 2 (some .int), Cond.methodLink RX3 72 yX3_first, Cond.instanceMethod yX3_first, Cond.selects RX3 yX3_first yX3_first, Cond.code yX3_first cX3_first 3 (some .int), Cond.methodLink RX3 90 yX3_serve, Cond.instanceMethod yX3_serve, Cond.selects RX3 yX3_serve yX3_serve, Cond.code yX3_serve cX3_serve 3 none, Cond.methodLink RX3 79 yX3_speed, Cond.instanceMethod yX3_speed, Cond.selects RX3 yX3_speed yX3_speed, Cond.code yX3_speed cX3_speed 3 (some .int), Cond.methodLink RX4 96 yX3_are, Cond.instanceMethod yX3_are, Cond.selects RX3 yX3_are yX3_are, Cond.code yX3_are cX3_are 5 (some .int), Cond.methodLink RX4 109 yX3_sumWaited]
def wsX4_foresee_r4 : List Cond := [Cond.instanceMethod yX3_sumWaited, Cond.selects RX3 yX3_sumWaited yX3_sumWaited, Cond.code yX3_sumWaited cX3_sumWaited 3 (some .int)]
def wsX4_foresee : List Cond := .code yX4_foresee cX4_foresee 3 (some .int) :: ((wsX4_foresee_r1 ++ (wsX4_foresee_r2 ++ (wsX4_foresee_r3 ++ wsX4_foresee_r4))) ++ wsX40 ++ wsX30)
def wsX4_best_r1 : List Cond := [Cond.fieldLink RX4 31 "BridgeBellsModel" "ahead" "LBridgeBellsModel$State;", Cond.fieldLink RX4 27 "BridgeBellsModel" "s" "LBridgeBellsModel$State;", Cond.methodLink RX4 103 yX3_become, Cond.instanceMethod yX3_become, Cond.selects RX3 yX3_become yX3_become, Cond.initialized RX3, Cond.code yX3_become cX3_become 2 none, Cond.fieldLink RX3 41 "BridgeBellsModel$State" "minute" "I", Cond.fieldLink RX3 44 "BridgeBellsModel$State" "angle" "I", Cond.fieldLink RX3 15 "BridgeBellsModel$State" "poise" "I", Cond.fieldLink RX3 47 "BridgeBellsModel$State" "ice" "I", Cond.fieldLink RX3 50 "BridgeBellsModel$State" "code" "I", Cond.fieldLink RX3 19 "BridgeBellsModel$State" "passer" "I", Cond.fieldLink RX3 53 "BridgeBellsModel$State" "latest" "I", Cond.fieldLink RX3 22 "BridgeBellsModel$State" "is" "[I", Cond.fieldLink RX3 26 "BridgeBellsModel$State" "waited" "[I", Cond.fieldLink RX3 29 "BridgeBellsModel$State" "left" "[I", Cond.fieldLink RX3 32 "BridgeBellsModel$State" "when" "[I", Cond.methodLink RX3 56 yX3_copy, Cond.instanceMethod yX3_copy, Cond.selects RX3 yX3_copy yX3_copy, Cond.code yX3_copy cX3_copy 3 none, Cond.methodLink RX3 35 arraycopyName, Cond.native arraycopyName]
def wsX4_best_r2 : List Cond := [Cond.static arraycopyName, Cond.initialized "java/lang/System", Cond.methodLink RX4 99 yX3_pass_, Cond.instanceMethod yX3_pass_, Cond.selects RX3 yX3_pass_ yX3_pass_, Cond.code yX3_pass_ cX3_pass_ 3 none, Cond.methodLink RX3 97 yX3_pass, Cond.instanceMethod yX3_pass, Cond.selects RX3 yX3_pass yX3_pass, Cond.code yX3_pass cX3_pass 3 none, Cond.fieldLink RX3 3 "BridgeBellsModel$State" "this$0" "LBridgeBellsModel;", Cond.methodLink RX3 83 Lib.Math.min.name, Cond.static Lib.Math.min.name, Cond.initialized "java/lang/Math", Cond.code Lib.Math.min.name Lib.Math.min.code 2 (some .int), Cond.methodLink RX3 60 Lib.Math.max.name, Cond.static Lib.Math.max.name, Cond.code Lib.Math.max.name Lib.Math.max.code 2 (some .int), Cond.methodLink RX3 86 yX3_next, Cond.instanceMethod yX3_next, Cond.selects RX3 yX3_next yX3_next, Cond.code yX3_next cX3_next 2 (some .int), Cond.methodLink RX3 72 yX3_first, Cond.instanceMethod yX3_first]
def wsX4_best_r3 : List Cond := [Cond.selects RX3 yX3_first yX3_first, Cond.code yX3_first cX3_first 3 (some .int), Cond.methodLink RX3 90 yX3_serve, Cond.instanceMethod yX3_serve, Cond.selects RX3 yX3_serve yX3_serve, Cond.code yX3_serve cX3_serve 3 none, Cond.methodLink RX3 79 yX3_speed, Cond.instanceMethod yX3_speed, Cond.selects RX3 yX3_speed yX3_speed, Cond.code yX3_speed cX3_speed 3 (some .int), Cond.methodLink RX4 109 yX3_sumWaited, Cond.instanceMethod yX3_sumWaited, Cond.selects RX3 yX3_sumWaited yX3_sumWaited, Cond.code yX3_sumWaited cX3_sumWaited 3 (some .int)]
def wsX4_best : List Cond := .code yX4_best cX4_best 8 (some .int) :: ((wsX4_best_r1 ++ (wsX4_best_r2 ++ wsX4_best_r3)) ++ wsX40 ++ wsX30)
def wsX4_bestCode_r1 : List Cond := [Cond.fieldLink RX4 34 "BridgeBellsModel" "thrown" "I", Cond.methodLink RX4 41 yX4_isIn, Cond.static yX4_isIn, Cond.initialized RX4, Cond.code yX4_isIn cX4_isIn 3 (some .boolean), Cond.methodLink RX4 113 yX4_best, Cond.instanceMethod yX4_best, Cond.selects RX4 yX4_best yX4_best, Cond.code yX4_best cX4_best 8 (some .int), Cond.fieldLink RX4 31 "BridgeBellsModel" "ahead" "LBridgeBellsModel$State;", Cond.fieldLink RX4 27 "BridgeBellsModel" "s" "LBridgeBellsModel$State;", Cond.methodLink RX4 103 yX3_become, Cond.instanceMethod yX3_become, Cond.selects RX3 yX3_become yX3_become, Cond.initialized RX3, Cond.code yX3_become cX3_become 2 none, Cond.fieldLink RX3 41 "BridgeBellsModel$State" "minute" "I", Cond.fieldLink RX3 44 "BridgeBellsModel$State" "angle" "I", Cond.fieldLink RX3 15 "BridgeBellsModel$State" "poise" "I", Cond.fieldLink RX3 47 "BridgeBellsModel$State" "ice" "I", Cond.fieldLink RX3 50 "BridgeBellsModel$State" "code" "I", Cond.fieldLink RX3 19 "BridgeBellsModel$State" "passer" "I", Cond.fieldLink RX3 53 "BridgeBellsModel$State" "latest" "I", Cond.fieldLink RX3 22 "BridgeBellsModel$State" "is" "[I"]
def wsX4_bestCode_r2 : List Cond := [Cond.fieldLink RX3 26 "BridgeBellsModel$State" "waited" "[I", Cond.fieldLink RX3 29 "BridgeBellsModel$State" "left" "[I", Cond.fieldLink RX3 32 "BridgeBellsModel$State" "when" "[I", Cond.methodLink RX3 56 yX3_copy, Cond.instanceMethod yX3_copy, Cond.selects RX3 yX3_copy yX3_copy, Cond.code yX3_copy cX3_copy 3 none, Cond.methodLink RX3 35 arraycopyName, Cond.native arraycopyName, Cond.static arraycopyName, Cond.initialized "java/lang/System", Cond.methodLink RX4 99 yX3_pass_, Cond.instanceMethod yX3_pass_, Cond.selects RX3 yX3_pass_ yX3_pass_, Cond.code yX3_pass_ cX3_pass_ 3 none, Cond.methodLink RX3 97 yX3_pass, Cond.instanceMethod yX3_pass, Cond.selects RX3 yX3_pass yX3_pass, Cond.code yX3_pass cX3_pass 3 none, Cond.fieldLink RX3 3 "BridgeBellsModel$State" "this$0" "LBridgeBellsModel;", Cond.methodLink RX3 83 Lib.Math.min.name, Cond.static Lib.Math.min.name, Cond.initialized "java/lang/Math", Cond.code Lib.Math.min.name Lib.Math.min.code 2 (some .int)]
def wsX4_bestCode_r3 : List Cond := [Cond.methodLink RX3 60 Lib.Math.max.name, Cond.static Lib.Math.max.name, Cond.code Lib.Math.max.name Lib.Math.max.code 2 (some .int), Cond.methodLink RX3 86 yX3_next, Cond.instanceMethod yX3_next, Cond.selects RX3 yX3_next yX3_next, Cond.code yX3_next cX3_next 2 (some .int), Cond.methodLink RX3 72 yX3_first, Cond.instanceMethod yX3_first, Cond.selects RX3 yX3_first yX3_first, Cond.code yX3_first cX3_first 3 (some .int), Cond.methodLink RX3 90 yX3_serve, Cond.instanceMethod yX3_serve, Cond.selects RX3 yX3_serve yX3_serve, Cond.code yX3_serve cX3_serve 3 none, Cond.methodLink RX3 79 yX3_speed, Cond.instanceMethod yX3_speed, Cond.selects RX3 yX3_speed yX3_speed, Cond.code yX3_speed cX3_speed 3 (some .int), Cond.methodLink RX4 109 yX3_sumWaited, Cond.instanceMethod yX3_sumWaited, Cond.selects RX3 yX3_sumWaited yX3_sumWaited, Cond.code yX3_sumWaited cX3_sumWaited 3 (some .int), Cond.methodLink RX4 45 yX4_no]
def wsX4_bestCode_r4 : List Cond := [Cond.instanceMethod yX4_no, Cond.selects RX4 yX4_no yX4_no, Cond.code yX4_no cX4_no 2 (some .int)]
def wsX4_bestCode : List Cond := .code yX4_bestCode cX4_bestCode 2 (some .int) :: ((wsX4_bestCode_r1 ++ (wsX4_bestCode_r2 ++ (wsX4_bestCode_r3 ++ wsX4_bestCode_r4))) ++ wsX40 ++ wsX30)
def wsX4_bestPoise_r1 : List Cond := [Cond.fieldLink RX4 34 "BridgeBellsModel" "thrown" "I", Cond.methodLink RX4 41 yX4_isIn, Cond.static yX4_isIn, Cond.initialized RX4, Cond.code yX4_isIn cX4_isIn 3 (some .boolean), Cond.methodLink RX4 113 yX4_best, Cond.instanceMethod yX4_best, Cond.selects RX4 yX4_best yX4_best, Cond.code yX4_best cX4_best 8 (some .int), Cond.fieldLink RX4 31 "BridgeBellsModel" "ahead" "LBridgeBellsModel$State;", Cond.fieldLink RX4 27 "BridgeBellsModel" "s" "LBridgeBellsModel$State;", Cond.methodLink RX4 103 yX3_become, Cond.instanceMethod yX3_become, Cond.selects RX3 yX3_become yX3_become, Cond.initialized RX3, Cond.code yX3_become cX3_become 2 none, Cond.fieldLink RX3 41 "BridgeBellsModel$State" "minute" "I", Cond.fieldLink RX3 44 "BridgeBellsModel$State" "angle" "I", Cond.fieldLink RX3 15 "BridgeBellsModel$State" "poise" "I", Cond.fieldLink RX3 47 "BridgeBellsModel$State" "ice" "I", Cond.fieldLink RX3 50 "BridgeBellsModel$State" "code" "I", Cond.fieldLink RX3 19 "BridgeBellsModel$State" "passer" "I", Cond.fieldLink RX3 53 "BridgeBellsModel$State" "latest" "I", Cond.fieldLink RX3 22 "BridgeBellsModel$State" "is" "[I"]
def wsX4_bestPoise_r2 : List Cond := [Cond.fieldLink RX3 26 "BridgeBellsModel$State" "waited" "[I", Cond.fieldLink RX3 29 "BridgeBellsModel$State" "left" "[I", Cond.fieldLink RX3 32 "BridgeBellsModel$State" "when" "[I", Cond.methodLink RX3 56 yX3_copy, Cond.instanceMethod yX3_copy, Cond.selects RX3 yX3_copy yX3_copy, Cond.code yX3_copy cX3_copy 3 none, Cond.methodLink RX3 35 arraycopyName, Cond.native arraycopyName, Cond.static arraycopyName, Cond.initialized "java/lang/System", Cond.methodLink RX4 99 yX3_pass_, Cond.instanceMethod yX3_pass_, Cond.selects RX3 yX3_pass_ yX3_pass_, Cond.code yX3_pass_ cX3_pass_ 3 none, Cond.methodLink RX3 97 yX3_pass, Cond.instanceMethod yX3_pass, Cond.selects RX3 yX3_pass yX3_pass, Cond.code yX3_pass cX3_pass 3 none, Cond.fieldLink RX3 3 "BridgeBellsModel$State" "this$0" "LBridgeBellsModel;", Cond.methodLink RX3 83 Lib.Math.min.name, Cond.static Lib.Math.min.name, Cond.initialized "java/lang/Math", Cond.code Lib.Math.min.name Lib.Math.min.code 2 (some .int)]
def wsX4_bestPoise_r3 : List Cond := [Cond.methodLink RX3 60 Lib.Math.max.name, Cond.static Lib.Math.max.name, Cond.code Lib.Math.max.name Lib.Math.max.code 2 (some .int), Cond.methodLink RX3 86 yX3_next, Cond.instanceMethod yX3_next, Cond.selects RX3 yX3_next yX3_next, Cond.code yX3_next cX3_next 2 (some .int), Cond.methodLink RX3 72 yX3_first, Cond.instanceMethod yX3_first, Cond.selects RX3 yX3_first yX3_first, Cond.code yX3_first cX3_first 3 (some .int), Cond.methodLink RX3 90 yX3_serve, Cond.instanceMethod yX3_serve, Cond.selects RX3 yX3_serve yX3_serve, Cond.code yX3_serve cX3_serve 3 none, Cond.methodLink RX3 79 yX3_speed, Cond.instanceMethod yX3_speed, Cond.selects RX3 yX3_speed yX3_speed, Cond.code yX3_speed cX3_speed 3 (some .int), Cond.methodLink RX4 109 yX3_sumWaited, Cond.instanceMethod yX3_sumWaited, Cond.selects RX3 yX3_sumWaited yX3_sumWaited, Cond.code yX3_sumWaited cX3_sumWaited 3 (some .int), Cond.methodLink RX4 45 yX4_no]
def wsX4_bestPoise_r4 : List Cond := [Cond.instanceMethod yX4_no, Cond.selects RX4 yX4_no yX4_no, Cond.code yX4_no cX4_no 2 (some .int)]
def wsX4_bestPoise : List Cond := .code yX4_bestPoise cX4_bestPoise 2 (some .int) :: ((wsX4_bestPoise_r1 ++ (wsX4_bestPoise_r2 ++ (wsX4_bestPoise_r3 ++ wsX4_bestPoise_r4))) ++ wsX40 ++ wsX30)
def wsX4_mean : List Cond := .code yX4_mean cX4_mean 1 (some .double) :: ([.fieldLink RX4 34 "BridgeBellsModel" "thrown" "I", .fieldLink RX4 38 "BridgeBellsModel" "travellers" "I", .fieldLink RX4 27 "BridgeBellsModel" "s" "LBridgeBellsModel$State;", .methodLink RX4 109 yX3_sumWaited, .instanceMethod yX3_sumWaited, .selects RX3 yX3_sumWaited yX3_sumWaited, .initialized RX3, .code yX3_sumWaited cX3_sumWaited 3 (some .int), .fieldLink RX3 3 "BridgeBellsModel$State" "this$0" "LBridgeBellsModel;", .fieldLink RX3 26 "BridgeBellsModel$State" "waited" "[I"] ++ wsX40 ++ wsX30)
def wsX4_digest_r1 : List Cond := [Cond.fieldLink RX4 34 "BridgeBellsModel" "thrown" "I", Cond.constantLong RX4 117 (1021), Cond.constantLong RX4 119 (31), Cond.fieldLink RX4 27 "BridgeBellsModel" "s" "LBridgeBellsModel$State;", Cond.fieldLink RX4 19 "BridgeBellsModel" "cold" "[I", Cond.fieldLink RX4 38 "BridgeBellsModel" "travellers" "I", Cond.methodLink RX4 89 yX3_counted, Cond.instanceMethod yX3_counted, Cond.selects RX3 yX3_counted yX3_counted, Cond.initialized RX3, Cond.code yX3_counted cX3_counted 2 (some .int), Cond.fieldLink RX3 41 "BridgeBellsModel$State" "minute" "I", Cond.fieldLink RX3 44 "BridgeBellsModel$State" "angle" "I", Cond.fieldLink RX3 15 "BridgeBellsModel$State" "poise" "I", Cond.fieldLink RX3 47 "BridgeBellsModel$State" "ice" "I", Cond.fieldLink RX3 50 "BridgeBellsModel$State" "code" "I", Cond.fieldLink RX3 3 "BridgeBellsModel$State" "this$0" "LBridgeBellsModel;", Cond.fieldLink RX3 19 "BridgeBellsModel$State" "passer" "I", Cond.methodLink RX3 100 yX3_are, Cond.instanceMethod yX3_are, Cond.selects RX3 yX3_are yX3_are, Cond.code yX3_are cX3_are 5 (some .int), Cond.fieldLink RX3 22 "BridgeBellsModel$State" "is" "[I", Cond.methodLink RX3 103 yX3_sumWaited]
def wsX4_digest_r2 : List Cond := [Cond.instanceMethod yX3_sumWaited, Cond.selects RX3 yX3_sumWaited yX3_sumWaited, Cond.code yX3_sumWaited cX3_sumWaited 3 (some .int), Cond.fieldLink RX3 26 "BridgeBellsModel$State" "waited" "[I", Cond.methodLink RX3 86 yX3_next, Cond.instanceMethod yX3_next, Cond.selects RX3 yX3_next yX3_next, Cond.code yX3_next cX3_next 2 (some .int), Cond.fieldLink RX3 53 "BridgeBellsModel$State" "latest" "I", Cond.methodLink RX3 72 yX3_first, Cond.instanceMethod yX3_first, Cond.selects RX3 yX3_first yX3_first, Cond.code yX3_first cX3_first 3 (some .int), Cond.methodLink RX4 86 yX4_told, Cond.instanceMethod yX4_told, Cond.selects RX4 yX4_told yX4_told, Cond.initialized RX4, Cond.code yX4_told cX4_told 4 (some .int), Cond.arrayClass .int, Cond.fieldLink RX4 9 "BridgeBellsModel" "isBarge" "[I", Cond.fieldLink RX4 13 "BridgeBellsModel" "needs" "[I", Cond.fieldLink RX4 16 "BridgeBellsModel" "came" "[I"]
def wsX4_digest : List Cond := .code yX4_digest cX4_digest 5 (some .long) :: ((wsX4_digest_r1 ++ wsX4_digest_r2) ++ wsX40 ++ wsX30)
def wsJ9_max_7cf53 : List Cond := .code yJ9_max_7cf53 cJ9_max_7cf53 2 (some .int) :: ([])
def wsJ9_min_7cf53 : List Cond := .code yJ9_min_7cf53 cJ9_min_7cf53 2 (some .int) :: ([])
def wsL_come_r1 : List Cond := [Cond.classLink RL 13 "java/lang/IllegalArgumentException", Cond.classLink RL 15 "java/lang/IllegalStateException", Cond.methodLink RL 7 yX2_come, Cond.instanceMethod yX2_come, Cond.selects RX2 yX2_come yX2_come, Cond.initialized RX2, Cond.code yX2_come cX2_come 3 (some .int), Cond.classLink RX2 19 "java/lang/IllegalArgumentException", Cond.initialized "java/lang/IllegalArgumentException", Cond.classLink RX2 36 "java/lang/IllegalStateException", Cond.initialized "java/lang/IllegalStateException", Cond.fieldLink RX2 10 "BridgeBells" "bridge" "LBridgeBells$Bridge;", Cond.fieldLink RX2 26 "BridgeBells$Bridge" "travellers" "LBridgeBells$Travellers;", Cond.fieldLink RX2 30 "BridgeBells$Travellers" "number" "I", Cond.fieldLink RX2 41 "BridgeBells$Bridge" "minute" "I", Cond.methodLink RX2 44 yX1_add, Cond.instanceMethod yX1_add, Cond.selects RX1 yX1_add yX1_add, Cond.initialized RX1, Cond.code yX1_add cX1_add 5 (some .int), Cond.fieldLink RX1 9 "BridgeBells$Travellers" "number" "I", Cond.fieldLink RX1 24 "BridgeBells$Travellers" "barge" "[I", Cond.fieldLink RX1 28 "BridgeBells$Travellers" "needs" "[I", Cond.fieldLink RX1 31 "BridgeBells$Travellers" "state" "[I"]
def wsL_come_r2 : List Cond := [Cond.fieldLink RX1 34 "BridgeBells$Travellers" "came" "[I", Cond.fieldLink RX1 37 "BridgeBells$Travellers" "passedIn" "[I", Cond.methodLink RX1 55 yX1_seeWhoWaits, Cond.instanceMethod yX1_seeWhoWaits, Cond.selects RX1 yX1_seeWhoWaits yX1_seeWhoWaits, Cond.code yX1_seeWhoWaits cX1_seeWhoWaits 2 none, Cond.fieldLink RX1 18 "BridgeBells$Travellers" "bargesWaiting" "I", Cond.fieldLink RX1 21 "BridgeBells$Travellers" "cartsWaiting" "I", Cond.fieldLink RX1 43 "BridgeBells$Travellers" "firstBarge" "I", Cond.fieldLink RX1 46 "BridgeBells$Travellers" "firstCart" "I"]
def wsL_come : List Cond := .codeWith yL_come cL_come 5 (some .int) [(0, 10, 13, 13), (0, 10, 17, 15)] :: ((wsL_come_r1 ++ wsL_come_r2) ++ wsX20 ++ wsX00 ++ wsX10 ++ (vx_atS RX2 23 "java/lang/IllegalArgumentException" ["java/lang/RuntimeException", "java/lang/Exception"]).filter goodWord ++ (vx_atS RX2 40 "java/lang/IllegalStateException" ["java/lang/RuntimeException", "java/lang/Exception"]).filter goodWord)
def wsL_leave_r1 : List Cond := [Cond.classLink RL 21 "java/lang/IndexOutOfBoundsException", Cond.classLink RL 15 "java/lang/IllegalStateException", Cond.methodLink RL 17 yX2_leave, Cond.instanceMethod yX2_leave, Cond.selects RX2 yX2_leave yX2_leave, Cond.initialized RX2, Cond.code yX2_leave cX2_leave 2 (some .int), Cond.classLink RX2 52 "java/lang/IndexOutOfBoundsException", Cond.initialized "java/lang/IndexOutOfBoundsException", Cond.classLink RX2 36 "java/lang/IllegalStateException", Cond.initialized "java/lang/IllegalStateException", Cond.fieldLink RX2 10 "BridgeBells" "bridge" "LBridgeBells$Bridge;", Cond.fieldLink RX2 26 "BridgeBells$Bridge" "travellers" "LBridgeBells$Travellers;", Cond.fieldLink RX2 57 "BridgeBells$Travellers" "state" "[I", Cond.fieldLink RX2 41 "BridgeBells$Bridge" "minute" "I", Cond.methodLink RX2 48 yX1_has, Cond.instanceMethod yX1_has, Cond.selects RX1 yX1_has yX1_has, Cond.initialized RX1, Cond.code yX1_has cX1_has 2 (some .boolean), Cond.fieldLink RX1 9 "BridgeBells$Travellers" "number" "I", Cond.methodLink RX2 63 yX1_endWait, Cond.instanceMethod yX1_endWait, Cond.selects RX1 yX1_endWait yX1_endWait]
def wsL_leave_r2 : List Cond := [Cond.code yX1_endWait cX1_endWait 4 none, Cond.fieldLink RX1 31 "BridgeBells$Travellers" "state" "[I", Cond.fieldLink RX1 40 "BridgeBells$Travellers" "waitEnd" "[I", Cond.methodLink RX1 55 yX1_seeWhoWaits, Cond.instanceMethod yX1_seeWhoWaits, Cond.selects RX1 yX1_seeWhoWaits yX1_seeWhoWaits, Cond.code yX1_seeWhoWaits cX1_seeWhoWaits 2 none, Cond.fieldLink RX1 18 "BridgeBells$Travellers" "bargesWaiting" "I", Cond.fieldLink RX1 21 "BridgeBells$Travellers" "cartsWaiting" "I", Cond.fieldLink RX1 43 "BridgeBells$Travellers" "firstBarge" "I", Cond.fieldLink RX1 46 "BridgeBells$Travellers" "firstCart" "I", Cond.fieldLink RX1 24 "BridgeBells$Travellers" "barge" "[I", Cond.methodLink RX2 67 yX1_waited, Cond.instanceMethod yX1_waited, Cond.selects RX1 yX1_waited yX1_waited, Cond.code yX1_waited cX1_waited 4 (some .int), Cond.fieldLink RX1 34 "BridgeBells$Travellers" "came" "[I"]
def wsL_leave : List Cond := .codeWith yL_leave cL_leave 4 (some .int) [(0, 9, 12, 21), (0, 9, 15, 15)] :: ((wsL_leave_r1 ++ wsL_leave_r2) ++ wsX20 ++ wsX00 ++ wsX10 ++ (vx_atS RX2 56 "java/lang/IndexOutOfBoundsException" ["java/lang/RuntimeException", "java/lang/Exception"]).filter goodWord ++ (vx_atS RX2 40 "java/lang/IllegalStateException" ["java/lang/RuntimeException", "java/lang/Exception"]).filter goodWord)
def wsL_ring : List Cond := .codeWith yL_ring cL_ring 4 (some .int) [(0, 9, 12, 13)] :: ([.classLink RL 13 "java/lang/IllegalArgumentException", .methodLink RL 23 yX2_ring, .instanceMethod yX2_ring, .selects RX2 yX2_ring yX2_ring, .initialized RX2, .code yX2_ring cX2_ring 3 (some .int), .classLink RX2 19 "java/lang/IllegalArgumentException", .initialized "java/lang/IllegalArgumentException", .fieldLink RX2 10 "BridgeBells" "bridge" "LBridgeBells$Bridge;", .fieldLink RX2 73 "BridgeBells$Bridge" "code" "I"] ++ wsX20 ++ wsX00 ++ (vx_atS RX2 23 "java/lang/IllegalArgumentException" ["java/lang/RuntimeException", "java/lang/Exception"]).filter goodWord)
def wsL_poise : List Cond := .codeWith yL_poise cL_poise 4 (some .int) [(0, 9, 12, 13), (0, 9, 15, 15)] :: ([.classLink RL 13 "java/lang/IllegalArgumentException", .classLink RL 15 "java/lang/IllegalStateException", .methodLink RL 26 yX2_poise, .instanceMethod yX2_poise, .selects RX2 yX2_poise yX2_poise, .initialized RX2, .code yX2_poise cX2_poise 3 (some .int), .classLink RX2 19 "java/lang/IllegalArgumentException", .initialized "java/lang/IllegalArgumentException", .classLink RX2 36 "java/lang/IllegalStateException", .initialized "java/lang/IllegalStateException", .fieldLink RX2 10 "BridgeBells" "bridge" "LBridgeBells$Bridge;", .fieldLink RX2 78 "BridgeBells$Bridge" "angle" "I", .fieldLink RX2 83 "BridgeBells$Bridge" "counterpoise" "I"] ++ wsX20 ++ wsX00 ++ (vx_atS RX2 23 "java/lang/IllegalArgumentException" ["java/lang/RuntimeException", "java/lang/Exception"]).filter goodWord ++ (vx_atS RX2 40 "java/lang/IllegalStateException" ["java/lang/RuntimeException", "java/lang/Exception"]).filter goodWord)
def wsL_setCold : List Cond := .codeWith yL_setCold cL_setCold 5 (some .int) [(0, 10, 13, 21), (0, 10, 17, 13)] :: ([.classLink RL 21 "java/lang/IndexOutOfBoundsException", .classLink RL 13 "java/lang/IllegalArgumentException", .methodLink RL 29 yX2_setCold, .instanceMethod yX2_setCold, .selects RX2 yX2_setCold yX2_setCold, .initialized RX2, .code yX2_setCold cX2_setCold 4 (some .int), .classLink RX2 52 "java/lang/IndexOutOfBoundsException", .initialized "java/lang/IndexOutOfBoundsException", .classLink RX2 19 "java/lang/IllegalArgumentException", .initialized "java/lang/IllegalArgumentException", .fieldLink RX2 10 "BridgeBells" "bridge" "LBridgeBells$Bridge;", .fieldLink RX2 90 "BridgeBells$Bridge" "cold" "[I"] ++ wsX20 ++ wsX00 ++ (vx_atS RX2 56 "java/lang/IndexOutOfBoundsException" ["java/lang/RuntimeException", "java/lang/Exception"]).filter goodWord ++ (vx_atS RX2 23 "java/lang/IllegalArgumentException" ["java/lang/RuntimeException", "java/lang/Exception"]).filter goodWord)
def wsL_traveller_r1 : List Cond := [Cond.classLink RL 21 "java/lang/IndexOutOfBoundsException", Cond.methodLink RL 33 yX2_traveller, Cond.instanceMethod yX2_traveller, Cond.selects RX2 yX2_traveller yX2_traveller, Cond.initialized RX2, Cond.code yX2_traveller cX2_traveller 3 (some .int), Cond.classLink RX2 52 "java/lang/IndexOutOfBoundsException", Cond.initialized "java/lang/IndexOutOfBoundsException", Cond.fieldLink RX2 10 "BridgeBells" "bridge" "LBridgeBells$Bridge;", Cond.fieldLink RX2 26 "BridgeBells$Bridge" "travellers" "LBridgeBells$Travellers;", Cond.methodLink RX2 48 yX1_has, Cond.instanceMethod yX1_has, Cond.selects RX1 yX1_has yX1_has, Cond.initialized RX1, Cond.code yX1_has cX1_has 2 (some .boolean), Cond.fieldLink RX1 9 "BridgeBells$Travellers" "number" "I", Cond.methodLink RX2 103 yX0_factOf, Cond.instanceMethod yX0_factOf, Cond.selects RX0 yX0_factOf yX0_factOf, Cond.initialized RX0, Cond.code yX0_factOf cX0_factOf 3 (some .int), Cond.fieldLink RX0 37 "BridgeBells$Bridge" "travellers" "LBridgeBells$Travellers;", Cond.fieldLink RX0 103 "BridgeBells$Travellers" "barge" "[I", Cond.fieldLink RX0 106 "BridgeBells$Travellers" "needs" "[I"]
def wsL_traveller_r2 : List Cond := [Cond.fieldLink RX0 133 "BridgeBells$Travellers" "state" "[I", Cond.fieldLink RX0 136 "BridgeBells$Travellers" "came" "[I", Cond.fieldLink RX0 9 "BridgeBells$Bridge" "minute" "I", Cond.fieldLink RX0 41 "BridgeBells$Bridge" "passing" "I", Cond.fieldLink RX0 44 "BridgeBells$Bridge" "toGo" "I", Cond.fieldLink RX0 142 "BridgeBells$Travellers" "passedIn" "[I", Cond.methodLink RX0 139 yX1_waited, Cond.instanceMethod yX1_waited, Cond.selects RX1 yX1_waited yX1_waited, Cond.code yX1_waited cX1_waited 4 (some .int), Cond.fieldLink RX1 31 "BridgeBells$Travellers" "state" "[I", Cond.fieldLink RX1 40 "BridgeBells$Travellers" "waitEnd" "[I", Cond.fieldLink RX1 34 "BridgeBells$Travellers" "came" "[I"]
def wsL_traveller : List Cond := .codeWith yL_traveller cL_traveller 5 (some .int) [(0, 10, 13, 21)] :: ((wsL_traveller_r1 ++ wsL_traveller_r2) ++ wsX20 ++ wsX00 ++ wsX10 ++ (vx_atS RX2 56 "java/lang/IndexOutOfBoundsException" ["java/lang/RuntimeException", "java/lang/Exception"]).filter goodWord)
def wsL_count_r1 : List Cond := [Cond.classLink RL 21 "java/lang/IndexOutOfBoundsException", Cond.methodLink RL 36 yX2_count, Cond.instanceMethod yX2_count, Cond.selects RX2 yX2_count yX2_count, Cond.initialized RX2, Cond.code yX2_count cX2_count 2 (some .int), Cond.classLink RX2 52 "java/lang/IndexOutOfBoundsException", Cond.initialized "java/lang/IndexOutOfBoundsException", Cond.fieldLink RX2 10 "BridgeBells" "bridge" "LBridgeBells$Bridge;", Cond.methodLink RX2 108 yX0_total, Cond.instanceMethod yX0_total, Cond.selects RX0 yX0_total yX0_total, Cond.initialized RX0, Cond.code yX0_total cX0_total 2 (some .int), Cond.fieldLink RX0 9 "BridgeBells$Bridge" "minute" "I", Cond.fieldLink RX0 15 "BridgeBells$Bridge" "angle" "I", Cond.fieldLink RX0 18 "BridgeBells$Bridge" "counterpoise" "I", Cond.fieldLink RX0 21 "BridgeBells$Bridge" "ice" "I", Cond.fieldLink RX0 24 "BridgeBells$Bridge" "code" "I", Cond.fieldLink RX0 37 "BridgeBells$Bridge" "travellers" "LBridgeBells$Travellers;", Cond.fieldLink RX0 127 "BridgeBells$Travellers" "number" "I", Cond.fieldLink RX0 75 "BridgeBells$Travellers" "bargesWaiting" "I", Cond.fieldLink RX0 78 "BridgeBells$Travellers" "cartsWaiting" "I", Cond.fieldLink RX0 130 "BridgeBells$Travellers" "passed" "I"]
def wsL_count_r2 : List Cond := [Cond.fieldLink RX0 27 "BridgeBells$Bridge" "waitedInAll" "I", Cond.fieldLink RX0 41 "BridgeBells$Bridge" "passing" "I", Cond.methodLink RX0 64 yX0_servedNext, Cond.instanceMethod yX0_servedNext, Cond.selects RX0 yX0_servedNext yX0_servedNext, Cond.code yX0_servedNext cX0_servedNext 1 (some .int), Cond.fieldLink RX0 47 "BridgeBells$Bridge" "latestWasBarge" "Z", Cond.methodLink RX0 90 yX1_firstOfAll, Cond.instanceMethod yX1_firstOfAll, Cond.selects RX1 yX1_firstOfAll yX1_firstOfAll, Cond.initialized RX1, Cond.code yX1_firstOfAll cX1_firstOfAll 1 (some .int), Cond.fieldLink RX1 43 "BridgeBells$Travellers" "firstBarge" "I", Cond.fieldLink RX1 46 "BridgeBells$Travellers" "firstCart" "I", Cond.methodLink RX1 58 Lib.Math.min.name, Cond.static Lib.Math.min.name, Cond.initialized "java/lang/Math", Cond.code Lib.Math.min.name Lib.Math.min.code 2 (some .int), Cond.methodLink RX0 93 yX1_firstBargeElseCart, Cond.instanceMethod yX1_firstBargeElseCart, Cond.selects RX1 yX1_firstBargeElseCart yX1_firstBargeElseCart, Cond.code yX1_firstBargeElseCart cX1_firstBargeElseCart 1 (some .int), Cond.methodLink RX0 96 yX1_firstCartElseBarge, Cond.instanceMethod yX1_firstCartElseBarge]
def wsL_count_r3 : List Cond := [Cond.selects RX1 yX1_firstCartElseBarge yX1_firstCartElseBarge, Cond.code yX1_firstCartElseBarge cX1_firstCartElseBarge 1 (some .int)]
def wsL_count : List Cond := .codeWith yL_count cL_count 4 (some .int) [(0, 9, 12, 21)] :: ((wsL_count_r1 ++ (wsL_count_r2 ++ wsL_count_r3)) ++ wsX20 ++ wsX00 ++ wsX10 ++ (vx_atS RX2 56 "java/lang/IndexOutOfBoundsException" ["java/lang/RuntimeException", "java/lang/Exception"]).filter goodWord)
def wsL_pass_r1 : List Cond := [Cond.classLink RL 13 "java/lang/IllegalArgumentException", Cond.methodLink RL 39 yX2_pass, Cond.instanceMethod yX2_pass, Cond.selects RX2 yX2_pass yX2_pass, Cond.initialized RX2, Cond.code yX2_pass cX2_pass 3 (some .int), Cond.classLink RX2 19 "java/lang/IllegalArgumentException", Cond.initialized "java/lang/IllegalArgumentException", Cond.fieldLink RX2 10 "BridgeBells" "bridge" "LBridgeBells$Bridge;", Cond.fieldLink RX2 26 "BridgeBells$Bridge" "travellers" "LBridgeBells$Travellers;", Cond.fieldLink RX2 121 "BridgeBells$Travellers" "passed" "I", Cond.methodLink RX2 116 yX2_isSpan, Cond.static yX2_isSpan, Cond.code yX2_isSpan cX2_isSpan 1 (some .boolean), Cond.methodLink RX2 124 yX0_goOn, Cond.instanceMethod yX0_goOn, Cond.selects RX0 yX0_goOn yX0_goOn, Cond.initialized RX0, Cond.code yX0_goOn cX0_goOn 3 none, Cond.methodLink RX0 61 yX0_goOneMinute, Cond.instanceMethod yX0_goOneMinute, Cond.selects RX0 yX0_goOneMinute yX0_goOneMinute, Cond.code yX0_goOneMinute cX0_goOneMinute 1 none, Cond.fieldLink RX0 27 "BridgeBells$Bridge" "waitedInAll" "I"]
def wsL_pass_r2 : List Cond := [Cond.fieldLink RX0 37 "BridgeBells$Bridge" "travellers" "LBridgeBells$Travellers;", Cond.fieldLink RX0 75 "BridgeBells$Travellers" "bargesWaiting" "I", Cond.fieldLink RX0 78 "BridgeBells$Travellers" "cartsWaiting" "I", Cond.fieldLink RX0 9 "BridgeBells$Bridge" "minute" "I", Cond.methodLink RX0 64 yX0_servedNext, Cond.instanceMethod yX0_servedNext, Cond.selects RX0 yX0_servedNext yX0_servedNext, Cond.code yX0_servedNext cX0_servedNext 1 (some .int), Cond.fieldLink RX0 41 "BridgeBells$Bridge" "passing" "I", Cond.fieldLink RX0 24 "BridgeBells$Bridge" "code" "I", Cond.fieldLink RX0 47 "BridgeBells$Bridge" "latestWasBarge" "Z", Cond.methodLink RX0 90 yX1_firstOfAll, Cond.instanceMethod yX1_firstOfAll, Cond.selects RX1 yX1_firstOfAll yX1_firstOfAll, Cond.initialized RX1, Cond.code yX1_firstOfAll cX1_firstOfAll 1 (some .int), Cond.fieldLink RX1 43 "BridgeBells$Travellers" "firstBarge" "I", Cond.fieldLink RX1 46 "BridgeBells$Travellers" "firstCart" "I", Cond.methodLink RX1 58 Lib.Math.min.name, Cond.static Lib.Math.min.name, Cond.initialized "java/lang/Math", Cond.code Lib.Math.min.name Lib.Math.min.code 2 (some .int), Cond.methodLink RX0 93 yX1_firstBargeElseCart, Cond.instanceMethod yX1_firstBargeElseCart]
def wsL_pass_r3 : List Cond := [Cond.selects RX1 yX1_firstBargeElseCart yX1_firstBargeElseCart, Cond.code yX1_firstBargeElseCart cX1_firstBargeElseCart 1 (some .int), Cond.methodLink RX0 96 yX1_firstCartElseBarge, Cond.instanceMethod yX1_firstCartElseBarge, Cond.selects RX1 yX1_firstCartElseBarge yX1_firstCartElseBarge, Cond.code yX1_firstCartElseBarge cX1_firstCartElseBarge 1 (some .int), Cond.methodLink RX0 68 yX0_serve, Cond.instanceMethod yX0_serve, Cond.selects RX0 yX0_serve yX0_serve, Cond.code yX0_serve cX0_serve 3 none, Cond.fieldLink RX0 103 "BridgeBells$Travellers" "barge" "[I", Cond.fieldLink RX0 15 "BridgeBells$Bridge" "angle" "I", Cond.fieldLink RX0 106 "BridgeBells$Travellers" "needs" "[I", Cond.fieldLink RX0 44 "BridgeBells$Bridge" "toGo" "I", Cond.methodLink RX0 117 Lib.Math.min.name, Cond.methodLink RX0 84 Lib.Math.max.name, Cond.static Lib.Math.max.name, Cond.code Lib.Math.max.name Lib.Math.max.code 2 (some .int), Cond.methodLink RX0 99 yX1_has, Cond.instanceMethod yX1_has, Cond.selects RX1 yX1_has yX1_has, Cond.code yX1_has cX1_has 2 (some .boolean), Cond.fieldLink RX1 9 "BridgeBells$Travellers" "number" "I", Cond.methodLink RX0 109 yX1_endWait]
def wsL_pass_r4 : List Cond := [Cond.instanceMethod yX1_endWait, Cond.selects RX1 yX1_endWait yX1_endWait, Cond.code yX1_endWait cX1_endWait 4 none, Cond.fieldLink RX1 31 "BridgeBells$Travellers" "state" "[I", Cond.fieldLink RX1 40 "BridgeBells$Travellers" "waitEnd" "[I", Cond.methodLink RX1 55 yX1_seeWhoWaits, Cond.instanceMethod yX1_seeWhoWaits, Cond.selects RX1 yX1_seeWhoWaits yX1_seeWhoWaits, Cond.code yX1_seeWhoWaits cX1_seeWhoWaits 2 none, Cond.fieldLink RX1 18 "BridgeBells$Travellers" "bargesWaiting" "I", Cond.fieldLink RX1 21 "BridgeBells$Travellers" "cartsWaiting" "I", Cond.fieldLink RX1 24 "BridgeBells$Travellers" "barge" "[I", Cond.methodLink RX0 113 yX0_speedTowards, Cond.instanceMethod yX0_speedTowards, Cond.selects RX0 yX0_speedTowards yX0_speedTowards, Cond.code yX0_speedTowards cX0_speedTowards 4 (some .int), Cond.fieldLink RX0 18 "BridgeBells$Bridge" "counterpoise" "I", Cond.fieldLink RX0 21 "BridgeBells$Bridge" "ice" "I", Cond.methodLink RX0 72 yX0_goOnPassing, Cond.instanceMethod yX0_goOnPassing, Cond.selects RX0 yX0_goOnPassing yX0_goOnPassing, Cond.code yX0_goOnPassing cX0_goOnPassing 1 none, Cond.methodLink RX0 120 yX1_endPassage, Cond.instanceMethod yX1_endPassage]
def wsL_pass_r5 : List Cond := [Cond.selects RX1 yX1_endPassage yX1_endPassage, Cond.code yX1_endPassage cX1_endPassage 3 none, Cond.fieldLink RX1 37 "BridgeBells$Travellers" "passedIn" "[I", Cond.fieldLink RX1 15 "BridgeBells$Travellers" "passed" "I", Cond.methodLink RX0 81 yX0_freeze, Cond.instanceMethod yX0_freeze, Cond.selects RX0 yX0_freeze yX0_freeze, Cond.code yX0_freeze cX0_freeze 2 none, Cond.fieldLink RX0 30 "BridgeBells$Bridge" "cold" "[I", Cond.methodLink RX0 124 yJ9_floorMod_7cf53, Cond.static yJ9_floorMod_7cf53, Cond.initialized RJ9, Cond.code yJ9_floorMod_7cf53 cJ9_floorMod_7cf53 3 (some .int)]
def wsL_pass : List Cond := .codeWith yL_pass cL_pass 4 (some .int) [(0, 9, 12, 13)] :: ((wsL_pass_r1 ++ (wsL_pass_r2 ++ (wsL_pass_r3 ++ (wsL_pass_r4 ++ wsL_pass_r5)))) ++ wsX20 ++ wsX00 ++ wsX10 ++ (vx_atS RX2 23 "java/lang/IllegalArgumentException" ["java/lang/RuntimeException", "java/lang/Exception"]).filter goodWord)
def wsL_when_r1 : List Cond := [Cond.classLink RL 21 "java/lang/IndexOutOfBoundsException", Cond.methodLink RL 42 yX2_when, Cond.instanceMethod yX2_when, Cond.selects RX2 yX2_when yX2_when, Cond.initialized RX2, Cond.code yX2_when cX2_when 3 (some .int), Cond.classLink RX2 52 "java/lang/IndexOutOfBoundsException", Cond.initialized "java/lang/IndexOutOfBoundsException", Cond.fieldLink RX2 10 "BridgeBells" "bridge" "LBridgeBells$Bridge;", Cond.fieldLink RX2 26 "BridgeBells$Bridge" "travellers" "LBridgeBells$Travellers;", Cond.fieldLink RX2 16 "BridgeBells" "trial" "LBridgeBells$Bridge;", Cond.fieldLink RX2 57 "BridgeBells$Travellers" "state" "[I", Cond.methodLink RX2 48 yX1_has, Cond.instanceMethod yX1_has, Cond.selects RX1 yX1_has yX1_has, Cond.initialized RX1, Cond.code yX1_has cX1_has 2 (some .boolean), Cond.fieldLink RX1 9 "BridgeBells$Travellers" "number" "I", Cond.methodLink RX2 128 yX0_copyFrom, Cond.instanceMethod yX0_copyFrom, Cond.selects RX0 yX0_copyFrom yX0_copyFrom, Cond.initialized RX0, Cond.code yX0_copyFrom cX0_copyFrom 2 none, Cond.fieldLink RX0 9 "BridgeBells$Bridge" "minute" "I"]
def wsL_when_r2 : List Cond := [Cond.fieldLink RX0 15 "BridgeBells$Bridge" "angle" "I", Cond.fieldLink RX0 18 "BridgeBells$Bridge" "counterpoise" "I", Cond.fieldLink RX0 21 "BridgeBells$Bridge" "ice" "I", Cond.fieldLink RX0 24 "BridgeBells$Bridge" "code" "I", Cond.fieldLink RX0 27 "BridgeBells$Bridge" "waitedInAll" "I", Cond.fieldLink RX0 30 "BridgeBells$Bridge" "cold" "[I", Cond.methodLink RX0 51 arraycopyName, Cond.native arraycopyName, Cond.static arraycopyName, Cond.initialized "java/lang/System", Cond.fieldLink RX0 37 "BridgeBells$Bridge" "travellers" "LBridgeBells$Travellers;", Cond.fieldLink RX0 41 "BridgeBells$Bridge" "passing" "I", Cond.fieldLink RX0 44 "BridgeBells$Bridge" "toGo" "I", Cond.fieldLink RX0 47 "BridgeBells$Bridge" "latestWasBarge" "Z", Cond.methodLink RX0 57 yX1_copyFrom, Cond.instanceMethod yX1_copyFrom, Cond.selects RX1 yX1_copyFrom yX1_copyFrom, Cond.code yX1_copyFrom cX1_copyFrom 2 none, Cond.fieldLink RX1 15 "BridgeBells$Travellers" "passed" "I", Cond.fieldLink RX1 18 "BridgeBells$Travellers" "bargesWaiting" "I", Cond.fieldLink RX1 21 "BridgeBells$Travellers" "cartsWaiting" "I", Cond.fieldLink RX1 24 "BridgeBells$Travellers" "barge" "[I", Cond.methodLink RX1 49 arraycopyName, Cond.fieldLink RX1 28 "BridgeBells$Travellers" "needs" "[I"]
def wsL_when_r3 : List Cond := [Cond.fieldLink RX1 31 "BridgeBells$Travellers" "state" "[I", Cond.fieldLink RX1 34 "BridgeBells$Travellers" "came" "[I", Cond.fieldLink RX1 37 "BridgeBells$Travellers" "passedIn" "[I", Cond.fieldLink RX1 40 "BridgeBells$Travellers" "waitEnd" "[I", Cond.fieldLink RX1 43 "BridgeBells$Travellers" "firstBarge" "I", Cond.fieldLink RX1 46 "BridgeBells$Travellers" "firstCart" "I", Cond.methodLink RX2 132 yX0_goOneMinute, Cond.instanceMethod yX0_goOneMinute, Cond.selects RX0 yX0_goOneMinute yX0_goOneMinute, Cond.code yX0_goOneMinute cX0_goOneMinute 1 none, Cond.fieldLink RX0 75 "BridgeBells$Travellers" "bargesWaiting" "I", Cond.fieldLink RX0 78 "BridgeBells$Travellers" "cartsWaiting" "I", Cond.methodLink RX0 64 yX0_servedNext, Cond.instanceMethod yX0_servedNext, Cond.selects RX0 yX0_servedNext yX0_servedNext, Cond.code yX0_servedNext cX0_servedNext 1 (some .int), Cond.methodLink RX0 90 yX1_firstOfAll, Cond.instanceMethod yX1_firstOfAll, Cond.selects RX1 yX1_firstOfAll yX1_firstOfAll, Cond.code yX1_firstOfAll cX1_firstOfAll 1 (some .int), Cond.methodLink RX1 58 Lib.Math.min.name, Cond.static Lib.Math.min.name, Cond.initialized "java/lang/Math", Cond.code Lib.Math.min.name Lib.Math.min.code 2 (some .int)]
def wsL_when_r4 : List Cond := [Cond.methodLink RX0 93 yX1_firstBargeElseCart, Cond.instanceMethod yX1_firstBargeElseCart, Cond.selects RX1 yX1_firstBargeElseCart yX1_firstBargeElseCart, Cond.code yX1_firstBargeElseCart cX1_firstBargeElseCart 1 (some .int), Cond.methodLink RX0 96 yX1_firstCartElseBarge, Cond.instanceMethod yX1_firstCartElseBarge, Cond.selects RX1 yX1_firstCartElseBarge yX1_firstCartElseBarge, Cond.code yX1_firstCartElseBarge cX1_firstCartElseBarge 1 (some .int), Cond.methodLink RX0 68 yX0_serve, Cond.instanceMethod yX0_serve, Cond.selects RX0 yX0_serve yX0_serve, Cond.code yX0_serve cX0_serve 3 none, Cond.fieldLink RX0 103 "BridgeBells$Travellers" "barge" "[I", Cond.fieldLink RX0 106 "BridgeBells$Travellers" "needs" "[I", Cond.methodLink RX0 117 Lib.Math.min.name, Cond.methodLink RX0 84 Lib.Math.max.name, Cond.static Lib.Math.max.name, Cond.code Lib.Math.max.name Lib.Math.max.code 2 (some .int), Cond.methodLink RX0 99 yX1_has, Cond.methodLink RX0 109 yX1_endWait, Cond.instanceMethod yX1_endWait, Cond.selects RX1 yX1_endWait yX1_endWait, Cond.code yX1_endWait cX1_endWait 4 none, Cond.methodLink RX1 55 yX1_seeWhoWaits]
def wsL_when_r5 : List Cond := [Cond.instanceMethod yX1_seeWhoWaits, Cond.selects RX1 yX1_seeWhoWaits yX1_seeWhoWaits, Cond.code yX1_seeWhoWaits cX1_seeWhoWaits 2 none, Cond.methodLink RX0 113 yX0_speedTowards, Cond.instanceMethod yX0_speedTowards, Cond.selects RX0 yX0_speedTowards yX0_speedTowards, Cond.code yX0_speedTowards cX0_speedTowards 4 (some .int), Cond.methodLink RX0 72 yX0_goOnPassing, Cond.instanceMethod yX0_goOnPassing, Cond.selects RX0 yX0_goOnPassing yX0_goOnPassing, Cond.code yX0_goOnPassing cX0_goOnPassing 1 none, Cond.methodLink RX0 120 yX1_endPassage, Cond.instanceMethod yX1_endPassage, Cond.selects RX1 yX1_endPassage yX1_endPassage, Cond.code yX1_endPassage cX1_endPassage 3 none, Cond.methodLink RX0 81 yX0_freeze, Cond.instanceMethod yX0_freeze, Cond.selects RX0 yX0_freeze yX0_freeze, Cond.code yX0_freeze cX0_freeze 2 none, Cond.methodLink RX0 124 yJ9_floorMod_7cf53, Cond.static yJ9_floorMod_7cf53, Cond.initialized RJ9, Cond.code yJ9_floorMod_7cf53 cJ9_floorMod_7cf53 3 (some .int)]
def wsL_when : List Cond := .codeWith yL_when cL_when 4 (some .int) [(0, 9, 12, 21)] :: ((wsL_when_r1 ++ (wsL_when_r2 ++ (wsL_when_r3 ++ (wsL_when_r4 ++ wsL_when_r5)))) ++ wsX20 ++ wsX00 ++ wsX10 ++ (vx_atS RX2 56 "java/lang/IndexOutOfBoundsException" ["java/lang/RuntimeException", "java/lang/Exception"]).filter goodWord)
def wsL_foresee_r1 : List Cond := [Cond.classLink RL 13 "java/lang/IllegalArgumentException", Cond.classLink RL 21 "java/lang/IndexOutOfBoundsException", Cond.methodLink RL 45 yX2_foresee, Cond.instanceMethod yX2_foresee, Cond.selects RX2 yX2_foresee yX2_foresee, Cond.initialized RX2, Cond.code yX2_foresee cX2_foresee 3 (some .int), Cond.classLink RX2 19 "java/lang/IllegalArgumentException", Cond.initialized "java/lang/IllegalArgumentException", Cond.classLink RX2 52 "java/lang/IndexOutOfBoundsException", Cond.initialized "java/lang/IndexOutOfBoundsException", Cond.fieldLink RX2 16 "BridgeBells" "trial" "LBridgeBells$Bridge;", Cond.fieldLink RX2 10 "BridgeBells" "bridge" "LBridgeBells$Bridge;", Cond.fieldLink RX2 26 "BridgeBells$Bridge" "travellers" "LBridgeBells$Travellers;", Cond.fieldLink RX2 121 "BridgeBells$Travellers" "passed" "I", Cond.fieldLink RX2 137 "BridgeBells$Bridge" "waitedInAll" "I", Cond.fieldLink RX2 78 "BridgeBells$Bridge" "angle" "I", Cond.fieldLink RX2 93 "BridgeBells$Bridge" "ice" "I", Cond.methodLink RX2 116 yX2_isSpan, Cond.static yX2_isSpan, Cond.code yX2_isSpan cX2_isSpan 1 (some .boolean), Cond.methodLink RX2 128 yX0_copyFrom, Cond.instanceMethod yX0_copyFrom, Cond.selects RX0 yX0_copyFrom yX0_copyFrom]
def wsL_foresee_r2 : List Cond := [Cond.initialized RX0, Cond.code yX0_copyFrom cX0_copyFrom 2 none, Cond.fieldLink RX0 9 "BridgeBells$Bridge" "minute" "I", Cond.fieldLink RX0 15 "BridgeBells$Bridge" "angle" "I", Cond.fieldLink RX0 18 "BridgeBells$Bridge" "counterpoise" "I", Cond.fieldLink RX0 21 "BridgeBells$Bridge" "ice" "I", Cond.fieldLink RX0 24 "BridgeBells$Bridge" "code" "I", Cond.fieldLink RX0 27 "BridgeBells$Bridge" "waitedInAll" "I", Cond.fieldLink RX0 30 "BridgeBells$Bridge" "cold" "[I", Cond.methodLink RX0 51 arraycopyName, Cond.native arraycopyName, Cond.static arraycopyName, Cond.initialized "java/lang/System", Cond.fieldLink RX0 37 "BridgeBells$Bridge" "travellers" "LBridgeBells$Travellers;", Cond.fieldLink RX0 41 "BridgeBells$Bridge" "passing" "I", Cond.fieldLink RX0 44 "BridgeBells$Bridge" "toGo" "I", Cond.fieldLink RX0 47 "BridgeBells$Bridge" "latestWasBarge" "Z", Cond.methodLink RX0 57 yX1_copyFrom, Cond.instanceMethod yX1_copyFrom, Cond.selects RX1 yX1_copyFrom yX1_copyFrom, Cond.initialized RX1, Cond.code yX1_copyFrom cX1_copyFrom 2 none, Cond.fieldLink RX1 9 "BridgeBells$Travellers" "number" "I", Cond.fieldLink RX1 15 "BridgeBells$Travellers" "passed" "I"]
def wsL_foresee_r3 : List Cond := [Cond.fieldLink RX1 18 "BridgeBells$Travellers" "bargesWaiting" "I", Cond.fieldLink RX1 21 "BridgeBells$Travellers" "cartsWaiting" "I", Cond.fieldLink RX1 24 "BridgeBells$Travellers" "barge" "[I", Cond.methodLink RX1 49 arraycopyName, Cond.fieldLink RX1 28 "BridgeBells$Travellers" "needs" "[I", Cond.fieldLink RX1 31 "BridgeBells$Travellers" "state" "[I", Cond.fieldLink RX1 34 "BridgeBells$Travellers" "came" "[I", Cond.fieldLink RX1 37 "BridgeBells$Travellers" "passedIn" "[I", Cond.fieldLink RX1 40 "BridgeBells$Travellers" "waitEnd" "[I", Cond.fieldLink RX1 43 "BridgeBells$Travellers" "firstBarge" "I", Cond.fieldLink RX1 46 "BridgeBells$Travellers" "firstCart" "I", Cond.methodLink RX2 124 yX0_goOn, Cond.instanceMethod yX0_goOn, Cond.selects RX0 yX0_goOn yX0_goOn, Cond.code yX0_goOn cX0_goOn 3 none, Cond.methodLink RX0 61 yX0_goOneMinute, Cond.instanceMethod yX0_goOneMinute, Cond.selects RX0 yX0_goOneMinute yX0_goOneMinute, Cond.code yX0_goOneMinute cX0_goOneMinute 1 none, Cond.fieldLink RX0 75 "BridgeBells$Travellers" "bargesWaiting" "I", Cond.fieldLink RX0 78 "BridgeBells$Travellers" "cartsWaiting" "I", Cond.methodLink RX0 64 yX0_servedNext, Cond.instanceMethod yX0_servedNext, Cond.selects RX0 yX0_servedNext yX0_servedNext]
def wsL_foresee_r4 : List Cond := [Cond.code yX0_servedNext cX0_servedNext 1 (some .int), Cond.methodLink RX0 90 yX1_firstOfAll, Cond.instanceMethod yX1_firstOfAll, Cond.selects RX1 yX1_firstOfAll yX1_firstOfAll, Cond.code yX1_firstOfAll cX1_firstOfAll 1 (some .int), Cond.methodLink RX1 58 Lib.Math.min.name, Cond.static Lib.Math.min.name, Cond.initialized "java/lang/Math", Cond.code Lib.Math.min.name Lib.Math.min.code 2 (some .int), Cond.methodLink RX0 93 yX1_firstBargeElseCart, Cond.instanceMethod yX1_firstBargeElseCart, Cond.selects RX1 yX1_firstBargeElseCart yX1_firstBargeElseCart, Cond.code yX1_firstBargeElseCart cX1_firstBargeElseCart 1 (some .int), Cond.methodLink RX0 96 yX1_firstCartElseBarge, Cond.instanceMethod yX1_firstCartElseBarge, Cond.selects RX1 yX1_firstCartElseBarge yX1_firstCartElseBarge, Cond.code yX1_firstCartElseBarge cX1_firstCartElseBarge 1 (some .int), Cond.methodLink RX0 68 yX0_serve, Cond.instanceMethod yX0_serve, Cond.selects RX0 yX0_serve yX0_serve, Cond.code yX0_serve cX0_serve 3 none, Cond.fieldLink RX0 103 "BridgeBells$Travellers" "barge" "[I", Cond.fieldLink RX0 106 "BridgeBells$Travellers" "needs" "[I", Cond.methodLink RX0 117 Lib.Math.min.name]
def wsL_foresee_r5 : List Cond := [Cond.methodLink RX0 84 Lib.Math.max.name, Cond.static Lib.Math.max.name, Cond.code Lib.Math.max.name Lib.Math.max.code 2 (some .int), Cond.methodLink RX0 99 yX1_has, Cond.instanceMethod yX1_has, Cond.selects RX1 yX1_has yX1_has, Cond.code yX1_has cX1_has 2 (some .boolean), Cond.methodLink RX0 109 yX1_endWait, Cond.instanceMethod yX1_endWait, Cond.selects RX1 yX1_endWait yX1_endWait, Cond.code yX1_endWait cX1_endWait 4 none, Cond.methodLink RX1 55 yX1_seeWhoWaits, Cond.instanceMethod yX1_seeWhoWaits, Cond.selects RX1 yX1_seeWhoWaits yX1_seeWhoWaits, Cond.code yX1_seeWhoWaits cX1_seeWhoWaits 2 none, Cond.methodLink RX0 113 yX0_speedTowards, Cond.instanceMethod yX0_speedTowards, Cond.selects RX0 yX0_speedTowards yX0_speedTowards, Cond.code yX0_speedTowards cX0_speedTowards 4 (some .int), Cond.methodLink RX0 72 yX0_goOnPassing, Cond.instanceMethod yX0_goOnPassing, Cond.selects RX0 yX0_goOnPassing yX0_goOnPassing, Cond.code yX0_goOnPassing cX0_goOnPassing 1 none, Cond.methodLink RX0 120 yX1_endPassage]
def wsL_foresee_r6 : List Cond := [Cond.instanceMethod yX1_endPassage, Cond.selects RX1 yX1_endPassage yX1_endPassage, Cond.code yX1_endPassage cX1_endPassage 3 none, Cond.methodLink RX0 81 yX0_freeze, Cond.instanceMethod yX0_freeze, Cond.selects RX0 yX0_freeze yX0_freeze, Cond.code yX0_freeze cX0_freeze 2 none, Cond.methodLink RX0 124 yJ9_floorMod_7cf53, Cond.static yJ9_floorMod_7cf53, Cond.initialized RJ9, Cond.code yJ9_floorMod_7cf53 cJ9_floorMod_7cf53 3 (some .int)]
def wsL_foresee : List Cond := .codeWith yL_foresee cL_foresee 5 (some .int) [(0, 10, 13, 13), (0, 10, 17, 21)] :: ((wsL_foresee_r1 ++ (wsL_foresee_r2 ++ (wsL_foresee_r3 ++ (wsL_foresee_r4 ++ (wsL_foresee_r5 ++ wsL_foresee_r6))))) ++ wsX20 ++ wsX00 ++ wsX10 ++ (vx_atS RX2 23 "java/lang/IllegalArgumentException" ["java/lang/RuntimeException", "java/lang/Exception"]).filter goodWord ++ (vx_atS RX2 56 "java/lang/IndexOutOfBoundsException" ["java/lang/RuntimeException", "java/lang/Exception"]).filter goodWord)
def wsL_bestCode_r1 : List Cond := [Cond.classLink RL 13 "java/lang/IllegalArgumentException", Cond.methodLink RL 48 yX2_bestCode, Cond.instanceMethod yX2_bestCode, Cond.selects RX2 yX2_bestCode yX2_bestCode, Cond.initialized RX2, Cond.code yX2_bestCode cX2_bestCode 6 (some .int), Cond.classLink RX2 19 "java/lang/IllegalArgumentException", Cond.initialized "java/lang/IllegalArgumentException", Cond.fieldLink RX2 10 "BridgeBells" "bridge" "LBridgeBells$Bridge;", Cond.fieldLink RX2 83 "BridgeBells$Bridge" "counterpoise" "I", Cond.methodLink RX2 116 yX2_isSpan, Cond.static yX2_isSpan, Cond.code yX2_isSpan cX2_isSpan 1 (some .boolean), Cond.methodLink RX2 140 yX2_waitWith, Cond.instanceMethod yX2_waitWith, Cond.selects RX2 yX2_waitWith yX2_waitWith, Cond.code yX2_waitWith cX2_waitWith 4 (some .int), Cond.fieldLink RX2 16 "BridgeBells" "trial" "LBridgeBells$Bridge;", Cond.fieldLink RX2 73 "BridgeBells$Bridge" "code" "I", Cond.fieldLink RX2 137 "BridgeBells$Bridge" "waitedInAll" "I", Cond.methodLink RX2 128 yX0_copyFrom, Cond.instanceMethod yX0_copyFrom, Cond.selects RX0 yX0_copyFrom yX0_copyFrom, Cond.initialized RX0]
def wsL_bestCode_r2 : List Cond := [Cond.code yX0_copyFrom cX0_copyFrom 2 none, Cond.fieldLink RX0 9 "BridgeBells$Bridge" "minute" "I", Cond.fieldLink RX0 15 "BridgeBells$Bridge" "angle" "I", Cond.fieldLink RX0 18 "BridgeBells$Bridge" "counterpoise" "I", Cond.fieldLink RX0 21 "BridgeBells$Bridge" "ice" "I", Cond.fieldLink RX0 24 "BridgeBells$Bridge" "code" "I", Cond.fieldLink RX0 27 "BridgeBells$Bridge" "waitedInAll" "I", Cond.fieldLink RX0 30 "BridgeBells$Bridge" "cold" "[I", Cond.methodLink RX0 51 arraycopyName, Cond.native arraycopyName, Cond.static arraycopyName, Cond.initialized "java/lang/System", Cond.fieldLink RX0 37 "BridgeBells$Bridge" "travellers" "LBridgeBells$Travellers;", Cond.fieldLink RX0 41 "BridgeBells$Bridge" "passing" "I", Cond.fieldLink RX0 44 "BridgeBells$Bridge" "toGo" "I", Cond.fieldLink RX0 47 "BridgeBells$Bridge" "latestWasBarge" "Z", Cond.methodLink RX0 57 yX1_copyFrom, Cond.instanceMethod yX1_copyFrom, Cond.selects RX1 yX1_copyFrom yX1_copyFrom, Cond.initialized RX1, Cond.code yX1_copyFrom cX1_copyFrom 2 none, Cond.fieldLink RX1 9 "BridgeBells$Travellers" "number" "I", Cond.fieldLink RX1 15 "BridgeBells$Travellers" "passed" "I", Cond.fieldLink RX1 18 "BridgeBells$Travellers" "bargesWaiting" "I"]
def wsL_bestCode_r3 : List Cond := [Cond.fieldLink RX1 21 "BridgeBells$Travellers" "cartsWaiting" "I", Cond.fieldLink RX1 24 "BridgeBells$Travellers" "barge" "[I", Cond.methodLink RX1 49 arraycopyName, Cond.fieldLink RX1 28 "BridgeBells$Travellers" "needs" "[I", Cond.fieldLink RX1 31 "BridgeBells$Travellers" "state" "[I", Cond.fieldLink RX1 34 "BridgeBells$Travellers" "came" "[I", Cond.fieldLink RX1 37 "BridgeBells$Travellers" "passedIn" "[I", Cond.fieldLink RX1 40 "BridgeBells$Travellers" "waitEnd" "[I", Cond.fieldLink RX1 43 "BridgeBells$Travellers" "firstBarge" "I", Cond.fieldLink RX1 46 "BridgeBells$Travellers" "firstCart" "I", Cond.methodLink RX2 124 yX0_goOn, Cond.instanceMethod yX0_goOn, Cond.selects RX0 yX0_goOn yX0_goOn, Cond.code yX0_goOn cX0_goOn 3 none, Cond.methodLink RX0 61 yX0_goOneMinute, Cond.instanceMethod yX0_goOneMinute, Cond.selects RX0 yX0_goOneMinute yX0_goOneMinute, Cond.code yX0_goOneMinute cX0_goOneMinute 1 none, Cond.fieldLink RX0 75 "BridgeBells$Travellers" "bargesWaiting" "I", Cond.fieldLink RX0 78 "BridgeBells$Travellers" "cartsWaiting" "I", Cond.methodLink RX0 64 yX0_servedNext, Cond.instanceMethod yX0_servedNext, Cond.selects RX0 yX0_servedNext yX0_servedNext, Cond.code yX0_servedNext cX0_servedNext 1 (some .int)]
def wsL_bestCode_r4 : List Cond := [Cond.methodLink RX0 90 yX1_firstOfAll, Cond.instanceMethod yX1_firstOfAll, Cond.selects RX1 yX1_firstOfAll yX1_firstOfAll, Cond.code yX1_firstOfAll cX1_firstOfAll 1 (some .int), Cond.methodLink RX1 58 Lib.Math.min.name, Cond.static Lib.Math.min.name, Cond.initialized "java/lang/Math", Cond.code Lib.Math.min.name Lib.Math.min.code 2 (some .int), Cond.methodLink RX0 93 yX1_firstBargeElseCart, Cond.instanceMethod yX1_firstBargeElseCart, Cond.selects RX1 yX1_firstBargeElseCart yX1_firstBargeElseCart, Cond.code yX1_firstBargeElseCart cX1_firstBargeElseCart 1 (some .int), Cond.methodLink RX0 96 yX1_firstCartElseBarge, Cond.instanceMethod yX1_firstCartElseBarge, Cond.selects RX1 yX1_firstCartElseBarge yX1_firstCartElseBarge, Cond.code yX1_firstCartElseBarge cX1_firstCartElseBarge 1 (some .int), Cond.methodLink RX0 68 yX0_serve, Cond.instanceMethod yX0_serve, Cond.selects RX0 yX0_serve yX0_serve, Cond.code yX0_serve cX0_serve 3 none, Cond.fieldLink RX0 103 "BridgeBells$Travellers" "barge" "[I", Cond.fieldLink RX0 106 "BridgeBells$Travellers" "needs" "[I", Cond.methodLink RX0 117 Lib.Math.min.name, Cond.methodLink RX0 84 Lib.Math.max.name]
def wsL_bestCode_r5 : List Cond := [Cond.static Lib.Math.max.name, Cond.code Lib.Math.max.name Lib.Math.max.code 2 (some .int), Cond.methodLink RX0 99 yX1_has, Cond.instanceMethod yX1_has, Cond.selects RX1 yX1_has yX1_has, Cond.code yX1_has cX1_has 2 (some .boolean), Cond.methodLink RX0 109 yX1_endWait, Cond.instanceMethod yX1_endWait, Cond.selects RX1 yX1_endWait yX1_endWait, Cond.code yX1_endWait cX1_endWait 4 none, Cond.methodLink RX1 55 yX1_seeWhoWaits, Cond.instanceMethod yX1_seeWhoWaits, Cond.selects RX1 yX1_seeWhoWaits yX1_seeWhoWaits, Cond.code yX1_seeWhoWaits cX1_seeWhoWaits 2 none, Cond.methodLink RX0 113 yX0_speedTowards, Cond.instanceMethod yX0_speedTowards, Cond.selects RX0 yX0_speedTowards yX0_speedTowards, Cond.code yX0_speedTowards cX0_speedTowards 4 (some .int), Cond.methodLink RX0 72 yX0_goOnPassing, Cond.instanceMethod yX0_goOnPassing, Cond.selects RX0 yX0_goOnPassing yX0_goOnPassing, Cond.code yX0_goOnPassing cX0_goOnPassing 1 none, Cond.methodLink RX0 120 yX1_endPassage, Cond.instanceMethod yX1_endPassage]
def wsL_bestCode_r6 : List Cond := [Cond.selects RX1 yX1_endPassage yX1_endPassage, Cond.code yX1_endPassage cX1_endPassage 3 none, Cond.methodLink RX0 81 yX0_freeze, Cond.instanceMethod yX0_freeze, Cond.selects RX0 yX0_freeze yX0_freeze, Cond.code yX0_freeze cX0_freeze 2 none, Cond.methodLink RX0 124 yJ9_floorMod_7cf53, Cond.static yJ9_floorMod_7cf53, Cond.initialized RJ9, Cond.code yJ9_floorMod_7cf53 cJ9_floorMod_7cf53 3 (some .int)]
def wsL_bestCode : List Cond := .codeWith yL_bestCode cL_bestCode 4 (some .int) [(0, 9, 12, 13)] :: ((wsL_bestCode_r1 ++ (wsL_bestCode_r2 ++ (wsL_bestCode_r3 ++ (wsL_bestCode_r4 ++ (wsL_bestCode_r5 ++ wsL_bestCode_r6))))) ++ wsX20 ++ wsX00 ++ wsX10 ++ (vx_atS RX2 23 "java/lang/IllegalArgumentException" ["java/lang/RuntimeException", "java/lang/Exception"]).filter goodWord)
def wsL_bestPoise_r1 : List Cond := [Cond.classLink RL 13 "java/lang/IllegalArgumentException", Cond.methodLink RL 51 yX2_bestPoise, Cond.instanceMethod yX2_bestPoise, Cond.selects RX2 yX2_bestPoise yX2_bestPoise, Cond.initialized RX2, Cond.code yX2_bestPoise cX2_bestPoise 6 (some .int), Cond.classLink RX2 19 "java/lang/IllegalArgumentException", Cond.initialized "java/lang/IllegalArgumentException", Cond.fieldLink RX2 10 "BridgeBells" "bridge" "LBridgeBells$Bridge;", Cond.fieldLink RX2 73 "BridgeBells$Bridge" "code" "I", Cond.methodLink RX2 116 yX2_isSpan, Cond.static yX2_isSpan, Cond.code yX2_isSpan cX2_isSpan 1 (some .boolean), Cond.methodLink RX2 140 yX2_waitWith, Cond.instanceMethod yX2_waitWith, Cond.selects RX2 yX2_waitWith yX2_waitWith, Cond.code yX2_waitWith cX2_waitWith 4 (some .int), Cond.fieldLink RX2 16 "BridgeBells" "trial" "LBridgeBells$Bridge;", Cond.fieldLink RX2 83 "BridgeBells$Bridge" "counterpoise" "I", Cond.fieldLink RX2 137 "BridgeBells$Bridge" "waitedInAll" "I", Cond.methodLink RX2 128 yX0_copyFrom, Cond.instanceMethod yX0_copyFrom, Cond.selects RX0 yX0_copyFrom yX0_copyFrom, Cond.initialized RX0]
def wsL_bestPoise_r2 : List Cond := [Cond.code yX0_copyFrom cX0_copyFrom 2 none, Cond.fieldLink RX0 9 "BridgeBells$Bridge" "minute" "I", Cond.fieldLink RX0 15 "BridgeBells$Bridge" "angle" "I", Cond.fieldLink RX0 18 "BridgeBells$Bridge" "counterpoise" "I", Cond.fieldLink RX0 21 "BridgeBells$Bridge" "ice" "I", Cond.fieldLink RX0 24 "BridgeBells$Bridge" "code" "I", Cond.fieldLink RX0 27 "BridgeBells$Bridge" "waitedInAll" "I", Cond.fieldLink RX0 30 "BridgeBells$Bridge" "cold" "[I", Cond.methodLink RX0 51 arraycopyName, Cond.native arraycopyName, Cond.static arraycopyName, Cond.initialized "java/lang/System", Cond.fieldLink RX0 37 "BridgeBells$Bridge" "travellers" "LBridgeBells$Travellers;", Cond.fieldLink RX0 41 "BridgeBells$Bridge" "passing" "I", Cond.fieldLink RX0 44 "BridgeBells$Bridge" "toGo" "I", Cond.fieldLink RX0 47 "BridgeBells$Bridge" "latestWasBarge" "Z", Cond.methodLink RX0 57 yX1_copyFrom, Cond.instanceMethod yX1_copyFrom, Cond.selects RX1 yX1_copyFrom yX1_copyFrom, Cond.initialized RX1, Cond.code yX1_copyFrom cX1_copyFrom 2 none, Cond.fieldLink RX1 9 "BridgeBells$Travellers" "number" "I", Cond.fieldLink RX1 15 "BridgeBells$Travellers" "passed" "I", Cond.fieldLink RX1 18 "BridgeBells$Travellers" "bargesWaiting" "I"]
def wsL_bestPoise_r3 : List Cond := [Cond.fieldLink RX1 21 "BridgeBells$Travellers" "cartsWaiting" "I", Cond.fieldLink RX1 24 "BridgeBells$Travellers" "barge" "[I", Cond.methodLink RX1 49 arraycopyName, Cond.fieldLink RX1 28 "BridgeBells$Travellers" "needs" "[I", Cond.fieldLink RX1 31 "BridgeBells$Travellers" "state" "[I", Cond.fieldLink RX1 34 "BridgeBells$Travellers" "came" "[I", Cond.fieldLink RX1 37 "BridgeBells$Travellers" "passedIn" "[I", Cond.fieldLink RX1 40 "BridgeBells$Travellers" "waitEnd" "[I", Cond.fieldLink RX1 43 "BridgeBells$Travellers" "firstBarge" "I", Cond.fieldLink RX1 46 "BridgeBells$Travellers" "firstCart" "I", Cond.methodLink RX2 124 yX0_goOn, Cond.instanceMethod yX0_goOn, Cond.selects RX0 yX0_goOn yX0_goOn, Cond.code yX0_goOn cX0_goOn 3 none, Cond.methodLink RX0 61 yX0_goOneMinute, Cond.instanceMethod yX0_goOneMinute, Cond.selects RX0 yX0_goOneMinute yX0_goOneMinute, Cond.code yX0_goOneMinute cX0_goOneMinute 1 none, Cond.fieldLink RX0 75 "BridgeBells$Travellers" "bargesWaiting" "I", Cond.fieldLink RX0 78 "BridgeBells$Travellers" "cartsWaiting" "I", Cond.methodLink RX0 64 yX0_servedNext, Cond.instanceMethod yX0_servedNext, Cond.selects RX0 yX0_servedNext yX0_servedNext, Cond.code yX0_servedNext cX0_servedNext 1 (some .int)]
def wsL_bestPoise_r4 : List Cond := [Cond.methodLink RX0 90 yX1_firstOfAll, Cond.instanceMethod yX1_firstOfAll, Cond.selects RX1 yX1_firstOfAll yX1_firstOfAll, Cond.code yX1_firstOfAll cX1_firstOfAll 1 (some .int), Cond.methodLink RX1 58 Lib.Math.min.name, Cond.static Lib.Math.min.name, Cond.initialized "java/lang/Math", Cond.code Lib.Math.min.name Lib.Math.min.code 2 (some .int), Cond.methodLink RX0 93 yX1_firstBargeElseCart, Cond.instanceMethod yX1_firstBargeElseCart, Cond.selects RX1 yX1_firstBargeElseCart yX1_firstBargeElseCart, Cond.code yX1_firstBargeElseCart cX1_firstBargeElseCart 1 (some .int), Cond.methodLink RX0 96 yX1_firstCartElseBarge, Cond.instanceMethod yX1_firstCartElseBarge, Cond.selects RX1 yX1_firstCartElseBarge yX1_firstCartElseBarge, Cond.code yX1_firstCartElseBarge cX1_firstCartElseBarge 1 (some .int), Cond.methodLink RX0 68 yX0_serve, Cond.instanceMethod yX0_serve, Cond.selects RX0 yX0_serve yX0_serve, Cond.code yX0_serve cX0_serve 3 none, Cond.fieldLink RX0 103 "BridgeBells$Travellers" "barge" "[I", Cond.fieldLink RX0 106 "BridgeBells$Travellers" "needs" "[I", Cond.methodLink RX0 117 Lib.Math.min.name, Cond.methodLink RX0 84 Lib.Math.max.name]
def wsL_bestPoise_r5 : List Cond := [Cond.static Lib.Math.max.name, Cond.code Lib.Math.max.name Lib.Math.max.code 2 (some .int), Cond.methodLink RX0 99 yX1_has, Cond.instanceMethod yX1_has, Cond.selects RX1 yX1_has yX1_has, Cond.code yX1_has cX1_has 2 (some .boolean), Cond.methodLink RX0 109 yX1_endWait, Cond.instanceMethod yX1_endWait, Cond.selects RX1 yX1_endWait yX1_endWait, Cond.code yX1_endWait cX1_endWait 4 none, Cond.methodLink RX1 55 yX1_seeWhoWaits, Cond.instanceMethod yX1_seeWhoWaits, Cond.selects RX1 yX1_seeWhoWaits yX1_seeWhoWaits, Cond.code yX1_seeWhoWaits cX1_seeWhoWaits 2 none, Cond.methodLink RX0 113 yX0_speedTowards, Cond.instanceMethod yX0_speedTowards, Cond.selects RX0 yX0_speedTowards yX0_speedTowards, Cond.code yX0_speedTowards cX0_speedTowards 4 (some .int), Cond.methodLink RX0 72 yX0_goOnPassing, Cond.instanceMethod yX0_goOnPassing, Cond.selects RX0 yX0_goOnPassing yX0_goOnPassing, Cond.code yX0_goOnPassing cX0_goOnPassing 1 none, Cond.methodLink RX0 120 yX1_endPassage, Cond.instanceMethod yX1_endPassage]
def wsL_bestPoise_r6 : List Cond := [Cond.selects RX1 yX1_endPassage yX1_endPassage, Cond.code yX1_endPassage cX1_endPassage 3 none, Cond.methodLink RX0 81 yX0_freeze, Cond.instanceMethod yX0_freeze, Cond.selects RX0 yX0_freeze yX0_freeze, Cond.code yX0_freeze cX0_freeze 2 none, Cond.methodLink RX0 124 yJ9_floorMod_7cf53, Cond.static yJ9_floorMod_7cf53, Cond.initialized RJ9, Cond.code yJ9_floorMod_7cf53 cJ9_floorMod_7cf53 3 (some .int)]
def wsL_bestPoise : List Cond := .codeWith yL_bestPoise cL_bestPoise 4 (some .int) [(0, 9, 12, 13)] :: ((wsL_bestPoise_r1 ++ (wsL_bestPoise_r2 ++ (wsL_bestPoise_r3 ++ (wsL_bestPoise_r4 ++ (wsL_bestPoise_r5 ++ wsL_bestPoise_r6))))) ++ wsX20 ++ wsX00 ++ wsX10 ++ (vx_atS RX2 23 "java/lang/IllegalArgumentException" ["java/lang/RuntimeException", "java/lang/Exception"]).filter goodWord)
def wsL_law0_r1 : List Cond := [Cond.classLink RL 8 RX2, Cond.instantiable RX2 2, Cond.initialized RX2, Cond.classLink RL 55 RX4, Cond.instantiable RX4 8, Cond.initialized RX4, Cond.arrayClass .long, Cond.methodLink RL 54 yX2_init, Cond.instanceMethod yX2_init, Cond.code yX2_init cX2_init 1 none, Cond.methodLink RX2 1 objectInit, Cond.instanceMethod objectInit, Cond.code objectInit ⟨#[0xb1]⟩ 1 none, Cond.classLink RX2 7 RX0, Cond.instantiable RX0 11, Cond.initialized RX0, Cond.fieldLink RX2 10 "BridgeBells" "bridge" "LBridgeBells$Bridge;", Cond.fieldLink RX2 16 "BridgeBells" "trial" "LBridgeBells$Bridge;", Cond.instanceMethod yX0_init, Cond.code yX0_init cX0_init 1 none, Cond.methodLink RX0 3 objectInit, Cond.fieldLink RX0 9 "BridgeBells$Bridge" "minute" "I", Cond.fieldLink RX0 15 "BridgeBells$Bridge" "angle" "I", Cond.fieldLink RX0 18 "BridgeBells$Bridge" "counterpoise" "I"]
def wsL_law0_r2 : List Cond := [Cond.fieldLink RX0 21 "BridgeBells$Bridge" "ice" "I", Cond.fieldLink RX0 24 "BridgeBells$Bridge" "code" "I", Cond.fieldLink RX0 27 "BridgeBells$Bridge" "waitedInAll" "I", Cond.arrayClass .int, Cond.fieldLink RX0 30 "BridgeBells$Bridge" "cold" "[I", Cond.classLink RX0 34 RX1, Cond.instantiable RX1 12, Cond.initialized RX1, Cond.fieldLink RX0 37 "BridgeBells$Bridge" "travellers" "LBridgeBells$Travellers;", Cond.fieldLink RX0 41 "BridgeBells$Bridge" "passing" "I", Cond.fieldLink RX0 44 "BridgeBells$Bridge" "toGo" "I", Cond.fieldLink RX0 47 "BridgeBells$Bridge" "latestWasBarge" "Z", Cond.instanceMethod yX1_init, Cond.code yX1_init cX1_init 1 none, Cond.methodLink RX1 3 objectInit, Cond.fieldLink RX1 9 "BridgeBells$Travellers" "number" "I", Cond.fieldLink RX1 15 "BridgeBells$Travellers" "passed" "I", Cond.fieldLink RX1 18 "BridgeBells$Travellers" "bargesWaiting" "I", Cond.fieldLink RX1 21 "BridgeBells$Travellers" "cartsWaiting" "I", Cond.fieldLink RX1 24 "BridgeBells$Travellers" "barge" "[I", Cond.fieldLink RX1 28 "BridgeBells$Travellers" "needs" "[I", Cond.fieldLink RX1 31 "BridgeBells$Travellers" "state" "[I", Cond.fieldLink RX1 34 "BridgeBells$Travellers" "came" "[I", Cond.fieldLink RX1 37 "BridgeBells$Travellers" "passedIn" "[I"]
def wsL_law0_r3 : List Cond := [Cond.fieldLink RX1 40 "BridgeBells$Travellers" "waitEnd" "[I", Cond.fieldLink RX1 43 "BridgeBells$Travellers" "firstBarge" "I", Cond.fieldLink RX1 46 "BridgeBells$Travellers" "firstCart" "I", Cond.methodLink RL 57 yX4_init, Cond.instanceMethod yX4_init, Cond.code yX4_init cX4_init 1 none, Cond.methodLink RX4 1 objectInit, Cond.fieldLink RX4 9 "BridgeBellsModel" "isBarge" "[I", Cond.fieldLink RX4 13 "BridgeBellsModel" "needs" "[I", Cond.fieldLink RX4 16 "BridgeBellsModel" "came" "[I", Cond.fieldLink RX4 19 "BridgeBellsModel" "cold" "[I", Cond.classLink RX4 22 RX3, Cond.instantiable RX3 12, Cond.initialized RX3, Cond.fieldLink RX4 27 "BridgeBellsModel" "s" "LBridgeBellsModel$State;", Cond.fieldLink RX4 31 "BridgeBellsModel" "ahead" "LBridgeBellsModel$State;", Cond.instanceMethod yX3_init, Cond.code yX3_init cX3_init 2 none, Cond.fieldLink RX3 3 "BridgeBellsModel$State" "this$0" "LBridgeBellsModel;", Cond.methodLink RX3 9 objectInit, Cond.fieldLink RX3 15 "BridgeBellsModel$State" "poise" "I", Cond.fieldLink RX3 19 "BridgeBellsModel$State" "passer" "I", Cond.fieldLink RX3 22 "BridgeBellsModel$State" "is" "[I", Cond.fieldLink RX3 26 "BridgeBellsModel$State" "waited" "[I"]
def wsL_law0_r4 : List Cond := [Cond.fieldLink RX3 29 "BridgeBellsModel$State" "left" "[I", Cond.fieldLink RX3 32 "BridgeBellsModel$State" "when" "[I", Cond.methodLink RL 58 yL_come, Cond.static yL_come, Cond.initialized RL, Cond.codeWith yL_come cL_come 5 (some .int) [(0, 10, 13, 13), (0, 10, 17, 15)], Cond.classLink RL 13 "java/lang/IllegalArgumentException", Cond.classLink RL 15 "java/lang/IllegalStateException", Cond.methodLink RL 7 yX2_come, Cond.instanceMethod yX2_come, Cond.selects RX2 yX2_come yX2_come, Cond.code yX2_come cX2_come 3 (some .int), Cond.classLink RX2 19 "java/lang/IllegalArgumentException", Cond.initialized "java/lang/IllegalArgumentException", Cond.classLink RX2 36 "java/lang/IllegalStateException", Cond.initialized "java/lang/IllegalStateException", Cond.fieldLink RX2 26 "BridgeBells$Bridge" "travellers" "LBridgeBells$Travellers;", Cond.fieldLink RX2 30 "BridgeBells$Travellers" "number" "I", Cond.fieldLink RX2 41 "BridgeBells$Bridge" "minute" "I", Cond.methodLink RX2 44 yX1_add, Cond.instanceMethod yX1_add, Cond.selects RX1 yX1_add yX1_add, Cond.code yX1_add cX1_add 5 (some .int), Cond.methodLink RX1 55 yX1_seeWhoWaits]
def wsL_law0_r5 : List Cond := [Cond.instanceMethod yX1_seeWhoWaits, Cond.selects RX1 yX1_seeWhoWaits yX1_seeWhoWaits, Cond.code yX1_seeWhoWaits cX1_seeWhoWaits 2 none, Cond.methodLink RL 63 yX4_come, Cond.instanceMethod yX4_come, Cond.selects RX4 yX4_come yX4_come, Cond.code yX4_come cX4_come 3 (some .int), Cond.fieldLink RX4 34 "BridgeBellsModel" "thrown" "I", Cond.fieldLink RX4 38 "BridgeBellsModel" "travellers" "I", Cond.methodLink RX4 41 yX4_isIn, Cond.static yX4_isIn, Cond.code yX4_isIn cX4_isIn 3 (some .boolean), Cond.methodLink RX4 45 yX4_no, Cond.instanceMethod yX4_no, Cond.selects RX4 yX4_no yX4_no, Cond.code yX4_no cX4_no 2 (some .int), Cond.methodLink RL 64 yX4_thrown, Cond.instanceMethod yX4_thrown, Cond.selects RX4 yX4_thrown yX4_thrown, Cond.code yX4_thrown cX4_thrown 1 (some .int), Cond.methodLink RL 68 yL_leave, Cond.static yL_leave, Cond.codeWith yL_leave cL_leave 4 (some .int) [(0, 9, 12, 21), (0, 9, 15, 15)], Cond.classLink RL 21 "java/lang/IndexOutOfBoundsException"]
def wsL_law0_r6 : List Cond := [Cond.methodLink RL 17 yX2_leave, Cond.instanceMethod yX2_leave, Cond.selects RX2 yX2_leave yX2_leave, Cond.code yX2_leave cX2_leave 2 (some .int), Cond.classLink RX2 52 "java/lang/IndexOutOfBoundsException", Cond.initialized "java/lang/IndexOutOfBoundsException", Cond.fieldLink RX2 57 "BridgeBells$Travellers" "state" "[I", Cond.methodLink RX2 48 yX1_has, Cond.instanceMethod yX1_has, Cond.selects RX1 yX1_has yX1_has, Cond.code yX1_has cX1_has 2 (some .boolean), Cond.methodLink RX2 63 yX1_endWait, Cond.instanceMethod yX1_endWait, Cond.selects RX1 yX1_endWait yX1_endWait, Cond.code yX1_endWait cX1_endWait 4 none, Cond.methodLink RX2 67 yX1_waited, Cond.instanceMethod yX1_waited, Cond.selects RX1 yX1_waited yX1_waited, Cond.code yX1_waited cX1_waited 4 (some .int), Cond.methodLink RL 71 yX4_leave, Cond.instanceMethod yX4_leave, Cond.selects RX4 yX4_leave yX4_leave, Cond.code yX4_leave cX4_leave 2 (some .int), Cond.methodLink RX4 55 yX4_isTraveller]
def wsL_law0_r7 : List Cond := [Cond.instanceMethod yX4_isTraveller, Cond.selects RX4 yX4_isTraveller yX4_isTraveller, Cond.code yX4_isTraveller cX4_isTraveller 2 (some .boolean), Cond.methodLink RL 72 yL_ring, Cond.static yL_ring, Cond.codeWith yL_ring cL_ring 4 (some .int) [(0, 9, 12, 13)], Cond.methodLink RL 23 yX2_ring, Cond.instanceMethod yX2_ring, Cond.selects RX2 yX2_ring yX2_ring, Cond.code yX2_ring cX2_ring 3 (some .int), Cond.fieldLink RX2 73 "BridgeBells$Bridge" "code" "I", Cond.methodLink RL 74 yX4_ring, Cond.instanceMethod yX4_ring, Cond.selects RX4 yX4_ring yX4_ring, Cond.code yX4_ring cX4_ring 3 (some .int), Cond.methodLink RL 75 yL_poise, Cond.static yL_poise, Cond.codeWith yL_poise cL_poise 4 (some .int) [(0, 9, 12, 13), (0, 9, 15, 15)], Cond.methodLink RL 26 yX2_poise, Cond.instanceMethod yX2_poise, Cond.selects RX2 yX2_poise yX2_poise, Cond.code yX2_poise cX2_poise 3 (some .int), Cond.fieldLink RX2 78 "BridgeBells$Bridge" "angle" "I", Cond.fieldLink RX2 83 "BridgeBells$Bridge" "counterpoise" "I"]
def wsL_law0_r8 : List Cond := [Cond.methodLink RL 77 yX4_poise, Cond.instanceMethod yX4_poise, Cond.selects RX4 yX4_poise yX4_poise, Cond.code yX4_poise cX4_poise 3 (some .int), Cond.methodLink RL 78 yL_setCold, Cond.static yL_setCold, Cond.codeWith yL_setCold cL_setCold 5 (some .int) [(0, 10, 13, 21), (0, 10, 17, 13)], Cond.methodLink RL 29 yX2_setCold, Cond.instanceMethod yX2_setCold, Cond.selects RX2 yX2_setCold yX2_setCold, Cond.code yX2_setCold cX2_setCold 4 (some .int), Cond.fieldLink RX2 90 "BridgeBells$Bridge" "cold" "[I", Cond.methodLink RL 81 yX4_setCold, Cond.instanceMethod yX4_setCold, Cond.selects RX4 yX4_setCold yX4_setCold, Cond.code yX4_setCold cX4_setCold 4 (some .int), Cond.methodLink RL 82 yX2_crack, Cond.instanceMethod yX2_crack, Cond.selects RX2 yX2_crack yX2_crack, Cond.code yX2_crack cX2_crack 1 (some .int), Cond.fieldLink RX2 93 "BridgeBells$Bridge" "ice" "I", Cond.methodLink RX2 96 Lib.Math.max.name, Cond.static Lib.Math.max.name, Cond.initialized "java/lang/Math"]
def wsL_law0_r9 : List Cond := [Cond.code Lib.Math.max.name Lib.Math.max.code 2 (some .int), Cond.methodLink RL 85 yX4_crack, Cond.instanceMethod yX4_crack, Cond.selects RX4 yX4_crack yX4_crack, Cond.code yX4_crack cX4_crack 1 (some .int), Cond.methodLink RX4 77 Lib.Math.max.name, Cond.methodLink RL 86 yL_traveller, Cond.static yL_traveller, Cond.codeWith yL_traveller cL_traveller 5 (some .int) [(0, 10, 13, 21)], Cond.methodLink RL 33 yX2_traveller, Cond.instanceMethod yX2_traveller, Cond.selects RX2 yX2_traveller yX2_traveller, Cond.code yX2_traveller cX2_traveller 3 (some .int), Cond.methodLink RX2 103 yX0_factOf, Cond.instanceMethod yX0_factOf, Cond.selects RX0 yX0_factOf yX0_factOf, Cond.code yX0_factOf cX0_factOf 3 (some .int), Cond.fieldLink RX0 103 "BridgeBells$Travellers" "barge" "[I", Cond.fieldLink RX0 106 "BridgeBells$Travellers" "needs" "[I", Cond.fieldLink RX0 133 "BridgeBells$Travellers" "state" "[I", Cond.fieldLink RX0 136 "BridgeBells$Travellers" "came" "[I", Cond.fieldLink RX0 142 "BridgeBells$Travellers" "passedIn" "[I", Cond.methodLink RX0 139 yX1_waited, Cond.methodLink RL 88 yX4_traveller]
def wsL_law0_r10 : List Cond := [Cond.instanceMethod yX4_traveller, Cond.selects RX4 yX4_traveller yX4_traveller, Cond.code yX4_traveller cX4_traveller 3 (some .int), Cond.methodLink RX4 86 yX4_told, Cond.instanceMethod yX4_told, Cond.selects RX4 yX4_told yX4_told, Cond.code yX4_told cX4_told 4 (some .int), Cond.methodLink RL 89 yL_count, Cond.static yL_count, Cond.codeWith yL_count cL_count 4 (some .int) [(0, 9, 12, 21)], Cond.methodLink RL 36 yX2_count, Cond.instanceMethod yX2_count, Cond.selects RX2 yX2_count yX2_count, Cond.code yX2_count cX2_count 2 (some .int), Cond.methodLink RX2 108 yX0_total, Cond.instanceMethod yX0_total, Cond.selects RX0 yX0_total yX0_total, Cond.code yX0_total cX0_total 2 (some .int), Cond.fieldLink RX0 127 "BridgeBells$Travellers" "number" "I", Cond.fieldLink RX0 75 "BridgeBells$Travellers" "bargesWaiting" "I", Cond.fieldLink RX0 78 "BridgeBells$Travellers" "cartsWaiting" "I", Cond.fieldLink RX0 130 "BridgeBells$Travellers" "passed" "I", Cond.methodLink RX0 64 yX0_servedNext, Cond.instanceMethod yX0_servedNext]
def wsL_law0_r11 : List Cond := [Cond.selects RX0 yX0_servedNext yX0_servedNext, Cond.code yX0_servedNext cX0_servedNext 1 (some .int), Cond.methodLink RX0 90 yX1_firstOfAll, Cond.instanceMethod yX1_firstOfAll, Cond.selects RX1 yX1_firstOfAll yX1_firstOfAll, Cond.code yX1_firstOfAll cX1_firstOfAll 1 (some .int), Cond.methodLink RX1 58 Lib.Math.min.name, Cond.static Lib.Math.min.name, Cond.code Lib.Math.min.name Lib.Math.min.code 2 (some .int), Cond.methodLink RX0 93 yX1_firstBargeElseCart, Cond.instanceMethod yX1_firstBargeElseCart, Cond.selects RX1 yX1_firstBargeElseCart yX1_firstBargeElseCart, Cond.code yX1_firstBargeElseCart cX1_firstBargeElseCart 1 (some .int), Cond.methodLink RX0 96 yX1_firstCartElseBarge, Cond.instanceMethod yX1_firstCartElseBarge, Cond.selects RX1 yX1_firstCartElseBarge yX1_firstCartElseBarge, Cond.code yX1_firstCartElseBarge cX1_firstCartElseBarge 1 (some .int), Cond.methodLink RL 91 yX4_count, Cond.instanceMethod yX4_count, Cond.selects RX4 yX4_count yX4_count, Cond.code yX4_count cX4_count 2 (some .int), Cond.methodLink RX4 89 yX3_counted, Cond.instanceMethod yX3_counted, Cond.selects RX3 yX3_counted yX3_counted]
def wsL_law0_r12 : List Cond := [Cond.code yX3_counted cX3_counted 2 (some .int), Cond.fieldLink RX3 41 "BridgeBellsModel$State" "minute" "I", Cond.fieldLink RX3 44 "BridgeBellsModel$State" "angle" "I", Cond.fieldLink RX3 47 "BridgeBellsModel$State" "ice" "I", Cond.fieldLink RX3 50 "BridgeBellsModel$State" "code" "I", Cond.methodLink RX3 100 yX3_are, Cond.instanceMethod yX3_are, Cond.selects RX3 yX3_are yX3_are, Cond.code yX3_are cX3_are 5 (some .int), Cond.methodLink RX3 103 yX3_sumWaited, Cond.instanceMethod yX3_sumWaited, Cond.selects RX3 yX3_sumWaited yX3_sumWaited, Cond.code yX3_sumWaited cX3_sumWaited 3 (some .int), Cond.methodLink RX3 86 yX3_next, Cond.instanceMethod yX3_next, Cond.selects RX3 yX3_next yX3_next, Cond.code yX3_next cX3_next 2 (some .int), Cond.fieldLink RX3 53 "BridgeBellsModel$State" "latest" "I", Cond.methodLink RX3 72 yX3_first, Cond.instanceMethod yX3_first, Cond.selects RX3 yX3_first yX3_first, Cond.code yX3_first cX3_first 3 (some .int), Cond.methodLink RL 92 yX2_speed, Cond.instanceMethod yX2_speed]
def wsL_law0_r13 : List Cond := [Cond.selects RX2 yX2_speed yX2_speed, Cond.code yX2_speed cX2_speed 2 (some .int), Cond.methodLink RX2 112 yX0_speedTowards, Cond.instanceMethod yX0_speedTowards, Cond.selects RX0 yX0_speedTowards yX0_speedTowards, Cond.code yX0_speedTowards cX0_speedTowards 4 (some .int), Cond.methodLink RX0 84 Lib.Math.max.name, Cond.methodLink RL 96 yX4_speed, Cond.instanceMethod yX4_speed, Cond.selects RX4 yX4_speed yX4_speed, Cond.code yX4_speed cX4_speed 2 (some .int), Cond.methodLink RX4 92 yX3_speed, Cond.instanceMethod yX3_speed, Cond.selects RX3 yX3_speed yX3_speed, Cond.code yX3_speed cX3_speed 3 (some .int), Cond.methodLink RX3 60 Lib.Math.max.name, Cond.methodLink RL 97 yL_pass, Cond.static yL_pass, Cond.codeWith yL_pass cL_pass 4 (some .int) [(0, 9, 12, 13)], Cond.methodLink RL 39 yX2_pass, Cond.instanceMethod yX2_pass, Cond.selects RX2 yX2_pass yX2_pass, Cond.code yX2_pass cX2_pass 3 (some .int), Cond.fieldLink RX2 121 "BridgeBells$Travellers" "passed" "I"]
def wsL_law0_r14 : List Cond := [Cond.methodLink RX2 116 yX2_isSpan, Cond.static yX2_isSpan, Cond.code yX2_isSpan cX2_isSpan 1 (some .boolean), Cond.methodLink RX2 124 yX0_goOn, Cond.instanceMethod yX0_goOn, Cond.selects RX0 yX0_goOn yX0_goOn, Cond.code yX0_goOn cX0_goOn 3 none, Cond.methodLink RX0 61 yX0_goOneMinute, Cond.instanceMethod yX0_goOneMinute, Cond.selects RX0 yX0_goOneMinute yX0_goOneMinute, Cond.code yX0_goOneMinute cX0_goOneMinute 1 none, Cond.methodLink RX0 68 yX0_serve, Cond.instanceMethod yX0_serve, Cond.selects RX0 yX0_serve yX0_serve, Cond.code yX0_serve cX0_serve 3 none, Cond.methodLink RX0 117 Lib.Math.min.name, Cond.methodLink RX0 99 yX1_has, Cond.methodLink RX0 109 yX1_endWait, Cond.methodLink RX0 113 yX0_speedTowards, Cond.methodLink RX0 72 yX0_goOnPassing, Cond.instanceMethod yX0_goOnPassing, Cond.selects RX0 yX0_goOnPassing yX0_goOnPassing, Cond.code yX0_goOnPassing cX0_goOnPassing 1 none, Cond.methodLink RX0 120 yX1_endPassage]
def wsL_law0_r15 : List Cond := [Cond.instanceMethod yX1_endPassage, Cond.selects RX1 yX1_endPassage yX1_endPassage, Cond.code yX1_endPassage cX1_endPassage 3 none, Cond.methodLink RX0 81 yX0_freeze, Cond.instanceMethod yX0_freeze, Cond.selects RX0 yX0_freeze yX0_freeze, Cond.code yX0_freeze cX0_freeze 2 none, Cond.methodLink RX0 124 yJ9_floorMod_7cf53, Cond.static yJ9_floorMod_7cf53, Cond.initialized RJ9, Cond.code yJ9_floorMod_7cf53 cJ9_floorMod_7cf53 3 (some .int), Cond.methodLink RL 99 yX4_pass, Cond.instanceMethod yX4_pass, Cond.selects RX4 yX4_pass yX4_pass, Cond.code yX4_pass cX4_pass 3 (some .int), Cond.methodLink RX4 96 yX3_are, Cond.methodLink RX4 99 yX3_pass_, Cond.instanceMethod yX3_pass_, Cond.selects RX3 yX3_pass_ yX3_pass_, Cond.code yX3_pass_ cX3_pass_ 3 none, Cond.methodLink RX3 97 yX3_pass, Cond.instanceMethod yX3_pass, Cond.selects RX3 yX3_pass yX3_pass, Cond.code yX3_pass cX3_pass 3 none]
def wsL_law0_r16 : List Cond := [Cond.methodLink RX3 83 Lib.Math.min.name, Cond.methodLink RX3 90 yX3_serve, Cond.instanceMethod yX3_serve, Cond.selects RX3 yX3_serve yX3_serve, Cond.code yX3_serve cX3_serve 3 none, Cond.methodLink RX3 79 yX3_speed, Cond.methodLink RL 100 yL_when, Cond.static yL_when, Cond.codeWith yL_when cL_when 4 (some .int) [(0, 9, 12, 21)], Cond.methodLink RL 42 yX2_when, Cond.instanceMethod yX2_when, Cond.selects RX2 yX2_when yX2_when, Cond.code yX2_when cX2_when 3 (some .int), Cond.methodLink RX2 128 yX0_copyFrom, Cond.instanceMethod yX0_copyFrom, Cond.selects RX0 yX0_copyFrom yX0_copyFrom, Cond.code yX0_copyFrom cX0_copyFrom 2 none, Cond.methodLink RX0 51 arraycopyName, Cond.native arraycopyName, Cond.static arraycopyName, Cond.initialized "java/lang/System", Cond.methodLink RX0 57 yX1_copyFrom, Cond.instanceMethod yX1_copyFrom, Cond.selects RX1 yX1_copyFrom yX1_copyFrom]
def wsL_law0_r17 : List Cond := [Cond.code yX1_copyFrom cX1_copyFrom 2 none, Cond.methodLink RX1 49 arraycopyName, Cond.methodLink RX2 132 yX0_goOneMinute, Cond.methodLink RL 102 yX4_when, Cond.instanceMethod yX4_when, Cond.selects RX4 yX4_when yX4_when, Cond.code yX4_when cX4_when 3 (some .int), Cond.methodLink RX4 103 yX3_become, Cond.instanceMethod yX3_become, Cond.selects RX3 yX3_become yX3_become, Cond.code yX3_become cX3_become 2 none, Cond.methodLink RX3 56 yX3_copy, Cond.instanceMethod yX3_copy, Cond.selects RX3 yX3_copy yX3_copy, Cond.code yX3_copy cX3_copy 3 none, Cond.methodLink RX3 35 arraycopyName, Cond.methodLink RX4 107 yX3_pass, Cond.methodLink RL 103 yL_foresee, Cond.static yL_foresee, Cond.codeWith yL_foresee cL_foresee 5 (some .int) [(0, 10, 13, 13), (0, 10, 17, 21)], Cond.methodLink RL 45 yX2_foresee, Cond.instanceMethod yX2_foresee, Cond.selects RX2 yX2_foresee yX2_foresee, Cond.code yX2_foresee cX2_foresee 3 (some .int)]
def wsL_law0_r18 : List Cond := [Cond.fieldLink RX2 137 "BridgeBells$Bridge" "waitedInAll" "I", Cond.methodLink RL 105 yX4_foresee, Cond.instanceMethod yX4_foresee, Cond.selects RX4 yX4_foresee yX4_foresee, Cond.code yX4_foresee cX4_foresee 3 (some .int), Cond.methodLink RX4 109 yX3_sumWaited, Cond.methodLink RL 106 yL_bestCode, Cond.static yL_bestCode, Cond.codeWith yL_bestCode cL_bestCode 4 (some .int) [(0, 9, 12, 13)], Cond.methodLink RL 48 yX2_bestCode, Cond.instanceMethod yX2_bestCode, Cond.selects RX2 yX2_bestCode yX2_bestCode, Cond.code yX2_bestCode cX2_bestCode 6 (some .int), Cond.methodLink RX2 140 yX2_waitWith, Cond.instanceMethod yX2_waitWith, Cond.selects RX2 yX2_waitWith yX2_waitWith, Cond.code yX2_waitWith cX2_waitWith 4 (some .int), Cond.methodLink RL 108 yX4_bestCode, Cond.instanceMethod yX4_bestCode, Cond.selects RX4 yX4_bestCode yX4_bestCode, Cond.code yX4_bestCode cX4_bestCode 2 (some .int), Cond.methodLink RX4 113 yX4_best, Cond.instanceMethod yX4_best, Cond.selects RX4 yX4_best yX4_best]
def wsL_law0_r19 : List Cond := [Cond.code yX4_best cX4_best 8 (some .int), Cond.methodLink RL 109 yL_bestPoise, Cond.static yL_bestPoise, Cond.codeWith yL_bestPoise cL_bestPoise 4 (some .int) [(0, 9, 12, 13)], Cond.methodLink RL 51 yX2_bestPoise, Cond.instanceMethod yX2_bestPoise, Cond.selects RX2 yX2_bestPoise yX2_bestPoise, Cond.code yX2_bestPoise cX2_bestPoise 6 (some .int), Cond.methodLink RL 111 yX4_bestPoise, Cond.instanceMethod yX4_bestPoise, Cond.selects RX4 yX4_bestPoise yX4_bestPoise, Cond.code yX4_bestPoise cX4_bestPoise 2 (some .int), Cond.methodLink RL 112 yX2_mean, Cond.instanceMethod yX2_mean, Cond.selects RX2 yX2_mean yX2_mean, Cond.code yX2_mean cX2_mean 2 (some .double), Cond.methodLink RL 116 yX4_mean, Cond.instanceMethod yX4_mean, Cond.selects RX4 yX4_mean yX4_mean, Cond.code yX4_mean cX4_mean 1 (some .double), Cond.methodLink RL 117 yX2_digest, Cond.instanceMethod yX2_digest, Cond.selects RX2 yX2_digest yX2_digest, Cond.code yX2_digest cX2_digest 5 (some .long)]
def wsL_law0_r20 : List Cond := [Cond.constantLong RX2 144 (1021), Cond.constantLong RX2 146 (31), Cond.methodLink RL 121 yX4_digest, Cond.instanceMethod yX4_digest, Cond.selects RX4 yX4_digest yX4_digest, Cond.code yX4_digest cX4_digest 5 (some .long), Cond.constantLong RX4 117 (1021), Cond.constantLong RX4 119 (31)]
def wsL_law0 : List Cond := (wsL_law0_r1 ++ (wsL_law0_r2 ++ (wsL_law0_r3 ++ (wsL_law0_r4 ++ (wsL_law0_r5 ++ (wsL_law0_r6 ++ (wsL_law0_r7 ++ (wsL_law0_r8 ++ (wsL_law0_r9 ++ (wsL_law0_r10 ++ (wsL_law0_r11 ++ (wsL_law0_r12 ++ (wsL_law0_r13 ++ (wsL_law0_r14 ++ (wsL_law0_r15 ++ (wsL_law0_r16 ++ (wsL_law0_r17 ++ (wsL_law0_r18 ++ (wsL_law0_r19 ++ wsL_law0_r20))))))))))))))))))) ++ wsX20 ++ wsX40 ++ wsX00 ++ wsX10 ++ wsX30 ++ ([] : List Cond)
def wsL_law : List Cond := wsL_law0 ++ (vx_atS RX2 23 "java/lang/IllegalArgumentException" ["java/lang/RuntimeException", "java/lang/Exception"]).filter goodWord ++ (vx_atS RX2 40 "java/lang/IllegalStateException" ["java/lang/RuntimeException", "java/lang/Exception"]).filter goodWord ++ (vx_atS RX2 56 "java/lang/IndexOutOfBoundsException" ["java/lang/RuntimeException", "java/lang/Exception"]).filter goodWord
end
section
set_option maxRecDepth 100000 in
theorem wsL_in_r1 : ∀ w ∈ wsL_law0_r1, w ∈ lw_tbl := by decide +kernel
set_option maxRecDepth 100000 in
theorem wsL_in_r2 : ∀ w ∈ wsL_law0_r2, w ∈ lw_tbl := by decide +kernel
set_option maxRecDepth 100000 in
theorem wsL_in_r3 : ∀ w ∈ wsL_law0_r3, w ∈ lw_tbl := by decide +kernel
set_option maxRecDepth 100000 in
theorem wsL_in_r4 : ∀ w ∈ wsL_law0_r4, w ∈ lw_tbl := by decide +kernel
set_option maxRecDepth 100000 in
theorem wsL_in_r5 : ∀ w ∈ wsL_law0_r5, w ∈ lw_tbl := by decide +kernel
set_option maxRecDepth 100000 in
theorem wsL_in_r6 : ∀ w ∈ wsL_law0_r6, w ∈ lw_tbl := by decide +kernel
set_option maxRecDepth 100000 in
theorem wsL_in_r7 : ∀ w ∈ wsL_law0_r7, w ∈ lw_tbl := by decide +kernel
set_option maxRecDepth 100000 in
theorem wsL_in_r8 : ∀ w ∈ wsL_law0_r8, w ∈ lw_tbl := by decide +kernel
set_option maxRecDepth 100000 in
theorem wsL_in_r9 : ∀ w ∈ wsL_law0_r9, w ∈ lw_tbl := by decide +kernel
set_option maxRecDepth 100000 in
theorem wsL_in_r10 : ∀ w ∈ wsL_law0_r10, w ∈ lw_tbl := by decide +kernel
set_option maxRecDepth 100000 in
theorem wsL_in_r11 : ∀ w ∈ wsL_law0_r11, w ∈ lw_tbl := by decide +kernel
set_option maxRecDepth 100000 in
theorem wsL_in_r12 : ∀ w ∈ wsL_law0_r12, w ∈ lw_tbl := by decide +kernel
set_option maxRecDepth 100000 in
theorem wsL_in_r13 : ∀ w ∈ wsL_law0_r13, w ∈ lw_tbl := by decide +kernel
set_option maxRecDepth 100000 in
theorem wsL_in_r14 : ∀ w ∈ wsL_law0_r14, w ∈ lw_tbl := by decide +kernel
set_option maxRecDepth 100000 in
theorem wsL_in_r15 : ∀ w ∈ wsL_law0_r15, w ∈ lw_tbl := by decide +kernel
set_option maxRecDepth 100000 in
theorem wsL_in_r16 : ∀ w ∈ wsL_law0_r16, w ∈ lw_tbl := by decide +kernel
set_option maxRecDepth 100000 in
theorem wsL_in_r17 : ∀ w ∈ wsL_law0_r17, w ∈ lw_tbl := by decide +kernel
set_option maxRecDepth 100000 in
theorem wsL_in_r18 : ∀ w ∈ wsL_law0_r18, w ∈ lw_tbl := by decide +kernel
set_option maxRecDepth 100000 in
theorem wsL_in_r19 : ∀ w ∈ wsL_law0_r19, w ∈ lw_tbl := by decide +kernel
set_option maxRecDepth 100000 in
theorem wsL_in_r20 : ∀ w ∈ wsL_law0_r20, w ∈ lw_tbl := by decide +kernel
set_option maxRecDepth 100000 in
theorem wsL_inw_X20 : ∀ w ∈ wsX20, w ∈ lw_tbl := by decide +kernel
set_option maxRecDepth 100000 in
theorem wsL_inw_X40 : ∀ w ∈ wsX40, w ∈ lw_tbl := by decide +kernel
set_option maxRecDepth 100000 in
theorem wsL_inw_X00 : ∀ w ∈ wsX00, w ∈ lw_tbl := by decide +kernel
set_option maxRecDepth 100000 in
theorem wsL_inw_X10 : ∀ w ∈ wsX10, w ∈ lw_tbl := by decide +kernel
set_option maxRecDepth 100000 in
theorem wsL_inw_X30 : ∀ w ∈ wsX30, w ∈ lw_tbl := by decide +kernel
theorem wsL_law_in0 : ∀ w ∈ wsL_law0, w ∈ lw_tbl := fun w h => (fun h => (List.mem_append.mp h).elim (fun h => (List.mem_append.mp h).elim (fun h => (List.mem_append.mp h).elim (fun h => (List.mem_append.mp h).elim (fun h => (List.mem_append.mp h).elim (fun h => (List.mem_append.mp h).elim (fun h => (List.mem_append.mp h).elim (fun h => wsL_in_r1 w h) (fun h => (List.mem_append.mp h).elim (fun h => wsL_in_r2 w h) (fun h => (List.mem_append.mp h).elim (fun h => wsL_in_r3 w h) (fun h => (List.mem_append.mp h).elim (fun h => wsL_in_r4 w h) (fun h => (List.mem_append.mp h).elim (fun h => wsL_in_r5 w h) (fun h => (List.mem_append.mp h).elim (fun h => wsL_in_r6 w h) (fun h => (List.mem_append.mp h).elim (fun h => wsL_in_r7 w h) (fun h => (List.mem_append.mp h).elim (fun h => wsL_in_r8 w h) (fun h => (List.mem_append.mp h).elim (fun h => wsL_in_r9 w h) (fun h => (List.mem_append.mp h).elim (fun h => wsL_in_r10 w h) (fun h => (List.mem_append.mp h).elim (fun h => wsL_in_r11 w h) (fun h => (List.mem_append.mp h).elim (fun h => wsL_in_r12 w h) (fun h => (List.mem_append.mp h).elim (fun h => wsL_in_r13 w h) (fun h => (List.mem_append.mp h).elim (fun h => wsL_in_r14 w h) (fun h => (List.mem_append.mp h).elim (fun h => wsL_in_r15 w h) (fun h => (List.mem_append.mp h).elim (fun h => wsL_in_r16 w h) (fun h => (List.mem_append.mp h).elim (fun h => wsL_in_r17 w h) (fun h => (List.mem_append.mp h).elim (fun h => wsL_in_r18 w h) (fun h => (List.mem_append.mp h).elim (fun h => wsL_in_r19 w h) (fun h => wsL_in_r20 w h)))))))))))))))))))) (fun h => wsL_inw_X20 w h)) (fun h => wsL_inw_X40 w h)) (fun h => wsL_inw_X00 w h)) (fun h => wsL_inw_X10 w h)) (fun h => wsL_inw_X30 w h)) (fun h => absurd h List.not_mem_nil)) h
end
section
theorem wsL_law_x0 : ∀ w ∈ (vx_atS RX2 23 "java/lang/IllegalArgumentException" ["java/lang/RuntimeException", "java/lang/Exception"]).filter goodWord, w ∈ lw_tbl := by decide +kernel
theorem wsL_law_x1 : ∀ w ∈ (vx_atS RX2 40 "java/lang/IllegalStateException" ["java/lang/RuntimeException", "java/lang/Exception"]).filter goodWord, w ∈ lw_tbl := by decide +kernel
theorem wsL_law_x2 : ∀ w ∈ (vx_atS RX2 56 "java/lang/IndexOutOfBoundsException" ["java/lang/RuntimeException", "java/lang/Exception"]).filter goodWord, w ∈ lw_tbl := by decide +kernel
theorem wsL_law_in : ∀ w ∈ wsL_law, w ∈ lw_tbl := fun w h => (List.mem_append.mp h).elim (fun h => (List.mem_append.mp h).elim (fun h => (List.mem_append.mp h).elim (fun h => wsL_law_in0 w h) (fun h => wsL_law_x0 w h)) (fun h => wsL_law_x1 w h)) (fun h => wsL_law_x2 w h)
theorem inlX0 : ∀ w ∈ wsX00, w ∈ wsL_law := fun _ h => List.mem_append_left _ (List.mem_append_left _ (List.mem_append_left _ (List.mem_append_left _ (List.mem_append_left _ (List.mem_append_left _ (List.mem_append_right _ h))))))
theorem inX0 : ∀ w ∈ wsX00, w ∈ lw_tbl := fun w h => wsL_law_in w (inlX0 w h)
theorem inlX1 : ∀ w ∈ wsX10, w ∈ wsL_law := fun _ h => List.mem_append_left _ (List.mem_append_left _ (List.mem_append_left _ (List.mem_append_left _ (List.mem_append_left _ (List.mem_append_right _ h)))))
theorem inX1 : ∀ w ∈ wsX10, w ∈ lw_tbl := fun w h => wsL_law_in w (inlX1 w h)
theorem inlX2 : ∀ w ∈ wsX20, w ∈ wsL_law := fun _ h => List.mem_append_left _ (List.mem_append_left _ (List.mem_append_left _ (List.mem_append_left _ (List.mem_append_left _ (List.mem_append_left _ (List.mem_append_left _ (List.mem_append_left _ (List.mem_append_right _ h))))))))
theorem inX2 : ∀ w ∈ wsX20, w ∈ lw_tbl := fun w h => wsL_law_in w (inlX2 w h)
theorem inlX3 : ∀ w ∈ wsX30, w ∈ wsL_law := fun _ h => List.mem_append_left _ (List.mem_append_left _ (List.mem_append_left _ (List.mem_append_left _ (List.mem_append_right _ h))))
theorem inX3 : ∀ w ∈ wsX30, w ∈ lw_tbl := fun w h => wsL_law_in w (inlX3 w h)
theorem inlX4 : ∀ w ∈ wsX40, w ∈ wsL_law := fun _ h => List.mem_append_left _ (List.mem_append_left _ (List.mem_append_left _ (List.mem_append_left _ (List.mem_append_left _ (List.mem_append_left _ (List.mem_append_left _ (List.mem_append_right _ h)))))))
theorem inX4 : ∀ w ∈ wsX40, w ∈ lw_tbl := fun w h => wsL_law_in w (inlX4 w h)
theorem inJ9 : ∀ w ∈ wsJ90, w ∈ lw_tbl := by decide +kernel
theorem inJ0 : ∀ w ∈ wsJ00, w ∈ lw_tbl := by decide +kernel
theorem inJ10 : ∀ w ∈ wsJ100, w ∈ lw_tbl := by decide +kernel
set_option maxRecDepth 20000 in
theorem ggX0_init_X1_init : GoodIn wsX0_init wsX1_init := goodIn_r _ [20, 21, 2, 3, 22, 23, 24, 25, 10, 26, 27, 28, 29, 30, 31, 32, 33, 45, 46, 47, 48, 49, 50, 51, 52, 53, 54, 55, 56] (by decide +kernel) (by decide +kernel)
set_option maxRecDepth 20000 in
theorem gX0_init_X1_init_n36 : GoodIn wsX0_init (wsX1_init) := ggX0_init_X1_init
theorem dX0_init_0 : decode cX0_init 0 = .ok (.aload_n 0, 1) := by decide +kernel
theorem dX0_init_1 : decode cX0_init 1 = .ok (.invokespecial 3, 3) := by decide +kernel
theorem dX0_init_4 : decode cX0_init 4 = .ok (.aload_n 0, 1) := by decide +kernel
theorem dX0_init_5 : decode cX0_init 5 = .ok (.iconst 0, 1) := by decide +kernel
theorem dX0_init_6 : decode cX0_init 6 = .ok (.putfield 9, 3) := by decide +kernel
theorem dX0_init_9 : decode cX0_init 9 = .ok (.aload_n 0, 1) := by decide +kernel
theorem dX0_init_10 : decode cX0_init 10 = .ok (.iconst 0, 1) := by decide +kernel
theorem dX0_init_11 : decode cX0_init 11 = .ok (.putfield 15, 3) := by decide +kernel
theorem dX0_init_14 : decode cX0_init 14 = .ok (.aload_n 0, 1) := by decide +kernel
theorem dX0_init_15 : decode cX0_init 15 = .ok (.bipush 15, 2) := by decide +kernel
theorem dX0_init_17 : decode cX0_init 17 = .ok (.putfield 18, 3) := by decide +kernel
theorem dX0_init_20 : decode cX0_init 20 = .ok (.aload_n 0, 1) := by decide +kernel
theorem dX0_init_21 : decode cX0_init 21 = .ok (.iconst 0, 1) := by decide +kernel
theorem dX0_init_22 : decode cX0_init 22 = .ok (.putfield 21, 3) := by decide +kernel
theorem dX0_init_25 : decode cX0_init 25 = .ok (.aload_n 0, 1) := by decide +kernel
theorem dX0_init_26 : decode cX0_init 26 = .ok (.iconst 0, 1) := by decide +kernel
theorem dX0_init_27 : decode cX0_init 27 = .ok (.putfield 24, 3) := by decide +kernel
theorem dX0_init_30 : decode cX0_init 30 = .ok (.aload_n 0, 1) := by decide +kernel
theorem dX0_init_31 : decode cX0_init 31 = .ok (.iconst 0, 1) := by decide +kernel
theorem dX0_init_32 : decode cX0_init 32 = .ok (.putfield 27, 3) := by decide +kernel
theorem dX0_init_35 : decode cX0_init 35 = .ok (.aload_n 0, 1) := by decide +kernel
theorem dX0_init_36 : decode cX0_init 36 = .ok (.bipush 8, 2) := by decide +kernel
theorem dX0_init_38 : decode cX0_init 38 = .ok (.newarray .int, 2) := by decide +kernel
theorem dX0_init_40 : decode cX0_init 40 = .ok (.putfield 30, 3) := by decide +kernel
theorem dX0_init_43 : decode cX0_init 43 = .ok (.aload_n 0, 1) := by decide +kernel
theorem dX0_init_44 : decode cX0_init 44 = .ok (.new 34, 3) := by decide +kernel
theorem dX0_init_47 : decode cX0_init 47 = .ok (.dup, 1) := by decide +kernel
theorem dX0_init_48 : decode cX0_init 48 = .ok (.invokespecial 36, 3) := by decide +kernel
theorem dX0_init_51 : decode cX0_init 51 = .ok (.putfield 37, 3) := by decide +kernel
theorem dX0_init_54 : decode cX0_init 54 = .ok (.aload_n 0, 1) := by decide +kernel
theorem dX0_init_55 : decode cX0_init 55 = .ok (.iconst (-1), 1) := by decide +kernel
theorem dX0_init_56 : decode cX0_init 56 = .ok (.putfield 41, 3) := by decide +kernel
theorem dX0_init_59 : decode cX0_init 59 = .ok (.aload_n 0, 1) := by decide +kernel
theorem dX0_init_60 : decode cX0_init 60 = .ok (.iconst 0, 1) := by decide +kernel
theorem dX0_init_61 : decode cX0_init 61 = .ok (.putfield 44, 3) := by decide +kernel
theorem dX0_init_64 : decode cX0_init 64 = .ok (.aload_n 0, 1) := by decide +kernel
theorem dX0_init_65 : decode cX0_init 65 = .ok (.iconst 0, 1) := by decide +kernel
theorem dX0_init_66 : decode cX0_init 66 = .ok (.putfield 47, 3) := by decide +kernel
theorem dX0_init_69 : decode cX0_init 69 = .ok (.return_, 1) := by decide +kernel
set_option maxRecDepth 20000 in
theorem ggX0_copyFrom_X1_copyFrom : GoodIn wsX0_copyFrom wsX1_copyFrom := goodIn_r _ [20, 21, 22, 23, 24, 25, 26, 9, 10, 11, 27, 28, 29, 30, 31, 32, 33, 45, 46, 47, 48, 49, 50, 51, 52, 53, 54, 55, 56] (by decide +kernel) (by decide +kernel)
set_option maxRecDepth 20000 in
theorem gX0_copyFrom_X1_copyFrom : GoodIn wsX0_copyFrom (wsV RX0 57 RX1 yX1_copyFrom wsX1_copyFrom) := goodIn_app (goodIn_of _ (by decide +kernel)) ggX0_copyFrom_X1_copyFrom
theorem dX0_copyFrom_0 : decode cX0_copyFrom 0 = .ok (.aload_n 0, 1) := by decide +kernel
theorem dX0_copyFrom_1 : decode cX0_copyFrom 1 = .ok (.aload_n 1, 1) := by decide +kernel
theorem dX0_copyFrom_2 : decode cX0_copyFrom 2 = .ok (.getfield 9, 3) := by decide +kernel
theorem dX0_copyFrom_5 : decode cX0_copyFrom 5 = .ok (.putfield 9, 3) := by decide +kernel
theorem dX0_copyFrom_8 : decode cX0_copyFrom 8 = .ok (.aload_n 0, 1) := by decide +kernel
theorem dX0_copyFrom_9 : decode cX0_copyFrom 9 = .ok (.aload_n 1, 1) := by decide +kernel
theorem dX0_copyFrom_10 : decode cX0_copyFrom 10 = .ok (.getfield 15, 3) := by decide +kernel
theorem dX0_copyFrom_13 : decode cX0_copyFrom 13 = .ok (.putfield 15, 3) := by decide +kernel
theorem dX0_copyFrom_16 : decode cX0_copyFrom 16 = .ok (.aload_n 0, 1) := by decide +kernel
theorem dX0_copyFrom_17 : decode cX0_copyFrom 17 = .ok (.aload_n 1, 1) := by decide +kernel
theorem dX0_copyFrom_18 : decode cX0_copyFrom 18 = .ok (.getfield 18, 3) := by decide +kernel
theorem dX0_copyFrom_21 : decode cX0_copyFrom 21 = .ok (.putfield 18, 3) := by decide +kernel
theorem dX0_copyFrom_24 : decode cX0_copyFrom 24 = .ok (.aload_n 0, 1) := by decide +kernel
theorem dX0_copyFrom_25 : decode cX0_copyFrom 25 = .ok (.aload_n 1, 1) := by decide +kernel
theorem dX0_copyFrom_26 : decode cX0_copyFrom 26 = .ok (.getfield 21, 3) := by decide +kernel
theorem dX0_copyFrom_29 : decode cX0_copyFrom 29 = .ok (.putfield 21, 3) := by decide +kernel
theorem dX0_copyFrom_32 : decode cX0_copyFrom 32 = .ok (.aload_n 0, 1) := by decide +kernel
theorem dX0_copyFrom_33 : decode cX0_copyFrom 33 = .ok (.aload_n 1, 1) := by decide +kernel
theorem dX0_copyFrom_34 : decode cX0_copyFrom 34 = .ok (.getfield 24, 3) := by decide +kernel
theorem dX0_copyFrom_37 : decode cX0_copyFrom 37 = .ok (.putfield 24, 3) := by decide +kernel
theorem dX0_copyFrom_40 : decode cX0_copyFrom 40 = .ok (.aload_n 0, 1) := by decide +kernel
theorem dX0_copyFrom_41 : decode cX0_copyFrom 41 = .ok (.aload_n 1, 1) := by decide +kernel
theorem dX0_copyFrom_42 : decode cX0_copyFrom 42 = .ok (.getfield 27, 3) := by decide +kernel
theorem dX0_copyFrom_45 : decode cX0_copyFrom 45 = .ok (.putfield 27, 3) := by decide +kernel
theorem dX0_copyFrom_48 : decode cX0_copyFrom 48 = .ok (.aload_n 1, 1) := by decide +kernel
theorem dX0_copyFrom_49 : decode cX0_copyFrom 49 = .ok (.getfield 30, 3) := by decide +kernel
theorem dX0_copyFrom_52 : decode cX0_copyFrom 52 = .ok (.iconst 0, 1) := by decide +kernel
theorem dX0_copyFrom_53 : decode cX0_copyFrom 53 = .ok (.aload_n 0, 1) := by decide +kernel
theorem dX0_copyFrom_54 : decode cX0_copyFrom 54 = .ok (.getfield 30, 3) := by decide +kernel
theorem dX0_copyFrom_57 : decode cX0_copyFrom 57 = .ok (.iconst 0, 1) := by decide +kernel
theorem dX0_copyFrom_58 : decode cX0_copyFrom 58 = .ok (.bipush 8, 2) := by decide +kernel
theorem dX0_copyFrom_60 : decode cX0_copyFrom 60 = .ok (.invokestatic 51, 3) := by decide +kernel
theorem dX0_copyFrom_63 : decode cX0_copyFrom 63 = .ok (.aload_n 0, 1) := by decide +kernel
theorem dX0_copyFrom_64 : decode cX0_copyFrom 64 = .ok (.getfield 37, 3) := by decide +kernel
theorem dX0_copyFrom_67 : decode cX0_copyFrom 67 = .ok (.aload_n 1, 1) := by decide +kernel
theorem dX0_copyFrom_68 : decode cX0_copyFrom 68 = .ok (.getfield 37, 3) := by decide +kernel
theorem dX0_copyFrom_71 : decode cX0_copyFrom 71 = .ok (.invokevirtual 57, 3) := by decide +kernel
theorem dX0_copyFrom_74 : decode cX0_copyFrom 74 = .ok (.aload_n 0, 1) := by decide +kernel
theorem dX0_copyFrom_75 : decode cX0_copyFrom 75 = .ok (.aload_n 1, 1) := by decide +kernel
theorem dX0_copyFrom_76 : decode cX0_copyFrom 76 = .ok (.getfield 41, 3) := by decide +kernel
theorem dX0_copyFrom_79 : decode cX0_copyFrom 79 = .ok (.putfield 41, 3) := by decide +kernel
theorem dX0_copyFrom_82 : decode cX0_copyFrom 82 = .ok (.aload_n 0, 1) := by decide +kernel
theorem dX0_copyFrom_83 : decode cX0_copyFrom 83 = .ok (.aload_n 1, 1) := by decide +kernel
theorem dX0_copyFrom_84 : decode cX0_copyFrom 84 = .ok (.getfield 44, 3) := by decide +kernel
theorem dX0_copyFrom_87 : decode cX0_copyFrom 87 = .ok (.putfield 44, 3) := by decide +kernel
theorem dX0_copyFrom_90 : decode cX0_copyFrom 90 = .ok (.aload_n 0, 1) := by decide +kernel
theorem dX0_copyFrom_91 : decode cX0_copyFrom 91 = .ok (.aload_n 1, 1) := by decide +kernel
theorem dX0_copyFrom_92 : decode cX0_copyFrom 92 = .ok (.getfield 47, 3) := by decide +kernel
theorem dX0_copyFrom_95 : decode cX0_copyFrom 95 = .ok (.putfield 47, 3) := by decide +kernel
theorem dX0_copyFrom_98 : decode cX0_copyFrom 98 = .ok (.return_, 1) := by decide +kernel
set_option maxRecDepth 20000 in
theorem ggX0_goOn_X0_goOneMinute : GoodIn wsX0_goOn wsX0_goOneMinute := goodIn_r _ [5, 6, 7, 8, 9, 10, 11, 12, 13, 4, 14, 15, 16, 17, 18, 19, 20, 21, 22, 23, 24, 25, 26, 27, 28, 29, 30, 31, 32, 33, 34, 35, 36, 37, 38, 39, 40, 41, 42, 43, 44, 45, 46, 47, 48, 49, 50, 51, 52, 53, 54, 55, 56, 57, 58, 59, 60, 61, 62, 63, 64, 65, 66, 67, 68, 69, 70, 71, 72, 73, 74, 75, 76, 77, 78, 79, 80, 81, 82, 83, 84, 85, 86, 87, 88, 89, 90, 91, 92, 93, 94, 95, 96, 97, 98, 99, 100, 101, 102, 103, 104, 105, 106, 107, 108, 109, 110, 111, 112, 113, 114] (by decide +kernel) (by decide +kernel)
set_option maxRecDepth 20000 in
theorem gX0_goOn_X0_goOneMinute : GoodIn wsX0_goOn (wsV RX0 61 RX0 yX0_goOneMinute wsX0_goOneMinute) := goodIn_app (goodIn_of _ (by decide +kernel)) ggX0_goOn_X0_goOneMinute
theorem dX0_goOn_0 : decode cX0_goOn 0 = .ok (.iconst 0, 1) := by decide +kernel
theorem dX0_goOn_1 : decode cX0_goOn 1 = .ok (.istore_n 2, 1) := by decide +kernel
theorem dX0_goOn_2 : decode cX0_goOn 2 = .ok (.iload_n 2, 1) := by decide +kernel
theorem dX0_goOn_3 : decode cX0_goOn 3 = .ok (.iload_n 1, 1) := by decide +kernel
theorem dX0_goOn_4 : decode cX0_goOn 4 = .ok (.if_icmp .ge 13, 3) := by decide +kernel
theorem dX0_goOn_7 : decode cX0_goOn 7 = .ok (.aload_n 0, 1) := by decide +kernel
theorem dX0_goOn_8 : decode cX0_goOn 8 = .ok (.invokevirtual 61, 3) := by decide +kernel
theorem dX0_goOn_11 : decode cX0_goOn 11 = .ok (.iinc 2 1, 3) := by decide +kernel
theorem dX0_goOn_14 : decode cX0_goOn 14 = .ok (.goto (-12), 3) := by decide +kernel
theorem dX0_goOn_17 : decode cX0_goOn 17 = .ok (.return_, 1) := by decide +kernel
set_option maxRecDepth 20000 in
theorem ggX0_goOneMinute_X0_servedNext : GoodIn wsX0_goOneMinute wsX0_servedNext := goodIn_r _ [10, 11, 12, 2, 13, 14, 15, 16, 17, 18, 19, 20, 21, 22, 23, 24, 25, 26, 27, 28, 29, 30, 31, 32, 88, 89, 90, 91, 92, 93, 94, 95, 96, 97, 98, 99, 100, 101, 102, 103, 104, 105, 106, 107, 108, 109, 110] (by decide +kernel) (by decide +kernel)
set_option maxRecDepth 20000 in
theorem gX0_goOneMinute_X0_servedNext : GoodIn wsX0_goOneMinute (wsV RX0 64 RX0 yX0_servedNext wsX0_servedNext) := goodIn_app (goodIn_of _ (by decide +kernel)) ggX0_goOneMinute_X0_servedNext
set_option maxRecDepth 20000 in
theorem ggX0_goOneMinute_X0_serve : GoodIn wsX0_goOneMinute wsX0_serve := goodIn_r _ [36, 2, 37, 38, 11, 39, 40, 13, 5, 41, 22, 23, 24, 42, 43, 44, 45, 46, 47, 17, 48, 49, 50, 51, 52, 53, 54, 55, 56, 57, 58, 59, 60, 61, 19, 20, 62, 63, 64, 65, 9, 66, 67, 68, 88, 89, 90, 91, 92, 93, 94, 95, 96, 97, 98, 99, 100, 101, 102, 103, 104, 105, 106, 107, 108, 109, 110] (by decide +kernel) (by decide +kernel)
set_option maxRecDepth 20000 in
theorem gX0_goOneMinute_X0_serve : GoodIn wsX0_goOneMinute (wsV RX0 68 RX0 yX0_serve wsX0_serve) := goodIn_app (goodIn_of _ (by decide +kernel)) ggX0_goOneMinute_X0_serve
set_option maxRecDepth 20000 in
theorem ggX0_goOneMinute_X0_goOnPassing : GoodIn wsX0_goOneMinute wsX0_goOnPassing := goodIn_r _ [72, 2, 11, 40, 5, 45, 46, 47, 17, 48, 49, 73, 74, 75, 76, 54, 77, 78, 88, 89, 90, 91, 92, 93, 94, 95, 96, 97, 98, 99, 100, 101, 102, 103, 104, 105, 106, 107, 108, 109, 110] (by decide +kernel) (by decide +kernel)
set_option maxRecDepth 20000 in
theorem gX0_goOneMinute_X0_goOnPassing : GoodIn wsX0_goOneMinute (wsV RX0 72 RX0 yX0_goOnPassing wsX0_goOnPassing) := goodIn_app (goodIn_of _ (by decide +kernel)) ggX0_goOneMinute_X0_goOnPassing
set_option maxRecDepth 20000 in
theorem ggX0_goOneMinute_X0_freeze : GoodIn wsX0_goOneMinute wsX0_freeze := goodIn_r _ [82, 5, 68, 83, 41, 22, 23, 24, 42, 43, 44, 84, 85, 86, 87, 88, 89, 90, 91, 92, 93, 94, 95, 96, 97, 98] (by decide +kernel) (by decide +kernel)
set_option maxRecDepth 20000 in
theorem gX0_goOneMinute_X0_freeze : GoodIn wsX0_goOneMinute (wsV RX0 81 RX0 yX0_freeze wsX0_freeze) := goodIn_app (goodIn_of _ (by decide +kernel)) ggX0_goOneMinute_X0_freeze
theorem dX0_goOneMinute_0 : decode cX0_goOneMinute 0 = .ok (.aload_n 0, 1) := by decide +kernel
theorem dX0_goOneMinute_1 : decode cX0_goOneMinute 1 = .ok (.aload_n 0, 1) := by decide +kernel
theorem dX0_goOneMinute_2 : decode cX0_goOneMinute 2 = .ok (.invokevirtual 64, 3) := by decide +kernel
theorem dX0_goOneMinute_5 : decode cX0_goOneMinute 5 = .ok (.invokevirtual 68, 3) := by decide +kernel
theorem dX0_goOneMinute_8 : decode cX0_goOneMinute 8 = .ok (.aload_n 0, 1) := by decide +kernel
theorem dX0_goOneMinute_9 : decode cX0_goOneMinute 9 = .ok (.invokevirtual 72, 3) := by decide +kernel
theorem dX0_goOneMinute_12 : decode cX0_goOneMinute 12 = .ok (.aload_n 0, 1) := by decide +kernel
theorem dX0_goOneMinute_13 : decode cX0_goOneMinute 13 = .ok (.dup, 1) := by decide +kernel
theorem dX0_goOneMinute_14 : decode cX0_goOneMinute 14 = .ok (.getfield 27, 3) := by decide +kernel
theorem dX0_goOneMinute_17 : decode cX0_goOneMinute 17 = .ok (.aload_n 0, 1) := by decide +kernel
theorem dX0_goOneMinute_18 : decode cX0_goOneMinute 18 = .ok (.getfield 37, 3) := by decide +kernel
theorem dX0_goOneMinute_21 : decode cX0_goOneMinute 21 = .ok (.getfield 75, 3) := by decide +kernel
theorem dX0_goOneMinute_24 : decode cX0_goOneMinute 24 = .ok (.aload_n 0, 1) := by decide +kernel
theorem dX0_goOneMinute_25 : decode cX0_goOneMinute 25 = .ok (.getfield 37, 3) := by decide +kernel
theorem dX0_goOneMinute_28 : decode cX0_goOneMinute 28 = .ok (.getfield 78, 3) := by decide +kernel
theorem dX0_goOneMinute_31 : decode cX0_goOneMinute 31 = .ok (.iadd, 1) := by decide +kernel
theorem dX0_goOneMinute_32 : decode cX0_goOneMinute 32 = .ok (.iadd, 1) := by decide +kernel
theorem dX0_goOneMinute_33 : decode cX0_goOneMinute 33 = .ok (.putfield 27, 3) := by decide +kernel
theorem dX0_goOneMinute_36 : decode cX0_goOneMinute 36 = .ok (.aload_n 0, 1) := by decide +kernel
theorem dX0_goOneMinute_37 : decode cX0_goOneMinute 37 = .ok (.invokevirtual 81, 3) := by decide +kernel
theorem dX0_goOneMinute_40 : decode cX0_goOneMinute 40 = .ok (.aload_n 0, 1) := by decide +kernel
theorem dX0_goOneMinute_41 : decode cX0_goOneMinute 41 = .ok (.dup, 1) := by decide +kernel
theorem dX0_goOneMinute_42 : decode cX0_goOneMinute 42 = .ok (.getfield 9, 3) := by decide +kernel
theorem dX0_goOneMinute_45 : decode cX0_goOneMinute 45 = .ok (.iconst 1, 1) := by decide +kernel
theorem dX0_goOneMinute_46 : decode cX0_goOneMinute 46 = .ok (.iadd, 1) := by decide +kernel
theorem dX0_goOneMinute_47 : decode cX0_goOneMinute 47 = .ok (.putfield 9, 3) := by decide +kernel
theorem dX0_goOneMinute_50 : decode cX0_goOneMinute 50 = .ok (.return_, 1) := by decide +kernel
theorem dX0_speedTowards_0 : decode cX0_speedTowards 0 = .ok (.aload_n 0, 1) := by decide +kernel
theorem dX0_speedTowards_1 : decode cX0_speedTowards 1 = .ok (.getfield 18, 3) := by decide +kernel
theorem dX0_speedTowards_4 : decode cX0_speedTowards 4 = .ok (.bipush 6, 2) := by decide +kernel
theorem dX0_speedTowards_6 : decode cX0_speedTowards 6 = .ok (.idiv, 1) := by decide +kernel
theorem dX0_speedTowards_7 : decode cX0_speedTowards 7 = .ok (.istore_n 2, 1) := by decide +kernel
theorem dX0_speedTowards_8 : decode cX0_speedTowards 8 = .ok (.iload_n 1, 1) := by decide +kernel
theorem dX0_speedTowards_9 : decode cX0_speedTowards 9 = .ok (.ifCond .eq 9, 3) := by decide +kernel
theorem dX0_speedTowards_12 : decode cX0_speedTowards 12 = .ok (.iconst 1, 1) := by decide +kernel
theorem dX0_speedTowards_13 : decode cX0_speedTowards 13 = .ok (.iload_n 2, 1) := by decide +kernel
theorem dX0_speedTowards_14 : decode cX0_speedTowards 14 = .ok (.iadd, 1) := by decide +kernel
theorem dX0_speedTowards_15 : decode cX0_speedTowards 15 = .ok (.goto 7, 3) := by decide +kernel
theorem dX0_speedTowards_18 : decode cX0_speedTowards 18 = .ok (.bipush 6, 2) := by decide +kernel
theorem dX0_speedTowards_20 : decode cX0_speedTowards 20 = .ok (.iload_n 2, 1) := by decide +kernel
theorem dX0_speedTowards_21 : decode cX0_speedTowards 21 = .ok (.isub, 1) := by decide +kernel
theorem dX0_speedTowards_22 : decode cX0_speedTowards 22 = .ok (.istore_n 3, 1) := by decide +kernel
theorem dX0_speedTowards_23 : decode cX0_speedTowards 23 = .ok (.aload_n 0, 1) := by decide +kernel
theorem dX0_speedTowards_24 : decode cX0_speedTowards 24 = .ok (.getfield 21, 3) := by decide +kernel
theorem dX0_speedTowards_27 : decode cX0_speedTowards 27 = .ok (.iconst 5, 1) := by decide +kernel
theorem dX0_speedTowards_28 : decode cX0_speedTowards 28 = .ok (.if_icmp .lt 13, 3) := by decide +kernel
theorem dX0_speedTowards_31 : decode cX0_speedTowards 31 = .ok (.iconst 1, 1) := by decide +kernel
theorem dX0_speedTowards_32 : decode cX0_speedTowards 32 = .ok (.iload_n 3, 1) := by decide +kernel
theorem dX0_speedTowards_33 : decode cX0_speedTowards 33 = .ok (.iconst 2, 1) := by decide +kernel
theorem dX0_speedTowards_34 : decode cX0_speedTowards 34 = .ok (.idiv, 1) := by decide +kernel
theorem dX0_speedTowards_35 : decode cX0_speedTowards 35 = .ok (.invokestatic 84, 3) := by decide +kernel
theorem dX0_speedTowards_38 : decode cX0_speedTowards 38 = .ok (.goto 4, 3) := by decide +kernel
theorem dX0_speedTowards_41 : decode cX0_speedTowards 41 = .ok (.iload_n 3, 1) := by decide +kernel
theorem dX0_speedTowards_42 : decode cX0_speedTowards 42 = .ok (.ireturn, 1) := by decide +kernel
set_option maxRecDepth 20000 in
theorem ggX0_servedNext_X1_firstOfAll : GoodIn wsX0_servedNext wsX1_firstOfAll := goodIn_r _ [9, 10, 11, 12, 13, 14, 15, 35, 36, 37, 38, 39, 40, 41, 42, 43, 44, 45, 46] (by decide +kernel) (by decide +kernel)
set_option maxRecDepth 20000 in
theorem gX0_servedNext_X1_firstOfAll : GoodIn wsX0_servedNext (wsV RX0 90 RX1 yX1_firstOfAll wsX1_firstOfAll) := goodIn_app (goodIn_of _ (by decide +kernel)) ggX0_servedNext_X1_firstOfAll
set_option maxRecDepth 20000 in
theorem ggX0_servedNext_X1_firstBargeElseCart : GoodIn wsX0_servedNext wsX1_firstBargeElseCart := goodIn_r _ [19, 10, 11, 35, 36, 37, 38, 39, 40, 41, 42, 43, 44, 45, 46] (by decide +kernel) (by decide +kernel)
set_option maxRecDepth 20000 in
theorem gX0_servedNext_X1_firstBargeElseCart : GoodIn wsX0_servedNext (wsV RX0 93 RX1 yX1_firstBargeElseCart wsX1_firstBargeElseCart) := goodIn_app (goodIn_of _ (by decide +kernel)) ggX0_servedNext_X1_firstBargeElseCart
set_option maxRecDepth 20000 in
theorem ggX0_servedNext_X1_firstCartElseBarge : GoodIn wsX0_servedNext wsX1_firstCartElseBarge := goodIn_r _ [23, 11, 10, 35, 36, 37, 38, 39, 40, 41, 42, 43, 44, 45, 46] (by decide +kernel) (by decide +kernel)
set_option maxRecDepth 20000 in
theorem gX0_servedNext_X1_firstCartElseBarge : GoodIn wsX0_servedNext (wsV RX0 96 RX1 yX1_firstCartElseBarge wsX1_firstCartElseBarge) := goodIn_app (goodIn_of _ (by decide +kernel)) ggX0_servedNext_X1_firstCartElseBarge
theorem dX0_servedNext_0 : decode cX0_servedNext 0 = .ok (.aload_n 0, 1) := by decide +kernel
theorem dX0_servedNext_1 : decode cX0_servedNext 1 = .ok (.getfield 41, 3) := by decide +kernel
theorem dX0_servedNext_4 : decode cX0_servedNext 4 = .ok (.iconst (-1), 1) := by decide +kernel
theorem dX0_servedNext_5 : decode cX0_servedNext 5 = .ok (.if_icmp .eq 5, 3) := by decide +kernel
theorem dX0_servedNext_8 : decode cX0_servedNext 8 = .ok (.iconst (-1), 1) := by decide +kernel
theorem dX0_servedNext_9 : decode cX0_servedNext 9 = .ok (.ireturn, 1) := by decide +kernel
theorem dX0_servedNext_10 : decode cX0_servedNext 10 = .ok (.aload_n 0, 1) := by decide +kernel
theorem dX0_servedNext_11 : decode cX0_servedNext 11 = .ok (.getfield 24, 3) := by decide +kernel
theorem dX0_servedNext_14 : decode cX0_servedNext 14 = .ok (.tableswitch 79 0 3 #[30, 38, 46, 54], 30) := by decide +kernel
theorem dX0_servedNext_44 : decode cX0_servedNext 44 = .ok (.aload_n 0, 1) := by decide +kernel
theorem dX0_servedNext_45 : decode cX0_servedNext 45 = .ok (.getfield 37, 3) := by decide +kernel
theorem dX0_servedNext_48 : decode cX0_servedNext 48 = .ok (.invokevirtual 90, 3) := by decide +kernel
theorem dX0_servedNext_51 : decode cX0_servedNext 51 = .ok (.ireturn, 1) := by decide +kernel
theorem dX0_servedNext_52 : decode cX0_servedNext 52 = .ok (.aload_n 0, 1) := by decide +kernel
theorem dX0_servedNext_53 : decode cX0_servedNext 53 = .ok (.getfield 37, 3) := by decide +kernel
theorem dX0_servedNext_56 : decode cX0_servedNext 56 = .ok (.invokevirtual 93, 3) := by decide +kernel
theorem dX0_servedNext_59 : decode cX0_servedNext 59 = .ok (.ireturn, 1) := by decide +kernel
theorem dX0_servedNext_60 : decode cX0_servedNext 60 = .ok (.aload_n 0, 1) := by decide +kernel
theorem dX0_servedNext_61 : decode cX0_servedNext 61 = .ok (.getfield 37, 3) := by decide +kernel
theorem dX0_servedNext_64 : decode cX0_servedNext 64 = .ok (.invokevirtual 96, 3) := by decide +kernel
theorem dX0_servedNext_67 : decode cX0_servedNext 67 = .ok (.ireturn, 1) := by decide +kernel
theorem dX0_servedNext_68 : decode cX0_servedNext 68 = .ok (.aload_n 0, 1) := by decide +kernel
theorem dX0_servedNext_69 : decode cX0_servedNext 69 = .ok (.getfield 47, 3) := by decide +kernel
theorem dX0_servedNext_72 : decode cX0_servedNext 72 = .ok (.ifCond .eq 13, 3) := by decide +kernel
theorem dX0_servedNext_75 : decode cX0_servedNext 75 = .ok (.aload_n 0, 1) := by decide +kernel
theorem dX0_servedNext_76 : decode cX0_servedNext 76 = .ok (.getfield 37, 3) := by decide +kernel
theorem dX0_servedNext_79 : decode cX0_servedNext 79 = .ok (.invokevirtual 96, 3) := by decide +kernel
theorem dX0_servedNext_82 : decode cX0_servedNext 82 = .ok (.goto 10, 3) := by decide +kernel
theorem dX0_servedNext_85 : decode cX0_servedNext 85 = .ok (.aload_n 0, 1) := by decide +kernel
theorem dX0_servedNext_86 : decode cX0_servedNext 86 = .ok (.getfield 37, 3) := by decide +kernel
theorem dX0_servedNext_89 : decode cX0_servedNext 89 = .ok (.invokevirtual 93, 3) := by decide +kernel
theorem dX0_servedNext_92 : decode cX0_servedNext 92 = .ok (.ireturn, 1) := by decide +kernel
theorem dX0_servedNext_93 : decode cX0_servedNext 93 = .ok (.iconst (-1), 1) := by decide +kernel
theorem dX0_servedNext_94 : decode cX0_servedNext 94 = .ok (.ireturn, 1) := by decide +kernel
set_option maxRecDepth 20000 in
theorem ggX0_serve_X1_has : GoodIn wsX0_serve wsX1_has := goodIn_r _ [20, 21, 55, 56, 57, 58, 59, 60, 61, 62, 63, 64, 65, 66] (by decide +kernel) (by decide +kernel)
set_option maxRecDepth 20000 in
theorem gX0_serve_X1_has : GoodIn wsX0_serve (wsV RX0 99 RX1 yX1_has wsX1_has) := goodIn_app (goodIn_of _ (by decide +kernel)) ggX0_serve_X1_has
set_option maxRecDepth 20000 in
theorem ggX0_serve_X1_endWait : GoodIn wsX0_serve wsX1_endWait := goodIn_r _ [25, 26, 27, 28, 29, 30, 19, 31, 32, 33, 34, 35, 21, 36, 55, 56, 57, 58, 59, 60, 61, 62, 63, 64, 65, 66] (by decide +kernel) (by decide +kernel)
set_option maxRecDepth 20000 in
theorem gX0_serve_X1_endWait : GoodIn wsX0_serve (wsV RX0 109 RX1 yX1_endWait wsX1_endWait) := goodIn_app (goodIn_of _ (by decide +kernel)) ggX0_serve_X1_endWait
set_option maxRecDepth 20000 in
theorem ggX0_serve_X0_speedTowards : GoodIn wsX0_serve wsX0_speedTowards := goodIn_r _ [41, 42, 43, 13, 14, 11, 15, 44, 45, 46, 47, 48, 49, 50, 51, 52, 53, 54] (by decide +kernel) (by decide +kernel)
set_option maxRecDepth 20000 in
theorem gX0_serve_X0_speedTowards : GoodIn wsX0_serve (wsV RX0 113 RX0 yX0_speedTowards wsX0_speedTowards) := goodIn_app (goodIn_of _ (by decide +kernel)) ggX0_serve_X0_speedTowards
theorem dX0_serve_0 : decode cX0_serve 0 = .ok (.aload_n 0, 1) := by decide +kernel
theorem dX0_serve_1 : decode cX0_serve 1 = .ok (.getfield 37, 3) := by decide +kernel
theorem dX0_serve_4 : decode cX0_serve 4 = .ok (.iload_n 1, 1) := by decide +kernel
theorem dX0_serve_5 : decode cX0_serve 5 = .ok (.invokevirtual 99, 3) := by decide +kernel
theorem dX0_serve_8 : decode cX0_serve 8 = .ok (.ifCond .ne 4, 3) := by decide +kernel
theorem dX0_serve_11 : decode cX0_serve 11 = .ok (.return_, 1) := by decide +kernel
theorem dX0_serve_12 : decode cX0_serve 12 = .ok (.aload_n 0, 1) := by decide +kernel
theorem dX0_serve_13 : decode cX0_serve 13 = .ok (.getfield 37, 3) := by decide +kernel
theorem dX0_serve_16 : decode cX0_serve 16 = .ok (.getfield 103, 3) := by decide +kernel
theorem dX0_serve_19 : decode cX0_serve 19 = .ok (.iload_n 1, 1) := by decide +kernel
theorem dX0_serve_20 : decode cX0_serve 20 = .ok (.iaload, 1) := by decide +kernel
theorem dX0_serve_21 : decode cX0_serve 21 = .ok (.iconst 1, 1) := by decide +kernel
theorem dX0_serve_22 : decode cX0_serve 22 = .ok (.if_icmp .ne 7, 3) := by decide +kernel
theorem dX0_serve_25 : decode cX0_serve 25 = .ok (.iconst 1, 1) := by decide +kernel
theorem dX0_serve_26 : decode cX0_serve 26 = .ok (.goto 4, 3) := by decide +kernel
theorem dX0_serve_29 : decode cX0_serve 29 = .ok (.iconst 0, 1) := by decide +kernel
theorem dX0_serve_30 : decode cX0_serve 30 = .ok (.istore_n 2, 1) := by decide +kernel
theorem dX0_serve_31 : decode cX0_serve 31 = .ok (.aload_n 0, 1) := by decide +kernel
theorem dX0_serve_32 : decode cX0_serve 32 = .ok (.getfield 15, 3) := by decide +kernel
theorem dX0_serve_35 : decode cX0_serve 35 = .ok (.iload_n 2, 1) := by decide +kernel
theorem dX0_serve_36 : decode cX0_serve 36 = .ok (.ifCond .eq 8, 3) := by decide +kernel
theorem dX0_serve_39 : decode cX0_serve 39 = .ok (.bipush 60, 2) := by decide +kernel
theorem dX0_serve_41 : decode cX0_serve 41 = .ok (.goto 4, 3) := by decide +kernel
theorem dX0_serve_44 : decode cX0_serve 44 = .ok (.iconst 0, 1) := by decide +kernel
theorem dX0_serve_45 : decode cX0_serve 45 = .ok (.if_icmp .ne 42, 3) := by decide +kernel
theorem dX0_serve_48 : decode cX0_serve 48 = .ok (.aload_n 0, 1) := by decide +kernel
theorem dX0_serve_49 : decode cX0_serve 49 = .ok (.iload_n 1, 1) := by decide +kernel
theorem dX0_serve_50 : decode cX0_serve 50 = .ok (.putfield 41, 3) := by decide +kernel
theorem dX0_serve_53 : decode cX0_serve 53 = .ok (.aload_n 0, 1) := by decide +kernel
theorem dX0_serve_54 : decode cX0_serve 54 = .ok (.aload_n 0, 1) := by decide +kernel
theorem dX0_serve_55 : decode cX0_serve 55 = .ok (.getfield 37, 3) := by decide +kernel
theorem dX0_serve_58 : decode cX0_serve 58 = .ok (.getfield 106, 3) := by decide +kernel
theorem dX0_serve_61 : decode cX0_serve 61 = .ok (.iload_n 1, 1) := by decide +kernel
theorem dX0_serve_62 : decode cX0_serve 62 = .ok (.iaload, 1) := by decide +kernel
theorem dX0_serve_63 : decode cX0_serve 63 = .ok (.putfield 44, 3) := by decide +kernel
theorem dX0_serve_66 : decode cX0_serve 66 = .ok (.aload_n 0, 1) := by decide +kernel
theorem dX0_serve_67 : decode cX0_serve 67 = .ok (.iload_n 2, 1) := by decide +kernel
theorem dX0_serve_68 : decode cX0_serve 68 = .ok (.putfield 47, 3) := by decide +kernel
theorem dX0_serve_71 : decode cX0_serve 71 = .ok (.aload_n 0, 1) := by decide +kernel
theorem dX0_serve_72 : decode cX0_serve 72 = .ok (.getfield 37, 3) := by decide +kernel
theorem dX0_serve_75 : decode cX0_serve 75 = .ok (.iload_n 1, 1) := by decide +kernel
theorem dX0_serve_76 : decode cX0_serve 76 = .ok (.iconst 1, 1) := by decide +kernel
theorem dX0_serve_77 : decode cX0_serve 77 = .ok (.aload_n 0, 1) := by decide +kernel
theorem dX0_serve_78 : decode cX0_serve 78 = .ok (.getfield 9, 3) := by decide +kernel
theorem dX0_serve_81 : decode cX0_serve 81 = .ok (.invokevirtual 109, 3) := by decide +kernel
theorem dX0_serve_84 : decode cX0_serve 84 = .ok (.goto 47, 3) := by decide +kernel
theorem dX0_serve_87 : decode cX0_serve 87 = .ok (.iload_n 2, 1) := by decide +kernel
theorem dX0_serve_88 : decode cX0_serve 88 = .ok (.ifCond .eq 25, 3) := by decide +kernel
theorem dX0_serve_91 : decode cX0_serve 91 = .ok (.aload_n 0, 1) := by decide +kernel
theorem dX0_serve_92 : decode cX0_serve 92 = .ok (.bipush 60, 2) := by decide +kernel
theorem dX0_serve_94 : decode cX0_serve 94 = .ok (.aload_n 0, 1) := by decide +kernel
theorem dX0_serve_95 : decode cX0_serve 95 = .ok (.getfield 15, 3) := by decide +kernel
theorem dX0_serve_98 : decode cX0_serve 98 = .ok (.aload_n 0, 1) := by decide +kernel
theorem dX0_serve_99 : decode cX0_serve 99 = .ok (.iconst 1, 1) := by decide +kernel
theorem dX0_serve_100 : decode cX0_serve 100 = .ok (.invokevirtual 113, 3) := by decide +kernel
theorem dX0_serve_103 : decode cX0_serve 103 = .ok (.iadd, 1) := by decide +kernel
theorem dX0_serve_104 : decode cX0_serve 104 = .ok (.invokestatic 117, 3) := by decide +kernel
theorem dX0_serve_107 : decode cX0_serve 107 = .ok (.putfield 15, 3) := by decide +kernel
theorem dX0_serve_110 : decode cX0_serve 110 = .ok (.goto 21, 3) := by decide +kernel
theorem dX0_serve_113 : decode cX0_serve 113 = .ok (.aload_n 0, 1) := by decide +kernel
theorem dX0_serve_114 : decode cX0_serve 114 = .ok (.iconst 0, 1) := by decide +kernel
theorem dX0_serve_115 : decode cX0_serve 115 = .ok (.aload_n 0, 1) := by decide +kernel
theorem dX0_serve_116 : decode cX0_serve 116 = .ok (.getfield 15, 3) := by decide +kernel
theorem dX0_serve_119 : decode cX0_serve 119 = .ok (.aload_n 0, 1) := by decide +kernel
theorem dX0_serve_120 : decode cX0_serve 120 = .ok (.iconst 0, 1) := by decide +kernel
theorem dX0_serve_121 : decode cX0_serve 121 = .ok (.invokevirtual 113, 3) := by decide +kernel
theorem dX0_serve_124 : decode cX0_serve 124 = .ok (.isub, 1) := by decide +kernel
theorem dX0_serve_125 : decode cX0_serve 125 = .ok (.invokestatic 84, 3) := by decide +kernel
theorem dX0_serve_128 : decode cX0_serve 128 = .ok (.putfield 15, 3) := by decide +kernel
theorem dX0_serve_131 : decode cX0_serve 131 = .ok (.return_, 1) := by decide +kernel
set_option maxRecDepth 20000 in
theorem ggX0_goOnPassing_X1_has : GoodIn wsX0_goOnPassing wsX1_has := goodIn_r _ [9, 10, 29, 30, 31, 32, 33, 34, 35, 36, 37, 38, 39, 40] (by decide +kernel) (by decide +kernel)
set_option maxRecDepth 20000 in
theorem gX0_goOnPassing_X1_has : GoodIn wsX0_goOnPassing (wsV RX0 99 RX1 yX1_has wsX1_has) := goodIn_app (goodIn_of _ (by decide +kernel)) ggX0_goOnPassing_X1_has
set_option maxRecDepth 20000 in
theorem ggX0_goOnPassing_X1_endPassage : GoodIn wsX0_goOnPassing wsX1_endPassage := goodIn_r _ [14, 15, 16, 17, 29, 30, 31, 32, 33, 34, 35, 36, 37, 38, 39, 40] (by decide +kernel) (by decide +kernel)
set_option maxRecDepth 20000 in
theorem gX0_goOnPassing_X1_endPassage : GoodIn wsX0_goOnPassing (wsV RX0 120 RX1 yX1_endPassage wsX1_endPassage) := goodIn_app (goodIn_of _ (by decide +kernel)) ggX0_goOnPassing_X1_endPassage
theorem dX0_goOnPassing_0 : decode cX0_goOnPassing 0 = .ok (.aload_n 0, 1) := by decide +kernel
theorem dX0_goOnPassing_1 : decode cX0_goOnPassing 1 = .ok (.getfield 37, 3) := by decide +kernel
theorem dX0_goOnPassing_4 : decode cX0_goOnPassing 4 = .ok (.aload_n 0, 1) := by decide +kernel
theorem dX0_goOnPassing_5 : decode cX0_goOnPassing 5 = .ok (.getfield 41, 3) := by decide +kernel
theorem dX0_goOnPassing_8 : decode cX0_goOnPassing 8 = .ok (.invokevirtual 99, 3) := by decide +kernel
theorem dX0_goOnPassing_11 : decode cX0_goOnPassing 11 = .ok (.ifCond .ne 4, 3) := by decide +kernel
theorem dX0_goOnPassing_14 : decode cX0_goOnPassing 14 = .ok (.return_, 1) := by decide +kernel
theorem dX0_goOnPassing_15 : decode cX0_goOnPassing 15 = .ok (.aload_n 0, 1) := by decide +kernel
theorem dX0_goOnPassing_16 : decode cX0_goOnPassing 16 = .ok (.dup, 1) := by decide +kernel
theorem dX0_goOnPassing_17 : decode cX0_goOnPassing 17 = .ok (.getfield 44, 3) := by decide +kernel
theorem dX0_goOnPassing_20 : decode cX0_goOnPassing 20 = .ok (.iconst 1, 1) := by decide +kernel
theorem dX0_goOnPassing_21 : decode cX0_goOnPassing 21 = .ok (.isub, 1) := by decide +kernel
theorem dX0_goOnPassing_22 : decode cX0_goOnPassing 22 = .ok (.putfield 44, 3) := by decide +kernel
theorem dX0_goOnPassing_25 : decode cX0_goOnPassing 25 = .ok (.aload_n 0, 1) := by decide +kernel
theorem dX0_goOnPassing_26 : decode cX0_goOnPassing 26 = .ok (.getfield 44, 3) := by decide +kernel
theorem dX0_goOnPassing_29 : decode cX0_goOnPassing 29 = .ok (.ifCond .gt 23, 3) := by decide +kernel
theorem dX0_goOnPassing_32 : decode cX0_goOnPassing 32 = .ok (.aload_n 0, 1) := by decide +kernel
theorem dX0_goOnPassing_33 : decode cX0_goOnPassing 33 = .ok (.getfield 37, 3) := by decide +kernel
theorem dX0_goOnPassing_36 : decode cX0_goOnPassing 36 = .ok (.aload_n 0, 1) := by decide +kernel
theorem dX0_goOnPassing_37 : decode cX0_goOnPassing 37 = .ok (.getfield 41, 3) := by decide +kernel
theorem dX0_goOnPassing_40 : decode cX0_goOnPassing 40 = .ok (.aload_n 0, 1) := by decide +kernel
theorem dX0_goOnPassing_41 : decode cX0_goOnPassing 41 = .ok (.getfield 9, 3) := by decide +kernel
theorem dX0_goOnPassing_44 : decode cX0_goOnPassing 44 = .ok (.invokevirtual 120, 3) := by decide +kernel
theorem dX0_goOnPassing_47 : decode cX0_goOnPassing 47 = .ok (.aload_n 0, 1) := by decide +kernel
theorem dX0_goOnPassing_48 : decode cX0_goOnPassing 48 = .ok (.iconst (-1), 1) := by decide +kernel
theorem dX0_goOnPassing_49 : decode cX0_goOnPassing 49 = .ok (.putfield 41, 3) := by decide +kernel
theorem dX0_goOnPassing_52 : decode cX0_goOnPassing 52 = .ok (.return_, 1) := by decide +kernel
set_option maxRecDepth 20000 in
theorem ggX0_freeze_J9_floorMod_7cf53 : GoodIn wsX0_freeze wsJ9_floorMod_7cf53 := goodIn_r _ [14] (by decide +kernel) (by decide +kernel)
set_option maxRecDepth 20000 in
theorem gX0_freeze_J9_floorMod_7cf53 : GoodIn wsX0_freeze (va_wsS RX0 124 yJ9_floorMod_7cf53 wsJ9_floorMod_7cf53) := goodIn_app (goodIn_of _ (by decide +kernel)) ggX0_freeze_J9_floorMod_7cf53
theorem dX0_freeze_0 : decode cX0_freeze 0 = .ok (.aload_n 0, 1) := by decide +kernel
theorem dX0_freeze_1 : decode cX0_freeze 1 = .ok (.getfield 9, 3) := by decide +kernel
theorem dX0_freeze_4 : decode cX0_freeze 4 = .ok (.bipush 60, 2) := by decide +kernel
theorem dX0_freeze_6 : decode cX0_freeze 6 = .ok (.irem, 1) := by decide +kernel
theorem dX0_freeze_7 : decode cX0_freeze 7 = .ok (.ifCond .eq 4, 3) := by decide +kernel
theorem dX0_freeze_10 : decode cX0_freeze 10 = .ok (.return_, 1) := by decide +kernel
theorem dX0_freeze_11 : decode cX0_freeze 11 = .ok (.aload_n 0, 1) := by decide +kernel
theorem dX0_freeze_12 : decode cX0_freeze 12 = .ok (.getfield 9, 3) := by decide +kernel
theorem dX0_freeze_15 : decode cX0_freeze 15 = .ok (.bipush 60, 2) := by decide +kernel
theorem dX0_freeze_17 : decode cX0_freeze 17 = .ok (.idiv, 1) := by decide +kernel
theorem dX0_freeze_18 : decode cX0_freeze 18 = .ok (.bipush 8, 2) := by decide +kernel
theorem dX0_freeze_20 : decode cX0_freeze 20 = .ok (.invokestatic 124, 3) := by decide +kernel
theorem dX0_freeze_23 : decode cX0_freeze 23 = .ok (.istore_n 1, 1) := by decide +kernel
theorem dX0_freeze_24 : decode cX0_freeze 24 = .ok (.aload_n 0, 1) := by decide +kernel
theorem dX0_freeze_25 : decode cX0_freeze 25 = .ok (.iconst 0, 1) := by decide +kernel
theorem dX0_freeze_26 : decode cX0_freeze 26 = .ok (.bipush 9, 2) := by decide +kernel
theorem dX0_freeze_28 : decode cX0_freeze 28 = .ok (.aload_n 0, 1) := by decide +kernel
theorem dX0_freeze_29 : decode cX0_freeze 29 = .ok (.getfield 21, 3) := by decide +kernel
theorem dX0_freeze_32 : decode cX0_freeze 32 = .ok (.aload_n 0, 1) := by decide +kernel
theorem dX0_freeze_33 : decode cX0_freeze 33 = .ok (.getfield 30, 3) := by decide +kernel
theorem dX0_freeze_36 : decode cX0_freeze 36 = .ok (.iload_n 1, 1) := by decide +kernel
theorem dX0_freeze_37 : decode cX0_freeze 37 = .ok (.iaload, 1) := by decide +kernel
theorem dX0_freeze_38 : decode cX0_freeze 38 = .ok (.iadd, 1) := by decide +kernel
theorem dX0_freeze_39 : decode cX0_freeze 39 = .ok (.invokestatic 117, 3) := by decide +kernel
theorem dX0_freeze_42 : decode cX0_freeze 42 = .ok (.invokestatic 84, 3) := by decide +kernel
theorem dX0_freeze_45 : decode cX0_freeze 45 = .ok (.putfield 21, 3) := by decide +kernel
theorem dX0_freeze_48 : decode cX0_freeze 48 = .ok (.return_, 1) := by decide +kernel
set_option maxRecDepth 20000 in
theorem ggX0_total_X0_servedNext : GoodIn wsX0_total wsX0_servedNext := goodIn_r _ [17, 12, 5, 6, 18, 19, 20, 21, 22, 23, 24, 25, 26, 27, 28, 29, 30, 31, 32, 33, 34, 35, 36, 37, 38, 39, 40, 41, 42, 43, 44, 45, 46, 47, 48, 49, 50, 51, 52, 53, 54, 55, 56, 57, 58, 59, 60] (by decide +kernel) (by decide +kernel)
set_option maxRecDepth 20000 in
theorem gX0_total_X0_servedNext : GoodIn wsX0_total (wsV RX0 64 RX0 yX0_servedNext wsX0_servedNext) := goodIn_app (goodIn_of _ (by decide +kernel)) ggX0_total_X0_servedNext
theorem dX0_total_0 : decode cX0_total 0 = .ok (.iload_n 1, 1) := by decide +kernel
theorem dX0_total_1 : decode cX0_total 1 = .ok (.tableswitch 126 0 10 #[59, 64, 69, 74, 79, 84, 92, 100, 108, 116, 121], 59) := by decide +kernel
theorem dX0_total_60 : decode cX0_total 60 = .ok (.aload_n 0, 1) := by decide +kernel
theorem dX0_total_61 : decode cX0_total 61 = .ok (.getfield 9, 3) := by decide +kernel
theorem dX0_total_64 : decode cX0_total 64 = .ok (.ireturn, 1) := by decide +kernel
theorem dX0_total_65 : decode cX0_total 65 = .ok (.aload_n 0, 1) := by decide +kernel
theorem dX0_total_66 : decode cX0_total 66 = .ok (.getfield 15, 3) := by decide +kernel
theorem dX0_total_69 : decode cX0_total 69 = .ok (.ireturn, 1) := by decide +kernel
theorem dX0_total_70 : decode cX0_total 70 = .ok (.aload_n 0, 1) := by decide +kernel
theorem dX0_total_71 : decode cX0_total 71 = .ok (.getfield 18, 3) := by decide +kernel
theorem dX0_total_74 : decode cX0_total 74 = .ok (.ireturn, 1) := by decide +kernel
theorem dX0_total_75 : decode cX0_total 75 = .ok (.aload_n 0, 1) := by decide +kernel
theorem dX0_total_76 : decode cX0_total 76 = .ok (.getfield 21, 3) := by decide +kernel
theorem dX0_total_79 : decode cX0_total 79 = .ok (.ireturn, 1) := by decide +kernel
theorem dX0_total_80 : decode cX0_total 80 = .ok (.aload_n 0, 1) := by decide +kernel
theorem dX0_total_81 : decode cX0_total 81 = .ok (.getfield 24, 3) := by decide +kernel
theorem dX0_total_84 : decode cX0_total 84 = .ok (.ireturn, 1) := by decide +kernel
theorem dX0_total_85 : decode cX0_total 85 = .ok (.aload_n 0, 1) := by decide +kernel
theorem dX0_total_86 : decode cX0_total 86 = .ok (.getfield 37, 3) := by decide +kernel
theorem dX0_total_89 : decode cX0_total 89 = .ok (.getfield 127, 3) := by decide +kernel
theorem dX0_total_92 : decode cX0_total 92 = .ok (.ireturn, 1) := by decide +kernel
theorem dX0_total_93 : decode cX0_total 93 = .ok (.aload_n 0, 1) := by decide +kernel
theorem dX0_total_94 : decode cX0_total 94 = .ok (.getfield 37, 3) := by decide +kernel
theorem dX0_total_97 : decode cX0_total 97 = .ok (.getfield 75, 3) := by decide +kernel
theorem dX0_total_100 : decode cX0_total 100 = .ok (.ireturn, 1) := by decide +kernel
theorem dX0_total_101 : decode cX0_total 101 = .ok (.aload_n 0, 1) := by decide +kernel
theorem dX0_total_102 : decode cX0_total 102 = .ok (.getfield 37, 3) := by decide +kernel
theorem dX0_total_105 : decode cX0_total 105 = .ok (.getfield 78, 3) := by decide +kernel
theorem dX0_total_108 : decode cX0_total 108 = .ok (.ireturn, 1) := by decide +kernel
theorem dX0_total_109 : decode cX0_total 109 = .ok (.aload_n 0, 1) := by decide +kernel
theorem dX0_total_110 : decode cX0_total 110 = .ok (.getfield 37, 3) := by decide +kernel
theorem dX0_total_113 : decode cX0_total 113 = .ok (.getfield 130, 3) := by decide +kernel
theorem dX0_total_116 : decode cX0_total 116 = .ok (.ireturn, 1) := by decide +kernel
theorem dX0_total_117 : decode cX0_total 117 = .ok (.aload_n 0, 1) := by decide +kernel
theorem dX0_total_118 : decode cX0_total 118 = .ok (.getfield 27, 3) := by decide +kernel
theorem dX0_total_121 : decode cX0_total 121 = .ok (.ireturn, 1) := by decide +kernel
theorem dX0_total_122 : decode cX0_total 122 = .ok (.aload_n 0, 1) := by decide +kernel
theorem dX0_total_123 : decode cX0_total 123 = .ok (.getfield 41, 3) := by decide +kernel
theorem dX0_total_126 : decode cX0_total 126 = .ok (.ireturn, 1) := by decide +kernel
theorem dX0_total_127 : decode cX0_total 127 = .ok (.aload_n 0, 1) := by decide +kernel
theorem dX0_total_128 : decode cX0_total 128 = .ok (.invokevirtual 64, 3) := by decide +kernel
theorem dX0_total_131 : decode cX0_total 131 = .ok (.ireturn, 1) := by decide +kernel
set_option maxRecDepth 20000 in
theorem ggX0_factOf_X1_waited : GoodIn wsX0_factOf wsX1_waited := goodIn_r _ [14, 15, 16, 17, 29, 30, 31, 32, 33, 34, 35, 36, 37, 38, 39, 40] (by decide +kernel) (by decide +kernel)
set_option maxRecDepth 20000 in
theorem gX0_factOf_X1_waited : GoodIn wsX0_factOf (wsV RX0 139 RX1 yX1_waited wsX1_waited) := goodIn_app (goodIn_of _ (by decide +kernel)) ggX0_factOf_X1_waited
theorem dX0_factOf_0 : decode cX0_factOf 0 = .ok (.iload_n 2, 1) := by decide +kernel
theorem dX0_factOf_1 : decode cX0_factOf 1 = .ok (.tableswitch 109 0 5 #[39, 49, 59, 69, 79, 92], 39) := by decide +kernel
theorem dX0_factOf_40 : decode cX0_factOf 40 = .ok (.aload_n 0, 1) := by decide +kernel
theorem dX0_factOf_41 : decode cX0_factOf 41 = .ok (.getfield 37, 3) := by decide +kernel
theorem dX0_factOf_44 : decode cX0_factOf 44 = .ok (.getfield 103, 3) := by decide +kernel
theorem dX0_factOf_47 : decode cX0_factOf 47 = .ok (.iload_n 1, 1) := by decide +kernel
theorem dX0_factOf_48 : decode cX0_factOf 48 = .ok (.iaload, 1) := by decide +kernel
theorem dX0_factOf_49 : decode cX0_factOf 49 = .ok (.ireturn, 1) := by decide +kernel
theorem dX0_factOf_50 : decode cX0_factOf 50 = .ok (.aload_n 0, 1) := by decide +kernel
theorem dX0_factOf_51 : decode cX0_factOf 51 = .ok (.getfield 37, 3) := by decide +kernel
theorem dX0_factOf_54 : decode cX0_factOf 54 = .ok (.getfield 106, 3) := by decide +kernel
theorem dX0_factOf_57 : decode cX0_factOf 57 = .ok (.iload_n 1, 1) := by decide +kernel
theorem dX0_factOf_58 : decode cX0_factOf 58 = .ok (.iaload, 1) := by decide +kernel
theorem dX0_factOf_59 : decode cX0_factOf 59 = .ok (.ireturn, 1) := by decide +kernel
theorem dX0_factOf_60 : decode cX0_factOf 60 = .ok (.aload_n 0, 1) := by decide +kernel
theorem dX0_factOf_61 : decode cX0_factOf 61 = .ok (.getfield 37, 3) := by decide +kernel
theorem dX0_factOf_64 : decode cX0_factOf 64 = .ok (.getfield 133, 3) := by decide +kernel
theorem dX0_factOf_67 : decode cX0_factOf 67 = .ok (.iload_n 1, 1) := by decide +kernel
theorem dX0_factOf_68 : decode cX0_factOf 68 = .ok (.iaload, 1) := by decide +kernel
theorem dX0_factOf_69 : decode cX0_factOf 69 = .ok (.ireturn, 1) := by decide +kernel
theorem dX0_factOf_70 : decode cX0_factOf 70 = .ok (.aload_n 0, 1) := by decide +kernel
theorem dX0_factOf_71 : decode cX0_factOf 71 = .ok (.getfield 37, 3) := by decide +kernel
theorem dX0_factOf_74 : decode cX0_factOf 74 = .ok (.getfield 136, 3) := by decide +kernel
theorem dX0_factOf_77 : decode cX0_factOf 77 = .ok (.iload_n 1, 1) := by decide +kernel
theorem dX0_factOf_78 : decode cX0_factOf 78 = .ok (.iaload, 1) := by decide +kernel
theorem dX0_factOf_79 : decode cX0_factOf 79 = .ok (.ireturn, 1) := by decide +kernel
theorem dX0_factOf_80 : decode cX0_factOf 80 = .ok (.aload_n 0, 1) := by decide +kernel
theorem dX0_factOf_81 : decode cX0_factOf 81 = .ok (.getfield 37, 3) := by decide +kernel
theorem dX0_factOf_84 : decode cX0_factOf 84 = .ok (.iload_n 1, 1) := by decide +kernel
theorem dX0_factOf_85 : decode cX0_factOf 85 = .ok (.aload_n 0, 1) := by decide +kernel
theorem dX0_factOf_86 : decode cX0_factOf 86 = .ok (.getfield 9, 3) := by decide +kernel
theorem dX0_factOf_89 : decode cX0_factOf 89 = .ok (.invokevirtual 139, 3) := by decide +kernel
theorem dX0_factOf_92 : decode cX0_factOf 92 = .ok (.ireturn, 1) := by decide +kernel
theorem dX0_factOf_93 : decode cX0_factOf 93 = .ok (.iload_n 1, 1) := by decide +kernel
theorem dX0_factOf_94 : decode cX0_factOf 94 = .ok (.aload_n 0, 1) := by decide +kernel
theorem dX0_factOf_95 : decode cX0_factOf 95 = .ok (.getfield 41, 3) := by decide +kernel
theorem dX0_factOf_98 : decode cX0_factOf 98 = .ok (.if_icmp .ne 10, 3) := by decide +kernel
theorem dX0_factOf_101 : decode cX0_factOf 101 = .ok (.aload_n 0, 1) := by decide +kernel
theorem dX0_factOf_102 : decode cX0_factOf 102 = .ok (.getfield 44, 3) := by decide +kernel
theorem dX0_factOf_105 : decode cX0_factOf 105 = .ok (.goto 4, 3) := by decide +kernel
theorem dX0_factOf_108 : decode cX0_factOf 108 = .ok (.iconst 0, 1) := by decide +kernel
theorem dX0_factOf_109 : decode cX0_factOf 109 = .ok (.ireturn, 1) := by decide +kernel
theorem dX0_factOf_110 : decode cX0_factOf 110 = .ok (.aload_n 0, 1) := by decide +kernel
theorem dX0_factOf_111 : decode cX0_factOf 111 = .ok (.getfield 37, 3) := by decide +kernel
theorem dX0_factOf_114 : decode cX0_factOf 114 = .ok (.getfield 142, 3) := by decide +kernel
theorem dX0_factOf_117 : decode cX0_factOf 117 = .ok (.iload_n 1, 1) := by decide +kernel
theorem dX0_factOf_118 : decode cX0_factOf 118 = .ok (.iaload, 1) := by decide +kernel
theorem dX0_factOf_119 : decode cX0_factOf 119 = .ok (.ireturn, 1) := by decide +kernel
theorem dX1_init_0 : decode cX1_init 0 = .ok (.aload_n 0, 1) := by decide +kernel
theorem dX1_init_1 : decode cX1_init 1 = .ok (.invokespecial 3, 3) := by decide +kernel
theorem dX1_init_4 : decode cX1_init 4 = .ok (.aload_n 0, 1) := by decide +kernel
theorem dX1_init_5 : decode cX1_init 5 = .ok (.iconst 0, 1) := by decide +kernel
theorem dX1_init_6 : decode cX1_init 6 = .ok (.putfield 9, 3) := by decide +kernel
theorem dX1_init_9 : decode cX1_init 9 = .ok (.aload_n 0, 1) := by decide +kernel
theorem dX1_init_10 : decode cX1_init 10 = .ok (.iconst 0, 1) := by decide +kernel
theorem dX1_init_11 : decode cX1_init 11 = .ok (.putfield 15, 3) := by decide +kernel
theorem dX1_init_14 : decode cX1_init 14 = .ok (.aload_n 0, 1) := by decide +kernel
theorem dX1_init_15 : decode cX1_init 15 = .ok (.iconst 0, 1) := by decide +kernel
theorem dX1_init_16 : decode cX1_init 16 = .ok (.putfield 18, 3) := by decide +kernel
theorem dX1_init_19 : decode cX1_init 19 = .ok (.aload_n 0, 1) := by decide +kernel
theorem dX1_init_20 : decode cX1_init 20 = .ok (.iconst 0, 1) := by decide +kernel
theorem dX1_init_21 : decode cX1_init 21 = .ok (.putfield 21, 3) := by decide +kernel
theorem dX1_init_24 : decode cX1_init 24 = .ok (.aload_n 0, 1) := by decide +kernel
theorem dX1_init_25 : decode cX1_init 25 = .ok (.bipush 40, 2) := by decide +kernel
theorem dX1_init_27 : decode cX1_init 27 = .ok (.newarray .int, 2) := by decide +kernel
theorem dX1_init_29 : decode cX1_init 29 = .ok (.putfield 24, 3) := by decide +kernel
theorem dX1_init_32 : decode cX1_init 32 = .ok (.aload_n 0, 1) := by decide +kernel
theorem dX1_init_33 : decode cX1_init 33 = .ok (.bipush 40, 2) := by decide +kernel
theorem dX1_init_35 : decode cX1_init 35 = .ok (.newarray .int, 2) := by decide +kernel
theorem dX1_init_37 : decode cX1_init 37 = .ok (.putfield 28, 3) := by decide +kernel
theorem dX1_init_40 : decode cX1_init 40 = .ok (.aload_n 0, 1) := by decide +kernel
theorem dX1_init_41 : decode cX1_init 41 = .ok (.bipush 40, 2) := by decide +kernel
theorem dX1_init_43 : decode cX1_init 43 = .ok (.newarray .int, 2) := by decide +kernel
theorem dX1_init_45 : decode cX1_init 45 = .ok (.putfield 31, 3) := by decide +kernel
theorem dX1_init_48 : decode cX1_init 48 = .ok (.aload_n 0, 1) := by decide +kernel
theorem dX1_init_49 : decode cX1_init 49 = .ok (.bipush 40, 2) := by decide +kernel
theorem dX1_init_51 : decode cX1_init 51 = .ok (.newarray .int, 2) := by decide +kernel
theorem dX1_init_53 : decode cX1_init 53 = .ok (.putfield 34, 3) := by decide +kernel
theorem dX1_init_56 : decode cX1_init 56 = .ok (.aload_n 0, 1) := by decide +kernel
theorem dX1_init_57 : decode cX1_init 57 = .ok (.bipush 40, 2) := by decide +kernel
theorem dX1_init_59 : decode cX1_init 59 = .ok (.newarray .int, 2) := by decide +kernel
theorem dX1_init_61 : decode cX1_init 61 = .ok (.putfield 37, 3) := by decide +kernel
theorem dX1_init_64 : decode cX1_init 64 = .ok (.aload_n 0, 1) := by decide +kernel
theorem dX1_init_65 : decode cX1_init 65 = .ok (.bipush 40, 2) := by decide +kernel
theorem dX1_init_67 : decode cX1_init 67 = .ok (.newarray .int, 2) := by decide +kernel
theorem dX1_init_69 : decode cX1_init 69 = .ok (.putfield 40, 3) := by decide +kernel
theorem dX1_init_72 : decode cX1_init 72 = .ok (.aload_n 0, 1) := by decide +kernel
theorem dX1_init_73 : decode cX1_init 73 = .ok (.iconst (-1), 1) := by decide +kernel
theorem dX1_init_74 : decode cX1_init 74 = .ok (.putfield 43, 3) := by decide +kernel
theorem dX1_init_77 : decode cX1_init 77 = .ok (.aload_n 0, 1) := by decide +kernel
theorem dX1_init_78 : decode cX1_init 78 = .ok (.iconst (-1), 1) := by decide +kernel
theorem dX1_init_79 : decode cX1_init 79 = .ok (.putfield 46, 3) := by decide +kernel
theorem dX1_init_82 : decode cX1_init 82 = .ok (.return_, 1) := by decide +kernel
theorem dX1_copyFrom_0 : decode cX1_copyFrom 0 = .ok (.aload_n 0, 1) := by decide +kernel
theorem dX1_copyFrom_1 : decode cX1_copyFrom 1 = .ok (.aload_n 1, 1) := by decide +kernel
theorem dX1_copyFrom_2 : decode cX1_copyFrom 2 = .ok (.getfield 9, 3) := by decide +kernel
theorem dX1_copyFrom_5 : decode cX1_copyFrom 5 = .ok (.putfield 9, 3) := by decide +kernel
theorem dX1_copyFrom_8 : decode cX1_copyFrom 8 = .ok (.aload_n 0, 1) := by decide +kernel
theorem dX1_copyFrom_9 : decode cX1_copyFrom 9 = .ok (.aload_n 1, 1) := by decide +kernel
theorem dX1_copyFrom_10 : decode cX1_copyFrom 10 = .ok (.getfield 15, 3) := by decide +kernel
theorem dX1_copyFrom_13 : decode cX1_copyFrom 13 = .ok (.putfield 15, 3) := by decide +kernel
theorem dX1_copyFrom_16 : decode cX1_copyFrom 16 = .ok (.aload_n 0, 1) := by decide +kernel
theorem dX1_copyFrom_17 : decode cX1_copyFrom 17 = .ok (.aload_n 1, 1) := by decide +kernel
theorem dX1_copyFrom_18 : decode cX1_copyFrom 18 = .ok (.getfield 18, 3) := by decide +kernel
theorem dX1_copyFrom_21 : decode cX1_copyFrom 21 = .ok (.putfield 18, 3) := by decide +kernel
theorem dX1_copyFrom_24 : decode cX1_copyFrom 24 = .ok (.aload_n 0, 1) := by decide +kernel
theorem dX1_copyFrom_25 : decode cX1_copyFrom 25 = .ok (.aload_n 1, 1) := by decide +kernel
theorem dX1_copyFrom_26 : decode cX1_copyFrom 26 = .ok (.getfield 21, 3) := by decide +kernel
theorem dX1_copyFrom_29 : decode cX1_copyFrom 29 = .ok (.putfield 21, 3) := by decide +kernel
theorem dX1_copyFrom_32 : decode cX1_copyFrom 32 = .ok (.aload_n 1, 1) := by decide +kernel
theorem dX1_copyFrom_33 : decode cX1_copyFrom 33 = .ok (.getfield 24, 3) := by decide +kernel
theorem dX1_copyFrom_36 : decode cX1_copyFrom 36 = .ok (.iconst 0, 1) := by decide +kernel
theorem dX1_copyFrom_37 : decode cX1_copyFrom 37 = .ok (.aload_n 0, 1) := by decide +kernel
theorem dX1_copyFrom_38 : decode cX1_copyFrom 38 = .ok (.getfield 24, 3) := by decide +kernel
theorem dX1_copyFrom_41 : decode cX1_copyFrom 41 = .ok (.iconst 0, 1) := by decide +kernel
theorem dX1_copyFrom_42 : decode cX1_copyFrom 42 = .ok (.bipush 40, 2) := by decide +kernel
theorem dX1_copyFrom_44 : decode cX1_copyFrom 44 = .ok (.invokestatic 49, 3) := by decide +kernel
theorem dX1_copyFrom_47 : decode cX1_copyFrom 47 = .ok (.aload_n 1, 1) := by decide +kernel
theorem dX1_copyFrom_48 : decode cX1_copyFrom 48 = .ok (.getfield 28, 3) := by decide +kernel
theorem dX1_copyFrom_51 : decode cX1_copyFrom 51 = .ok (.iconst 0, 1) := by decide +kernel
theorem dX1_copyFrom_52 : decode cX1_copyFrom 52 = .ok (.aload_n 0, 1) := by decide +kernel
theorem dX1_copyFrom_53 : decode cX1_copyFrom 53 = .ok (.getfield 28, 3) := by decide +kernel
theorem dX1_copyFrom_56 : decode cX1_copyFrom 56 = .ok (.iconst 0, 1) := by decide +kernel
theorem dX1_copyFrom_57 : decode cX1_copyFrom 57 = .ok (.bipush 40, 2) := by decide +kernel
theorem dX1_copyFrom_59 : decode cX1_copyFrom 59 = .ok (.invokestatic 49, 3) := by decide +kernel
theorem dX1_copyFrom_62 : decode cX1_copyFrom 62 = .ok (.aload_n 1, 1) := by decide +kernel
theorem dX1_copyFrom_63 : decode cX1_copyFrom 63 = .ok (.getfield 31, 3) := by decide +kernel
theorem dX1_copyFrom_66 : decode cX1_copyFrom 66 = .ok (.iconst 0, 1) := by decide +kernel
theorem dX1_copyFrom_67 : decode cX1_copyFrom 67 = .ok (.aload_n 0, 1) := by decide +kernel
theorem dX1_copyFrom_68 : decode cX1_copyFrom 68 = .ok (.getfield 31, 3) := by decide +kernel
theorem dX1_copyFrom_71 : decode cX1_copyFrom 71 = .ok (.iconst 0, 1) := by decide +kernel
theorem dX1_copyFrom_72 : decode cX1_copyFrom 72 = .ok (.bipush 40, 2) := by decide +kernel
theorem dX1_copyFrom_74 : decode cX1_copyFrom 74 = .ok (.invokestatic 49, 3) := by decide +kernel
theorem dX1_copyFrom_77 : decode cX1_copyFrom 77 = .ok (.aload_n 1, 1) := by decide +kernel
theorem dX1_copyFrom_78 : decode cX1_copyFrom 78 = .ok (.getfield 34, 3) := by decide +kernel
theorem dX1_copyFrom_81 : decode cX1_copyFrom 81 = .ok (.iconst 0, 1) := by decide +kernel
theorem dX1_copyFrom_82 : decode cX1_copyFrom 82 = .ok (.aload_n 0, 1) := by decide +kernel
theorem dX1_copyFrom_83 : decode cX1_copyFrom 83 = .ok (.getfield 34, 3) := by decide +kernel
theorem dX1_copyFrom_86 : decode cX1_copyFrom 86 = .ok (.iconst 0, 1) := by decide +kernel
theorem dX1_copyFrom_87 : decode cX1_copyFrom 87 = .ok (.bipush 40, 2) := by decide +kernel
theorem dX1_copyFrom_89 : decode cX1_copyFrom 89 = .ok (.invokestatic 49, 3) := by decide +kernel
theorem dX1_copyFrom_92 : decode cX1_copyFrom 92 = .ok (.aload_n 1, 1) := by decide +kernel
theorem dX1_copyFrom_93 : decode cX1_copyFrom 93 = .ok (.getfield 37, 3) := by decide +kernel
theorem dX1_copyFrom_96 : decode cX1_copyFrom 96 = .ok (.iconst 0, 1) := by decide +kernel
theorem dX1_copyFrom_97 : decode cX1_copyFrom 97 = .ok (.aload_n 0, 1) := by decide +kernel
theorem dX1_copyFrom_98 : decode cX1_copyFrom 98 = .ok (.getfield 37, 3) := by decide +kernel
theorem dX1_copyFrom_101 : decode cX1_copyFrom 101 = .ok (.iconst 0, 1) := by decide +kernel
theorem dX1_copyFrom_102 : decode cX1_copyFrom 102 = .ok (.bipush 40, 2) := by decide +kernel
theorem dX1_copyFrom_104 : decode cX1_copyFrom 104 = .ok (.invokestatic 49, 3) := by decide +kernel
theorem dX1_copyFrom_107 : decode cX1_copyFrom 107 = .ok (.aload_n 1, 1) := by decide +kernel
theorem dX1_copyFrom_108 : decode cX1_copyFrom 108 = .ok (.getfield 40, 3) := by decide +kernel
theorem dX1_copyFrom_111 : decode cX1_copyFrom 111 = .ok (.iconst 0, 1) := by decide +kernel
theorem dX1_copyFrom_112 : decode cX1_copyFrom 112 = .ok (.aload_n 0, 1) := by decide +kernel
theorem dX1_copyFrom_113 : decode cX1_copyFrom 113 = .ok (.getfield 40, 3) := by decide +kernel
theorem dX1_copyFrom_116 : decode cX1_copyFrom 116 = .ok (.iconst 0, 1) := by decide +kernel
theorem dX1_copyFrom_117 : decode cX1_copyFrom 117 = .ok (.bipush 40, 2) := by decide +kernel
theorem dX1_copyFrom_119 : decode cX1_copyFrom 119 = .ok (.invokestatic 49, 3) := by decide +kernel
theorem dX1_copyFrom_122 : decode cX1_copyFrom 122 = .ok (.aload_n 0, 1) := by decide +kernel
theorem dX1_copyFrom_123 : decode cX1_copyFrom 123 = .ok (.aload_n 1, 1) := by decide +kernel
theorem dX1_copyFrom_124 : decode cX1_copyFrom 124 = .ok (.getfield 43, 3) := by decide +kernel
theorem dX1_copyFrom_127 : decode cX1_copyFrom 127 = .ok (.putfield 43, 3) := by decide +kernel
theorem dX1_copyFrom_130 : decode cX1_copyFrom 130 = .ok (.aload_n 0, 1) := by decide +kernel
theorem dX1_copyFrom_131 : decode cX1_copyFrom 131 = .ok (.aload_n 1, 1) := by decide +kernel
theorem dX1_copyFrom_132 : decode cX1_copyFrom 132 = .ok (.getfield 46, 3) := by decide +kernel
theorem dX1_copyFrom_135 : decode cX1_copyFrom 135 = .ok (.putfield 46, 3) := by decide +kernel
theorem dX1_copyFrom_138 : decode cX1_copyFrom 138 = .ok (.return_, 1) := by decide +kernel
theorem dX1_has_0 : decode cX1_has 0 = .ok (.iload_n 1, 1) := by decide +kernel
theorem dX1_has_1 : decode cX1_has 1 = .ok (.ifCond .lt 15, 3) := by decide +kernel
theorem dX1_has_4 : decode cX1_has 4 = .ok (.iload_n 1, 1) := by decide +kernel
theorem dX1_has_5 : decode cX1_has 5 = .ok (.aload_n 0, 1) := by decide +kernel
theorem dX1_has_6 : decode cX1_has 6 = .ok (.getfield 9, 3) := by decide +kernel
theorem dX1_has_9 : decode cX1_has 9 = .ok (.if_icmp .ge 7, 3) := by decide +kernel
theorem dX1_has_12 : decode cX1_has 12 = .ok (.iconst 1, 1) := by decide +kernel
theorem dX1_has_13 : decode cX1_has 13 = .ok (.goto 4, 3) := by decide +kernel
theorem dX1_has_16 : decode cX1_has 16 = .ok (.iconst 0, 1) := by decide +kernel
theorem dX1_has_17 : decode cX1_has 17 = .ok (.ireturn, 1) := by decide +kernel
set_option maxRecDepth 20000 in
theorem ggX1_add_X1_seeWhoWaits : GoodIn wsX1_add wsX1_seeWhoWaits := goodIn_r _ [11, 12, 13, 14, 15, 1, 4, 2, 16, 17, 18, 19, 20, 21, 22, 23, 24, 25, 26, 27] (by decide +kernel) (by decide +kernel)
set_option maxRecDepth 20000 in
theorem gX1_add_X1_seeWhoWaits : GoodIn wsX1_add (wsV RX1 55 RX1 yX1_seeWhoWaits wsX1_seeWhoWaits) := goodIn_app (goodIn_of _ (by decide +kernel)) ggX1_add_X1_seeWhoWaits
theorem dX1_add_0 : decode cX1_add 0 = .ok (.aload_n 0, 1) := by decide +kernel
theorem dX1_add_1 : decode cX1_add 1 = .ok (.getfield 9, 3) := by decide +kernel
theorem dX1_add_4 : decode cX1_add 4 = .ok (.istore 4, 2) := by decide +kernel
theorem dX1_add_6 : decode cX1_add 6 = .ok (.aload_n 0, 1) := by decide +kernel
theorem dX1_add_7 : decode cX1_add 7 = .ok (.getfield 24, 3) := by decide +kernel
theorem dX1_add_10 : decode cX1_add 10 = .ok (.iload 4, 2) := by decide +kernel
theorem dX1_add_12 : decode cX1_add 12 = .ok (.iload_n 1, 1) := by decide +kernel
theorem dX1_add_13 : decode cX1_add 13 = .ok (.ifCond .eq 7, 3) := by decide +kernel
theorem dX1_add_16 : decode cX1_add 16 = .ok (.iconst 1, 1) := by decide +kernel
theorem dX1_add_17 : decode cX1_add 17 = .ok (.goto 4, 3) := by decide +kernel
theorem dX1_add_20 : decode cX1_add 20 = .ok (.iconst 0, 1) := by decide +kernel
theorem dX1_add_21 : decode cX1_add 21 = .ok (.iastore, 1) := by decide +kernel
theorem dX1_add_22 : decode cX1_add 22 = .ok (.aload_n 0, 1) := by decide +kernel
theorem dX1_add_23 : decode cX1_add 23 = .ok (.getfield 28, 3) := by decide +kernel
theorem dX1_add_26 : decode cX1_add 26 = .ok (.iload 4, 2) := by decide +kernel
theorem dX1_add_28 : decode cX1_add 28 = .ok (.iload_n 2, 1) := by decide +kernel
theorem dX1_add_29 : decode cX1_add 29 = .ok (.iastore, 1) := by decide +kernel
theorem dX1_add_30 : decode cX1_add 30 = .ok (.aload_n 0, 1) := by decide +kernel
theorem dX1_add_31 : decode cX1_add 31 = .ok (.getfield 31, 3) := by decide +kernel
theorem dX1_add_34 : decode cX1_add 34 = .ok (.iload 4, 2) := by decide +kernel
theorem dX1_add_36 : decode cX1_add 36 = .ok (.iconst 0, 1) := by decide +kernel
theorem dX1_add_37 : decode cX1_add 37 = .ok (.iastore, 1) := by decide +kernel
theorem dX1_add_38 : decode cX1_add 38 = .ok (.aload_n 0, 1) := by decide +kernel
theorem dX1_add_39 : decode cX1_add 39 = .ok (.getfield 34, 3) := by decide +kernel
theorem dX1_add_42 : decode cX1_add 42 = .ok (.iload 4, 2) := by decide +kernel
theorem dX1_add_44 : decode cX1_add 44 = .ok (.iload_n 3, 1) := by decide +kernel
theorem dX1_add_45 : decode cX1_add 45 = .ok (.iastore, 1) := by decide +kernel
theorem dX1_add_46 : decode cX1_add 46 = .ok (.aload_n 0, 1) := by decide +kernel
theorem dX1_add_47 : decode cX1_add 47 = .ok (.getfield 37, 3) := by decide +kernel
theorem dX1_add_50 : decode cX1_add 50 = .ok (.iload 4, 2) := by decide +kernel
theorem dX1_add_52 : decode cX1_add 52 = .ok (.iconst (-1), 1) := by decide +kernel
theorem dX1_add_53 : decode cX1_add 53 = .ok (.iastore, 1) := by decide +kernel
theorem dX1_add_54 : decode cX1_add 54 = .ok (.aload_n 0, 1) := by decide +kernel
theorem dX1_add_55 : decode cX1_add 55 = .ok (.dup, 1) := by decide +kernel
theorem dX1_add_56 : decode cX1_add 56 = .ok (.getfield 9, 3) := by decide +kernel
theorem dX1_add_59 : decode cX1_add 59 = .ok (.iconst 1, 1) := by decide +kernel
theorem dX1_add_60 : decode cX1_add 60 = .ok (.iadd, 1) := by decide +kernel
theorem dX1_add_61 : decode cX1_add 61 = .ok (.putfield 9, 3) := by decide +kernel
theorem dX1_add_64 : decode cX1_add 64 = .ok (.aload_n 0, 1) := by decide +kernel
theorem dX1_add_65 : decode cX1_add 65 = .ok (.invokevirtual 55, 3) := by decide +kernel
theorem dX1_add_68 : decode cX1_add 68 = .ok (.iload 4, 2) := by decide +kernel
theorem dX1_add_70 : decode cX1_add 70 = .ok (.ireturn, 1) := by decide +kernel
set_option maxRecDepth 20000 in
theorem ggX1_endWait_X1_seeWhoWaits : GoodIn wsX1_endWait wsX1_seeWhoWaits := goodIn_r _ [7, 8, 9, 10, 11, 12, 1, 13, 14, 15, 16, 17, 18, 19, 20, 21, 22, 23, 24, 25] (by decide +kernel) (by decide +kernel)
set_option maxRecDepth 20000 in
theorem gX1_endWait_X1_seeWhoWaits : GoodIn wsX1_endWait (wsV RX1 55 RX1 yX1_seeWhoWaits wsX1_seeWhoWaits) := goodIn_app (goodIn_of _ (by decide +kernel)) ggX1_endWait_X1_seeWhoWaits
theorem dX1_endWait_0 : decode cX1_endWait 0 = .ok (.aload_n 0, 1) := by decide +kernel
theorem dX1_endWait_1 : decode cX1_endWait 1 = .ok (.getfield 31, 3) := by decide +kernel
theorem dX1_endWait_4 : decode cX1_endWait 4 = .ok (.iload_n 1, 1) := by decide +kernel
theorem dX1_endWait_5 : decode cX1_endWait 5 = .ok (.iload_n 2, 1) := by decide +kernel
theorem dX1_endWait_6 : decode cX1_endWait 6 = .ok (.iastore, 1) := by decide +kernel
theorem dX1_endWait_7 : decode cX1_endWait 7 = .ok (.aload_n 0, 1) := by decide +kernel
theorem dX1_endWait_8 : decode cX1_endWait 8 = .ok (.getfield 40, 3) := by decide +kernel
theorem dX1_endWait_11 : decode cX1_endWait 11 = .ok (.iload_n 1, 1) := by decide +kernel
theorem dX1_endWait_12 : decode cX1_endWait 12 = .ok (.iload_n 3, 1) := by decide +kernel
theorem dX1_endWait_13 : decode cX1_endWait 13 = .ok (.iastore, 1) := by decide +kernel
theorem dX1_endWait_14 : decode cX1_endWait 14 = .ok (.aload_n 0, 1) := by decide +kernel
theorem dX1_endWait_15 : decode cX1_endWait 15 = .ok (.invokevirtual 55, 3) := by decide +kernel
theorem dX1_endWait_18 : decode cX1_endWait 18 = .ok (.return_, 1) := by decide +kernel
theorem dX1_endPassage_0 : decode cX1_endPassage 0 = .ok (.aload_n 0, 1) := by decide +kernel
theorem dX1_endPassage_1 : decode cX1_endPassage 1 = .ok (.getfield 31, 3) := by decide +kernel
theorem dX1_endPassage_4 : decode cX1_endPassage 4 = .ok (.iload_n 1, 1) := by decide +kernel
theorem dX1_endPassage_5 : decode cX1_endPassage 5 = .ok (.iconst 2, 1) := by decide +kernel
theorem dX1_endPassage_6 : decode cX1_endPassage 6 = .ok (.iastore, 1) := by decide +kernel
theorem dX1_endPassage_7 : decode cX1_endPassage 7 = .ok (.aload_n 0, 1) := by decide +kernel
theorem dX1_endPassage_8 : decode cX1_endPassage 8 = .ok (.getfield 37, 3) := by decide +kernel
theorem dX1_endPassage_11 : decode cX1_endPassage 11 = .ok (.iload_n 1, 1) := by decide +kernel
theorem dX1_endPassage_12 : decode cX1_endPassage 12 = .ok (.iload_n 2, 1) := by decide +kernel
theorem dX1_endPassage_13 : decode cX1_endPassage 13 = .ok (.iastore, 1) := by decide +kernel
theorem dX1_endPassage_14 : decode cX1_endPassage 14 = .ok (.aload_n 0, 1) := by decide +kernel
theorem dX1_endPassage_15 : decode cX1_endPassage 15 = .ok (.dup, 1) := by decide +kernel
theorem dX1_endPassage_16 : decode cX1_endPassage 16 = .ok (.getfield 15, 3) := by decide +kernel
theorem dX1_endPassage_19 : decode cX1_endPassage 19 = .ok (.iconst 1, 1) := by decide +kernel
theorem dX1_endPassage_20 : decode cX1_endPassage 20 = .ok (.iadd, 1) := by decide +kernel
theorem dX1_endPassage_21 : decode cX1_endPassage 21 = .ok (.putfield 15, 3) := by decide +kernel
theorem dX1_endPassage_24 : decode cX1_endPassage 24 = .ok (.return_, 1) := by decide +kernel
theorem dX1_waited_0 : decode cX1_waited 0 = .ok (.aload_n 0, 1) := by decide +kernel
theorem dX1_waited_1 : decode cX1_waited 1 = .ok (.getfield 31, 3) := by decide +kernel
theorem dX1_waited_4 : decode cX1_waited 4 = .ok (.iload_n 1, 1) := by decide +kernel
theorem dX1_waited_5 : decode cX1_waited 5 = .ok (.iaload, 1) := by decide +kernel
theorem dX1_waited_6 : decode cX1_waited 6 = .ok (.ifCond .ne 7, 3) := by decide +kernel
theorem dX1_waited_9 : decode cX1_waited 9 = .ok (.iload_n 2, 1) := by decide +kernel
theorem dX1_waited_10 : decode cX1_waited 10 = .ok (.goto 9, 3) := by decide +kernel
theorem dX1_waited_13 : decode cX1_waited 13 = .ok (.aload_n 0, 1) := by decide +kernel
theorem dX1_waited_14 : decode cX1_waited 14 = .ok (.getfield 40, 3) := by decide +kernel
theorem dX1_waited_17 : decode cX1_waited 17 = .ok (.iload_n 1, 1) := by decide +kernel
theorem dX1_waited_18 : decode cX1_waited 18 = .ok (.iaload, 1) := by decide +kernel
theorem dX1_waited_19 : decode cX1_waited 19 = .ok (.istore_n 3, 1) := by decide +kernel
theorem dX1_waited_20 : decode cX1_waited 20 = .ok (.iload_n 3, 1) := by decide +kernel
theorem dX1_waited_21 : decode cX1_waited 21 = .ok (.aload_n 0, 1) := by decide +kernel
theorem dX1_waited_22 : decode cX1_waited 22 = .ok (.getfield 34, 3) := by decide +kernel
theorem dX1_waited_25 : decode cX1_waited 25 = .ok (.iload_n 1, 1) := by decide +kernel
theorem dX1_waited_26 : decode cX1_waited 26 = .ok (.iaload, 1) := by decide +kernel
theorem dX1_waited_27 : decode cX1_waited 27 = .ok (.isub, 1) := by decide +kernel
theorem dX1_waited_28 : decode cX1_waited 28 = .ok (.ireturn, 1) := by decide +kernel
theorem dX1_firstOfAll_0 : decode cX1_firstOfAll 0 = .ok (.aload_n 0, 1) := by decide +kernel
theorem dX1_firstOfAll_1 : decode cX1_firstOfAll 1 = .ok (.getfield 43, 3) := by decide +kernel
theorem dX1_firstOfAll_4 : decode cX1_firstOfAll 4 = .ok (.iconst (-1), 1) := by decide +kernel
theorem dX1_firstOfAll_5 : decode cX1_firstOfAll 5 = .ok (.if_icmp .ne 8, 3) := by decide +kernel
theorem dX1_firstOfAll_8 : decode cX1_firstOfAll 8 = .ok (.aload_n 0, 1) := by decide +kernel
theorem dX1_firstOfAll_9 : decode cX1_firstOfAll 9 = .ok (.getfield 46, 3) := by decide +kernel
theorem dX1_firstOfAll_12 : decode cX1_firstOfAll 12 = .ok (.ireturn, 1) := by decide +kernel
theorem dX1_firstOfAll_13 : decode cX1_firstOfAll 13 = .ok (.aload_n 0, 1) := by decide +kernel
theorem dX1_firstOfAll_14 : decode cX1_firstOfAll 14 = .ok (.getfield 46, 3) := by decide +kernel
theorem dX1_firstOfAll_17 : decode cX1_firstOfAll 17 = .ok (.iconst (-1), 1) := by decide +kernel
theorem dX1_firstOfAll_18 : decode cX1_firstOfAll 18 = .ok (.if_icmp .ne 10, 3) := by decide +kernel
theorem dX1_firstOfAll_21 : decode cX1_firstOfAll 21 = .ok (.aload_n 0, 1) := by decide +kernel
theorem dX1_firstOfAll_22 : decode cX1_firstOfAll 22 = .ok (.getfield 43, 3) := by decide +kernel
theorem dX1_firstOfAll_25 : decode cX1_firstOfAll 25 = .ok (.goto 14, 3) := by decide +kernel
theorem dX1_firstOfAll_28 : decode cX1_firstOfAll 28 = .ok (.aload_n 0, 1) := by decide +kernel
theorem dX1_firstOfAll_29 : decode cX1_firstOfAll 29 = .ok (.getfield 43, 3) := by decide +kernel
theorem dX1_firstOfAll_32 : decode cX1_firstOfAll 32 = .ok (.aload_n 0, 1) := by decide +kernel
theorem dX1_firstOfAll_33 : decode cX1_firstOfAll 33 = .ok (.getfield 46, 3) := by decide +kernel
theorem dX1_firstOfAll_36 : decode cX1_firstOfAll 36 = .ok (.invokestatic 58, 3) := by decide +kernel
theorem dX1_firstOfAll_39 : decode cX1_firstOfAll 39 = .ok (.ireturn, 1) := by decide +kernel
theorem dX1_firstBargeElseCart_0 : decode cX1_firstBargeElseCart 0 = .ok (.aload_n 0, 1) := by decide +kernel
theorem dX1_firstBargeElseCart_1 : decode cX1_firstBargeElseCart 1 = .ok (.getfield 43, 3) := by decide +kernel
theorem dX1_firstBargeElseCart_4 : decode cX1_firstBargeElseCart 4 = .ok (.iconst (-1), 1) := by decide +kernel
theorem dX1_firstBargeElseCart_5 : decode cX1_firstBargeElseCart 5 = .ok (.if_icmp .eq 10, 3) := by decide +kernel
theorem dX1_firstBargeElseCart_8 : decode cX1_firstBargeElseCart 8 = .ok (.aload_n 0, 1) := by decide +kernel
theorem dX1_firstBargeElseCart_9 : decode cX1_firstBargeElseCart 9 = .ok (.getfield 43, 3) := by decide +kernel
theorem dX1_firstBargeElseCart_12 : decode cX1_firstBargeElseCart 12 = .ok (.goto 7, 3) := by decide +kernel
theorem dX1_firstBargeElseCart_15 : decode cX1_firstBargeElseCart 15 = .ok (.aload_n 0, 1) := by decide +kernel
theorem dX1_firstBargeElseCart_16 : decode cX1_firstBargeElseCart 16 = .ok (.getfield 46, 3) := by decide +kernel
theorem dX1_firstBargeElseCart_19 : decode cX1_firstBargeElseCart 19 = .ok (.ireturn, 1) := by decide +kernel
theorem dX1_firstCartElseBarge_0 : decode cX1_firstCartElseBarge 0 = .ok (.aload_n 0, 1) := by decide +kernel
theorem dX1_firstCartElseBarge_1 : decode cX1_firstCartElseBarge 1 = .ok (.getfield 46, 3) := by decide +kernel
theorem dX1_firstCartElseBarge_4 : decode cX1_firstCartElseBarge 4 = .ok (.iconst (-1), 1) := by decide +kernel
theorem dX1_firstCartElseBarge_5 : decode cX1_firstCartElseBarge 5 = .ok (.if_icmp .eq 10, 3) := by decide +kernel
theorem dX1_firstCartElseBarge_8 : decode cX1_firstCartElseBarge 8 = .ok (.aload_n 0, 1) := by decide +kernel
theorem dX1_firstCartElseBarge_9 : decode cX1_firstCartElseBarge 9 = .ok (.getfield 46, 3) := by decide +kernel
theorem dX1_firstCartElseBarge_12 : decode cX1_firstCartElseBarge 12 = .ok (.goto 7, 3) := by decide +kernel
theorem dX1_firstCartElseBarge_15 : decode cX1_firstCartElseBarge 15 = .ok (.aload_n 0, 1) := by decide +kernel
theorem dX1_firstCartElseBarge_16 : decode cX1_firstCartElseBarge 16 = .ok (.getfield 43, 3) := by decide +kernel
theorem dX1_firstCartElseBarge_19 : decode cX1_firstCartElseBarge 19 = .ok (.ireturn, 1) := by decide +kernel
theorem dX1_seeWhoWaits_0 : decode cX1_seeWhoWaits 0 = .ok (.aload_n 0, 1) := by decide +kernel
theorem dX1_seeWhoWaits_1 : decode cX1_seeWhoWaits 1 = .ok (.iconst 0, 1) := by decide +kernel
theorem dX1_seeWhoWaits_2 : decode cX1_seeWhoWaits 2 = .ok (.putfield 18, 3) := by decide +kernel
theorem dX1_seeWhoWaits_5 : decode cX1_seeWhoWaits 5 = .ok (.aload_n 0, 1) := by decide +kernel
theorem dX1_seeWhoWaits_6 : decode cX1_seeWhoWaits 6 = .ok (.iconst 0, 1) := by decide +kernel
theorem dX1_seeWhoWaits_7 : decode cX1_seeWhoWaits 7 = .ok (.putfield 21, 3) := by decide +kernel
theorem dX1_seeWhoWaits_10 : decode cX1_seeWhoWaits 10 = .ok (.aload_n 0, 1) := by decide +kernel
theorem dX1_seeWhoWaits_11 : decode cX1_seeWhoWaits 11 = .ok (.iconst (-1), 1) := by decide +kernel
theorem dX1_seeWhoWaits_12 : decode cX1_seeWhoWaits 12 = .ok (.putfield 43, 3) := by decide +kernel
theorem dX1_seeWhoWaits_15 : decode cX1_seeWhoWaits 15 = .ok (.aload_n 0, 1) := by decide +kernel
theorem dX1_seeWhoWaits_16 : decode cX1_seeWhoWaits 16 = .ok (.iconst (-1), 1) := by decide +kernel
theorem dX1_seeWhoWaits_17 : decode cX1_seeWhoWaits 17 = .ok (.putfield 46, 3) := by decide +kernel
theorem dX1_seeWhoWaits_20 : decode cX1_seeWhoWaits 20 = .ok (.aload_n 0, 1) := by decide +kernel
theorem dX1_seeWhoWaits_21 : decode cX1_seeWhoWaits 21 = .ok (.getfield 9, 3) := by decide +kernel
theorem dX1_seeWhoWaits_24 : decode cX1_seeWhoWaits 24 = .ok (.iconst 1, 1) := by decide +kernel
theorem dX1_seeWhoWaits_25 : decode cX1_seeWhoWaits 25 = .ok (.isub, 1) := by decide +kernel
theorem dX1_seeWhoWaits_26 : decode cX1_seeWhoWaits 26 = .ok (.istore_n 1, 1) := by decide +kernel
theorem dX1_seeWhoWaits_27 : decode cX1_seeWhoWaits 27 = .ok (.iload_n 1, 1) := by decide +kernel
theorem dX1_seeWhoWaits_28 : decode cX1_seeWhoWaits 28 = .ok (.ifCond .lt 64, 3) := by decide +kernel
theorem dX1_seeWhoWaits_31 : decode cX1_seeWhoWaits 31 = .ok (.aload_n 0, 1) := by decide +kernel
theorem dX1_seeWhoWaits_32 : decode cX1_seeWhoWaits 32 = .ok (.getfield 31, 3) := by decide +kernel
theorem dX1_seeWhoWaits_35 : decode cX1_seeWhoWaits 35 = .ok (.iload_n 1, 1) := by decide +kernel
theorem dX1_seeWhoWaits_36 : decode cX1_seeWhoWaits 36 = .ok (.iaload, 1) := by decide +kernel
theorem dX1_seeWhoWaits_37 : decode cX1_seeWhoWaits 37 = .ok (.ifCond .eq 6, 3) := by decide +kernel
theorem dX1_seeWhoWaits_40 : decode cX1_seeWhoWaits 40 = .ok (.goto 46, 3) := by decide +kernel
theorem dX1_seeWhoWaits_43 : decode cX1_seeWhoWaits 43 = .ok (.aload_n 0, 1) := by decide +kernel
theorem dX1_seeWhoWaits_44 : decode cX1_seeWhoWaits 44 = .ok (.getfield 24, 3) := by decide +kernel
theorem dX1_seeWhoWaits_47 : decode cX1_seeWhoWaits 47 = .ok (.iload_n 1, 1) := by decide +kernel
theorem dX1_seeWhoWaits_48 : decode cX1_seeWhoWaits 48 = .ok (.iaload, 1) := by decide +kernel
theorem dX1_seeWhoWaits_49 : decode cX1_seeWhoWaits 49 = .ok (.iconst 1, 1) := by decide +kernel
theorem dX1_seeWhoWaits_50 : decode cX1_seeWhoWaits 50 = .ok (.if_icmp .ne 21, 3) := by decide +kernel
theorem dX1_seeWhoWaits_53 : decode cX1_seeWhoWaits 53 = .ok (.aload_n 0, 1) := by decide +kernel
theorem dX1_seeWhoWaits_54 : decode cX1_seeWhoWaits 54 = .ok (.dup, 1) := by decide +kernel
theorem dX1_seeWhoWaits_55 : decode cX1_seeWhoWaits 55 = .ok (.getfield 18, 3) := by decide +kernel
theorem dX1_seeWhoWaits_58 : decode cX1_seeWhoWaits 58 = .ok (.iconst 1, 1) := by decide +kernel
theorem dX1_seeWhoWaits_59 : decode cX1_seeWhoWaits 59 = .ok (.iadd, 1) := by decide +kernel
theorem dX1_seeWhoWaits_60 : decode cX1_seeWhoWaits 60 = .ok (.putfield 18, 3) := by decide +kernel
theorem dX1_seeWhoWaits_63 : decode cX1_seeWhoWaits 63 = .ok (.aload_n 0, 1) := by decide +kernel
theorem dX1_seeWhoWaits_64 : decode cX1_seeWhoWaits 64 = .ok (.iload_n 1, 1) := by decide +kernel
theorem dX1_seeWhoWaits_65 : decode cX1_seeWhoWaits 65 = .ok (.putfield 43, 3) := by decide +kernel
theorem dX1_seeWhoWaits_68 : decode cX1_seeWhoWaits 68 = .ok (.goto 18, 3) := by decide +kernel
theorem dX1_seeWhoWaits_71 : decode cX1_seeWhoWaits 71 = .ok (.aload_n 0, 1) := by decide +kernel
theorem dX1_seeWhoWaits_72 : decode cX1_seeWhoWaits 72 = .ok (.dup, 1) := by decide +kernel
theorem dX1_seeWhoWaits_73 : decode cX1_seeWhoWaits 73 = .ok (.getfield 21, 3) := by decide +kernel
theorem dX1_seeWhoWaits_76 : decode cX1_seeWhoWaits 76 = .ok (.iconst 1, 1) := by decide +kernel
theorem dX1_seeWhoWaits_77 : decode cX1_seeWhoWaits 77 = .ok (.iadd, 1) := by decide +kernel
theorem dX1_seeWhoWaits_78 : decode cX1_seeWhoWaits 78 = .ok (.putfield 21, 3) := by decide +kernel
theorem dX1_seeWhoWaits_81 : decode cX1_seeWhoWaits 81 = .ok (.aload_n 0, 1) := by decide +kernel
theorem dX1_seeWhoWaits_82 : decode cX1_seeWhoWaits 82 = .ok (.iload_n 1, 1) := by decide +kernel
theorem dX1_seeWhoWaits_83 : decode cX1_seeWhoWaits 83 = .ok (.putfield 46, 3) := by decide +kernel
theorem dX1_seeWhoWaits_86 : decode cX1_seeWhoWaits 86 = .ok (.iinc 1 (-1), 3) := by decide +kernel
theorem dX1_seeWhoWaits_89 : decode cX1_seeWhoWaits 89 = .ok (.goto (-62), 3) := by decide +kernel
theorem dX1_seeWhoWaits_92 : decode cX1_seeWhoWaits 92 = .ok (.return_, 1) := by decide +kernel
set_option maxRecDepth 20000 in
theorem ggX2_init_X0_init : GoodIn wsX2_init wsX0_init := goodIn_r _ [10, 11, 2, 3, 12, 13, 14, 15, 16, 17, 18, 19, 20, 21, 22, 23, 24, 25, 26, 27, 28, 29, 30, 31, 32, 33, 34, 35, 36, 37, 38, 39, 40, 41, 42, 43, 44, 45, 46, 47, 48, 49, 50, 51, 52, 55, 56, 57, 58, 59, 60, 61, 62, 63, 64, 65, 66] (by decide +kernel) (by decide +kernel)
set_option maxRecDepth 20000 in
theorem gX2_init_X0_init_n9 : GoodIn wsX2_init (wsX0_init) := ggX2_init_X0_init
theorem dX2_init_0 : decode cX2_init 0 = .ok (.aload_n 0, 1) := by decide +kernel
theorem dX2_init_1 : decode cX2_init 1 = .ok (.invokespecial 1, 3) := by decide +kernel
theorem dX2_init_4 : decode cX2_init 4 = .ok (.aload_n 0, 1) := by decide +kernel
theorem dX2_init_5 : decode cX2_init 5 = .ok (.new 7, 3) := by decide +kernel
theorem dX2_init_8 : decode cX2_init 8 = .ok (.dup, 1) := by decide +kernel
theorem dX2_init_9 : decode cX2_init 9 = .ok (.invokespecial 9, 3) := by decide +kernel
theorem dX2_init_12 : decode cX2_init 12 = .ok (.putfield 10, 3) := by decide +kernel
theorem dX2_init_15 : decode cX2_init 15 = .ok (.aload_n 0, 1) := by decide +kernel
theorem dX2_init_16 : decode cX2_init 16 = .ok (.new 7, 3) := by decide +kernel
theorem dX2_init_19 : decode cX2_init 19 = .ok (.dup, 1) := by decide +kernel
theorem dX2_init_20 : decode cX2_init 20 = .ok (.invokespecial 9, 3) := by decide +kernel
theorem dX2_init_23 : decode cX2_init 23 = .ok (.putfield 16, 3) := by decide +kernel
theorem dX2_init_26 : decode cX2_init 26 = .ok (.return_, 1) := by decide +kernel
set_option maxRecDepth 20000 in
theorem ggX2_come_X1_add : GoodIn wsX2_come wsX1_add := goodIn_r _ [13, 14, 15, 16, 17, 18, 19, 20, 21, 22, 12, 23, 24, 25, 26, 27, 41, 42, 43, 44, 45, 46, 47, 48, 49, 50, 51, 52] (by decide +kernel) (by decide +kernel)
set_option maxRecDepth 20000 in
theorem gX2_come_X1_add : GoodIn wsX2_come (wsV RX2 44 RX1 yX1_add wsX1_add) := goodIn_app (goodIn_of _ (by decide +kernel)) ggX2_come_X1_add
theorem dX2_come_0 : decode cX2_come 0 = .ok (.iload_n 2, 1) := by decide +kernel
theorem dX2_come_1 : decode cX2_come 1 = .ok (.iconst 1, 1) := by decide +kernel
theorem dX2_come_2 : decode cX2_come 2 = .ok (.if_icmp .lt 9, 3) := by decide +kernel
theorem dX2_come_5 : decode cX2_come 5 = .ok (.iload_n 2, 1) := by decide +kernel
theorem dX2_come_6 : decode cX2_come 6 = .ok (.bipush 6, 2) := by decide +kernel
theorem dX2_come_8 : decode cX2_come 8 = .ok (.if_icmp .le 13, 3) := by decide +kernel
theorem dX2_come_11 : decode cX2_come 11 = .ok (.new 19, 3) := by decide +kernel
theorem dX2_come_14 : decode cX2_come 14 = .ok (.dup, 1) := by decide +kernel
theorem dX2_come_15 : decode cX2_come 15 = .ok (.ldc 21, 2) := by decide +kernel
theorem dX2_come_17 : decode cX2_come 17 = .ok (.invokespecial 23, 3) := by decide +kernel
theorem dX2_come_20 : decode cX2_come 20 = .ok (.athrow, 1) := by decide +kernel
theorem dX2_come_21 : decode cX2_come 21 = .ok (.aload_n 0, 1) := by decide +kernel
theorem dX2_come_22 : decode cX2_come 22 = .ok (.getfield 10, 3) := by decide +kernel
theorem dX2_come_25 : decode cX2_come 25 = .ok (.getfield 26, 3) := by decide +kernel
theorem dX2_come_28 : decode cX2_come 28 = .ok (.getfield 30, 3) := by decide +kernel
theorem dX2_come_31 : decode cX2_come 31 = .ok (.bipush 40, 2) := by decide +kernel
theorem dX2_come_33 : decode cX2_come 33 = .ok (.if_icmp .lt 13, 3) := by decide +kernel
theorem dX2_come_36 : decode cX2_come 36 = .ok (.new 36, 3) := by decide +kernel
theorem dX2_come_39 : decode cX2_come 39 = .ok (.dup, 1) := by decide +kernel
theorem dX2_come_40 : decode cX2_come 40 = .ok (.ldc 38, 2) := by decide +kernel
theorem dX2_come_42 : decode cX2_come 42 = .ok (.invokespecial 40, 3) := by decide +kernel
theorem dX2_come_45 : decode cX2_come 45 = .ok (.athrow, 1) := by decide +kernel
theorem dX2_come_46 : decode cX2_come 46 = .ok (.aload_n 0, 1) := by decide +kernel
theorem dX2_come_47 : decode cX2_come 47 = .ok (.getfield 10, 3) := by decide +kernel
theorem dX2_come_50 : decode cX2_come 50 = .ok (.getfield 26, 3) := by decide +kernel
theorem dX2_come_53 : decode cX2_come 53 = .ok (.iload_n 1, 1) := by decide +kernel
theorem dX2_come_54 : decode cX2_come 54 = .ok (.iload_n 2, 1) := by decide +kernel
theorem dX2_come_55 : decode cX2_come 55 = .ok (.aload_n 0, 1) := by decide +kernel
theorem dX2_come_56 : decode cX2_come 56 = .ok (.getfield 10, 3) := by decide +kernel
theorem dX2_come_59 : decode cX2_come 59 = .ok (.getfield 41, 3) := by decide +kernel
theorem dX2_come_62 : decode cX2_come 62 = .ok (.invokevirtual 44, 3) := by decide +kernel
theorem dX2_come_65 : decode cX2_come 65 = .ok (.ireturn, 1) := by decide +kernel
set_option maxRecDepth 20000 in
theorem ggX2_leave_X1_has : GoodIn wsX2_leave wsX1_has := goodIn_r _ [13, 14, 48, 49, 50, 51, 52, 53, 54, 55, 56, 57, 58, 59] (by decide +kernel) (by decide +kernel)
set_option maxRecDepth 20000 in
theorem gX2_leave_X1_has : GoodIn wsX2_leave (wsV RX2 48 RX1 yX1_has wsX1_has) := goodIn_app (goodIn_of _ (by decide +kernel)) ggX2_leave_X1_has
set_option maxRecDepth 20000 in
theorem ggX2_leave_X1_endWait : GoodIn wsX2_leave wsX1_endWait := goodIn_r _ [18, 19, 20, 21, 22, 23, 12, 24, 25, 26, 27, 28, 14, 29, 48, 49, 50, 51, 52, 53, 54, 55, 56, 57, 58, 59] (by decide +kernel) (by decide +kernel)
set_option maxRecDepth 20000 in
theorem gX2_leave_X1_endWait : GoodIn wsX2_leave (wsV RX2 63 RX1 yX1_endWait wsX1_endWait) := goodIn_app (goodIn_of _ (by decide +kernel)) ggX2_leave_X1_endWait
set_option maxRecDepth 20000 in
theorem ggX2_leave_X1_waited : GoodIn wsX2_leave wsX1_waited := goodIn_r _ [33, 19, 20, 34, 48, 49, 50, 51, 52, 53, 54, 55, 56, 57, 58, 59] (by decide +kernel) (by decide +kernel)
set_option maxRecDepth 20000 in
theorem gX2_leave_X1_waited : GoodIn wsX2_leave (wsV RX2 67 RX1 yX1_waited wsX1_waited) := goodIn_app (goodIn_of _ (by decide +kernel)) ggX2_leave_X1_waited
theorem dX2_leave_0 : decode cX2_leave 0 = .ok (.aload_n 0, 1) := by decide +kernel
theorem dX2_leave_1 : decode cX2_leave 1 = .ok (.getfield 10, 3) := by decide +kernel
theorem dX2_leave_4 : decode cX2_leave 4 = .ok (.getfield 26, 3) := by decide +kernel
theorem dX2_leave_7 : decode cX2_leave 7 = .ok (.iload_n 1, 1) := by decide +kernel
theorem dX2_leave_8 : decode cX2_leave 8 = .ok (.invokevirtual 48, 3) := by decide +kernel
theorem dX2_leave_11 : decode cX2_leave 11 = .ok (.ifCond .ne 13, 3) := by decide +kernel
theorem dX2_leave_14 : decode cX2_leave 14 = .ok (.new 52, 3) := by decide +kernel
theorem dX2_leave_17 : decode cX2_leave 17 = .ok (.dup, 1) := by decide +kernel
theorem dX2_leave_18 : decode cX2_leave 18 = .ok (.ldc 54, 2) := by decide +kernel
theorem dX2_leave_20 : decode cX2_leave 20 = .ok (.invokespecial 56, 3) := by decide +kernel
theorem dX2_leave_23 : decode cX2_leave 23 = .ok (.athrow, 1) := by decide +kernel
theorem dX2_leave_24 : decode cX2_leave 24 = .ok (.aload_n 0, 1) := by decide +kernel
theorem dX2_leave_25 : decode cX2_leave 25 = .ok (.getfield 10, 3) := by decide +kernel
theorem dX2_leave_28 : decode cX2_leave 28 = .ok (.getfield 26, 3) := by decide +kernel
theorem dX2_leave_31 : decode cX2_leave 31 = .ok (.getfield 57, 3) := by decide +kernel
theorem dX2_leave_34 : decode cX2_leave 34 = .ok (.iload_n 1, 1) := by decide +kernel
theorem dX2_leave_35 : decode cX2_leave 35 = .ok (.iaload, 1) := by decide +kernel
theorem dX2_leave_36 : decode cX2_leave 36 = .ok (.ifCond .eq 13, 3) := by decide +kernel
theorem dX2_leave_39 : decode cX2_leave 39 = .ok (.new 36, 3) := by decide +kernel
theorem dX2_leave_42 : decode cX2_leave 42 = .ok (.dup, 1) := by decide +kernel
theorem dX2_leave_43 : decode cX2_leave 43 = .ok (.ldc 61, 2) := by decide +kernel
theorem dX2_leave_45 : decode cX2_leave 45 = .ok (.invokespecial 40, 3) := by decide +kernel
theorem dX2_leave_48 : decode cX2_leave 48 = .ok (.athrow, 1) := by decide +kernel
theorem dX2_leave_49 : decode cX2_leave 49 = .ok (.aload_n 0, 1) := by decide +kernel
theorem dX2_leave_50 : decode cX2_leave 50 = .ok (.getfield 10, 3) := by decide +kernel
theorem dX2_leave_53 : decode cX2_leave 53 = .ok (.getfield 26, 3) := by decide +kernel
theorem dX2_leave_56 : decode cX2_leave 56 = .ok (.iload_n 1, 1) := by decide +kernel
theorem dX2_leave_57 : decode cX2_leave 57 = .ok (.iconst 3, 1) := by decide +kernel
theorem dX2_leave_58 : decode cX2_leave 58 = .ok (.aload_n 0, 1) := by decide +kernel
theorem dX2_leave_59 : decode cX2_leave 59 = .ok (.getfield 10, 3) := by decide +kernel
theorem dX2_leave_62 : decode cX2_leave 62 = .ok (.getfield 41, 3) := by decide +kernel
theorem dX2_leave_65 : decode cX2_leave 65 = .ok (.invokevirtual 63, 3) := by decide +kernel
theorem dX2_leave_68 : decode cX2_leave 68 = .ok (.aload_n 0, 1) := by decide +kernel
theorem dX2_leave_69 : decode cX2_leave 69 = .ok (.getfield 10, 3) := by decide +kernel
theorem dX2_leave_72 : decode cX2_leave 72 = .ok (.getfield 26, 3) := by decide +kernel
theorem dX2_leave_75 : decode cX2_leave 75 = .ok (.iload_n 1, 1) := by decide +kernel
theorem dX2_leave_76 : decode cX2_leave 76 = .ok (.aload_n 0, 1) := by decide +kernel
theorem dX2_leave_77 : decode cX2_leave 77 = .ok (.getfield 10, 3) := by decide +kernel
theorem dX2_leave_80 : decode cX2_leave 80 = .ok (.getfield 41, 3) := by decide +kernel
theorem dX2_leave_83 : decode cX2_leave 83 = .ok (.invokevirtual 67, 3) := by decide +kernel
theorem dX2_leave_86 : decode cX2_leave 86 = .ok (.ireturn, 1) := by decide +kernel
theorem dX2_ring_0 : decode cX2_ring 0 = .ok (.iload_n 1, 1) := by decide +kernel
theorem dX2_ring_1 : decode cX2_ring 1 = .ok (.ifCond .lt 8, 3) := by decide +kernel
theorem dX2_ring_4 : decode cX2_ring 4 = .ok (.iload_n 1, 1) := by decide +kernel
theorem dX2_ring_5 : decode cX2_ring 5 = .ok (.iconst 4, 1) := by decide +kernel
theorem dX2_ring_6 : decode cX2_ring 6 = .ok (.if_icmp .le 13, 3) := by decide +kernel
theorem dX2_ring_9 : decode cX2_ring 9 = .ok (.new 19, 3) := by decide +kernel
theorem dX2_ring_12 : decode cX2_ring 12 = .ok (.dup, 1) := by decide +kernel
theorem dX2_ring_13 : decode cX2_ring 13 = .ok (.ldc 71, 2) := by decide +kernel
theorem dX2_ring_15 : decode cX2_ring 15 = .ok (.invokespecial 23, 3) := by decide +kernel
theorem dX2_ring_18 : decode cX2_ring 18 = .ok (.athrow, 1) := by decide +kernel
theorem dX2_ring_19 : decode cX2_ring 19 = .ok (.aload_n 0, 1) := by decide +kernel
theorem dX2_ring_20 : decode cX2_ring 20 = .ok (.getfield 10, 3) := by decide +kernel
theorem dX2_ring_23 : decode cX2_ring 23 = .ok (.getfield 73, 3) := by decide +kernel
theorem dX2_ring_26 : decode cX2_ring 26 = .ok (.istore_n 2, 1) := by decide +kernel
theorem dX2_ring_27 : decode cX2_ring 27 = .ok (.aload_n 0, 1) := by decide +kernel
theorem dX2_ring_28 : decode cX2_ring 28 = .ok (.getfield 10, 3) := by decide +kernel
theorem dX2_ring_31 : decode cX2_ring 31 = .ok (.iload_n 1, 1) := by decide +kernel
theorem dX2_ring_32 : decode cX2_ring 32 = .ok (.putfield 73, 3) := by decide +kernel
theorem dX2_ring_35 : decode cX2_ring 35 = .ok (.iload_n 2, 1) := by decide +kernel
theorem dX2_ring_36 : decode cX2_ring 36 = .ok (.ireturn, 1) := by decide +kernel
theorem dX2_poise_0 : decode cX2_poise 0 = .ok (.iload_n 1, 1) := by decide +kernel
theorem dX2_poise_1 : decode cX2_poise 1 = .ok (.ifCond .lt 9, 3) := by decide +kernel
theorem dX2_poise_4 : decode cX2_poise 4 = .ok (.iload_n 1, 1) := by decide +kernel
theorem dX2_poise_5 : decode cX2_poise 5 = .ok (.bipush 30, 2) := by decide +kernel
theorem dX2_poise_7 : decode cX2_poise 7 = .ok (.if_icmp .le 13, 3) := by decide +kernel
theorem dX2_poise_10 : decode cX2_poise 10 = .ok (.new 19, 3) := by decide +kernel
theorem dX2_poise_13 : decode cX2_poise 13 = .ok (.dup, 1) := by decide +kernel
theorem dX2_poise_14 : decode cX2_poise 14 = .ok (.ldc 76, 2) := by decide +kernel
theorem dX2_poise_16 : decode cX2_poise 16 = .ok (.invokespecial 23, 3) := by decide +kernel
theorem dX2_poise_19 : decode cX2_poise 19 = .ok (.athrow, 1) := by decide +kernel
theorem dX2_poise_20 : decode cX2_poise 20 = .ok (.aload_n 0, 1) := by decide +kernel
theorem dX2_poise_21 : decode cX2_poise 21 = .ok (.getfield 10, 3) := by decide +kernel
theorem dX2_poise_24 : decode cX2_poise 24 = .ok (.getfield 78, 3) := by decide +kernel
theorem dX2_poise_27 : decode cX2_poise 27 = .ok (.ifCond .eq 25, 3) := by decide +kernel
theorem dX2_poise_30 : decode cX2_poise 30 = .ok (.aload_n 0, 1) := by decide +kernel
theorem dX2_poise_31 : decode cX2_poise 31 = .ok (.getfield 10, 3) := by decide +kernel
theorem dX2_poise_34 : decode cX2_poise 34 = .ok (.getfield 78, 3) := by decide +kernel
theorem dX2_poise_37 : decode cX2_poise 37 = .ok (.bipush 60, 2) := by decide +kernel
theorem dX2_poise_39 : decode cX2_poise 39 = .ok (.if_icmp .eq 13, 3) := by decide +kernel
theorem dX2_poise_42 : decode cX2_poise 42 = .ok (.new 36, 3) := by decide +kernel
theorem dX2_poise_45 : decode cX2_poise 45 = .ok (.dup, 1) := by decide +kernel
theorem dX2_poise_46 : decode cX2_poise 46 = .ok (.ldc 81, 2) := by decide +kernel
theorem dX2_poise_48 : decode cX2_poise 48 = .ok (.invokespecial 40, 3) := by decide +kernel
theorem dX2_poise_51 : decode cX2_poise 51 = .ok (.athrow, 1) := by decide +kernel
theorem dX2_poise_52 : decode cX2_poise 52 = .ok (.aload_n 0, 1) := by decide +kernel
theorem dX2_poise_53 : decode cX2_poise 53 = .ok (.getfield 10, 3) := by decide +kernel
theorem dX2_poise_56 : decode cX2_poise 56 = .ok (.getfield 83, 3) := by decide +kernel
theorem dX2_poise_59 : decode cX2_poise 59 = .ok (.istore_n 2, 1) := by decide +kernel
theorem dX2_poise_60 : decode cX2_poise 60 = .ok (.aload_n 0, 1) := by decide +kernel
theorem dX2_poise_61 : decode cX2_poise 61 = .ok (.getfield 10, 3) := by decide +kernel
theorem dX2_poise_64 : decode cX2_poise 64 = .ok (.iload_n 1, 1) := by decide +kernel
theorem dX2_poise_65 : decode cX2_poise 65 = .ok (.putfield 83, 3) := by decide +kernel
theorem dX2_poise_68 : decode cX2_poise 68 = .ok (.iload_n 2, 1) := by decide +kernel
theorem dX2_poise_69 : decode cX2_poise 69 = .ok (.ireturn, 1) := by decide +kernel
theorem dX2_setCold_0 : decode cX2_setCold 0 = .ok (.iload_n 1, 1) := by decide +kernel
theorem dX2_setCold_1 : decode cX2_setCold 1 = .ok (.ifCond .lt 9, 3) := by decide +kernel
theorem dX2_setCold_4 : decode cX2_setCold 4 = .ok (.iload_n 1, 1) := by decide +kernel
theorem dX2_setCold_5 : decode cX2_setCold 5 = .ok (.bipush 8, 2) := by decide +kernel
theorem dX2_setCold_7 : decode cX2_setCold 7 = .ok (.if_icmp .lt 13, 3) := by decide +kernel
theorem dX2_setCold_10 : decode cX2_setCold 10 = .ok (.new 52, 3) := by decide +kernel
theorem dX2_setCold_13 : decode cX2_setCold 13 = .ok (.dup, 1) := by decide +kernel
theorem dX2_setCold_14 : decode cX2_setCold 14 = .ok (.ldc 86, 2) := by decide +kernel
theorem dX2_setCold_16 : decode cX2_setCold 16 = .ok (.invokespecial 56, 3) := by decide +kernel
theorem dX2_setCold_19 : decode cX2_setCold 19 = .ok (.athrow, 1) := by decide +kernel
theorem dX2_setCold_20 : decode cX2_setCold 20 = .ok (.iload_n 2, 1) := by decide +kernel
theorem dX2_setCold_21 : decode cX2_setCold 21 = .ok (.bipush (-3), 2) := by decide +kernel
theorem dX2_setCold_23 : decode cX2_setCold 23 = .ok (.if_icmp .lt 8, 3) := by decide +kernel
theorem dX2_setCold_26 : decode cX2_setCold 26 = .ok (.iload_n 2, 1) := by decide +kernel
theorem dX2_setCold_27 : decode cX2_setCold 27 = .ok (.iconst 3, 1) := by decide +kernel
theorem dX2_setCold_28 : decode cX2_setCold 28 = .ok (.if_icmp .le 13, 3) := by decide +kernel
theorem dX2_setCold_31 : decode cX2_setCold 31 = .ok (.new 19, 3) := by decide +kernel
theorem dX2_setCold_34 : decode cX2_setCold 34 = .ok (.dup, 1) := by decide +kernel
theorem dX2_setCold_35 : decode cX2_setCold 35 = .ok (.ldc 88, 2) := by decide +kernel
theorem dX2_setCold_37 : decode cX2_setCold 37 = .ok (.invokespecial 23, 3) := by decide +kernel
theorem dX2_setCold_40 : decode cX2_setCold 40 = .ok (.athrow, 1) := by decide +kernel
theorem dX2_setCold_41 : decode cX2_setCold 41 = .ok (.aload_n 0, 1) := by decide +kernel
theorem dX2_setCold_42 : decode cX2_setCold 42 = .ok (.getfield 10, 3) := by decide +kernel
theorem dX2_setCold_45 : decode cX2_setCold 45 = .ok (.getfield 90, 3) := by decide +kernel
theorem dX2_setCold_48 : decode cX2_setCold 48 = .ok (.iload_n 1, 1) := by decide +kernel
theorem dX2_setCold_49 : decode cX2_setCold 49 = .ok (.iaload, 1) := by decide +kernel
theorem dX2_setCold_50 : decode cX2_setCold 50 = .ok (.istore_n 3, 1) := by decide +kernel
theorem dX2_setCold_51 : decode cX2_setCold 51 = .ok (.aload_n 0, 1) := by decide +kernel
theorem dX2_setCold_52 : decode cX2_setCold 52 = .ok (.getfield 10, 3) := by decide +kernel
theorem dX2_setCold_55 : decode cX2_setCold 55 = .ok (.getfield 90, 3) := by decide +kernel
theorem dX2_setCold_58 : decode cX2_setCold 58 = .ok (.iload_n 1, 1) := by decide +kernel
theorem dX2_setCold_59 : decode cX2_setCold 59 = .ok (.iload_n 2, 1) := by decide +kernel
theorem dX2_setCold_60 : decode cX2_setCold 60 = .ok (.iastore, 1) := by decide +kernel
theorem dX2_setCold_61 : decode cX2_setCold 61 = .ok (.iload_n 3, 1) := by decide +kernel
theorem dX2_setCold_62 : decode cX2_setCold 62 = .ok (.ireturn, 1) := by decide +kernel
theorem dX2_crack_0 : decode cX2_crack 0 = .ok (.aload_n 0, 1) := by decide +kernel
theorem dX2_crack_1 : decode cX2_crack 1 = .ok (.getfield 10, 3) := by decide +kernel
theorem dX2_crack_4 : decode cX2_crack 4 = .ok (.iconst 0, 1) := by decide +kernel
theorem dX2_crack_5 : decode cX2_crack 5 = .ok (.aload_n 0, 1) := by decide +kernel
theorem dX2_crack_6 : decode cX2_crack 6 = .ok (.getfield 10, 3) := by decide +kernel
theorem dX2_crack_9 : decode cX2_crack 9 = .ok (.getfield 93, 3) := by decide +kernel
theorem dX2_crack_12 : decode cX2_crack 12 = .ok (.iconst 3, 1) := by decide +kernel
theorem dX2_crack_13 : decode cX2_crack 13 = .ok (.isub, 1) := by decide +kernel
theorem dX2_crack_14 : decode cX2_crack 14 = .ok (.invokestatic 96, 3) := by decide +kernel
theorem dX2_crack_17 : decode cX2_crack 17 = .ok (.putfield 93, 3) := by decide +kernel
theorem dX2_crack_20 : decode cX2_crack 20 = .ok (.aload_n 0, 1) := by decide +kernel
theorem dX2_crack_21 : decode cX2_crack 21 = .ok (.getfield 10, 3) := by decide +kernel
theorem dX2_crack_24 : decode cX2_crack 24 = .ok (.getfield 93, 3) := by decide +kernel
theorem dX2_crack_27 : decode cX2_crack 27 = .ok (.ireturn, 1) := by decide +kernel
set_option maxRecDepth 20000 in
theorem ggX2_traveller_X1_has : GoodIn wsX2_traveller wsX1_has := goodIn_r _ [9, 10, 45, 46, 47, 48, 49, 50, 51, 52, 53, 54, 55, 56] (by decide +kernel) (by decide +kernel)
set_option maxRecDepth 20000 in
theorem gX2_traveller_X1_has : GoodIn wsX2_traveller (wsV RX2 48 RX1 yX1_has wsX1_has) := goodIn_app (goodIn_of _ (by decide +kernel)) ggX2_traveller_X1_has
set_option maxRecDepth 20000 in
theorem ggX2_traveller_X0_factOf : GoodIn wsX2_traveller wsX0_factOf := goodIn_r _ [15, 16, 17, 18, 19, 20, 21, 22, 23, 24, 25, 26, 27, 8, 28, 29, 30, 31, 34, 35, 36, 37, 38, 39, 40, 41, 42, 43, 44, 45, 46, 47, 48, 49, 50, 51, 52, 53, 54, 55, 56] (by decide +kernel) (by decide +kernel)
set_option maxRecDepth 20000 in
theorem gX2_traveller_X0_factOf : GoodIn wsX2_traveller (wsV RX2 103 RX0 yX0_factOf wsX0_factOf) := goodIn_app (goodIn_of _ (by decide +kernel)) ggX2_traveller_X0_factOf
theorem dX2_traveller_0 : decode cX2_traveller 0 = .ok (.aload_n 0, 1) := by decide +kernel
theorem dX2_traveller_1 : decode cX2_traveller 1 = .ok (.getfield 10, 3) := by decide +kernel
theorem dX2_traveller_4 : decode cX2_traveller 4 = .ok (.getfield 26, 3) := by decide +kernel
theorem dX2_traveller_7 : decode cX2_traveller 7 = .ok (.iload_n 1, 1) := by decide +kernel
theorem dX2_traveller_8 : decode cX2_traveller 8 = .ok (.invokevirtual 48, 3) := by decide +kernel
theorem dX2_traveller_11 : decode cX2_traveller 11 = .ok (.ifCond .ne 13, 3) := by decide +kernel
theorem dX2_traveller_14 : decode cX2_traveller 14 = .ok (.new 52, 3) := by decide +kernel
theorem dX2_traveller_17 : decode cX2_traveller 17 = .ok (.dup, 1) := by decide +kernel
theorem dX2_traveller_18 : decode cX2_traveller 18 = .ok (.ldc 54, 2) := by decide +kernel
theorem dX2_traveller_20 : decode cX2_traveller 20 = .ok (.invokespecial 56, 3) := by decide +kernel
theorem dX2_traveller_23 : decode cX2_traveller 23 = .ok (.athrow, 1) := by decide +kernel
theorem dX2_traveller_24 : decode cX2_traveller 24 = .ok (.iload_n 2, 1) := by decide +kernel
theorem dX2_traveller_25 : decode cX2_traveller 25 = .ok (.ifCond .lt 9, 3) := by decide +kernel
theorem dX2_traveller_28 : decode cX2_traveller 28 = .ok (.iload_n 2, 1) := by decide +kernel
theorem dX2_traveller_29 : decode cX2_traveller 29 = .ok (.bipush 7, 2) := by decide +kernel
theorem dX2_traveller_31 : decode cX2_traveller 31 = .ok (.if_icmp .lt 13, 3) := by decide +kernel
theorem dX2_traveller_34 : decode cX2_traveller 34 = .ok (.new 52, 3) := by decide +kernel
theorem dX2_traveller_37 : decode cX2_traveller 37 = .ok (.dup, 1) := by decide +kernel
theorem dX2_traveller_38 : decode cX2_traveller 38 = .ok (.ldc 101, 2) := by decide +kernel
theorem dX2_traveller_40 : decode cX2_traveller 40 = .ok (.invokespecial 56, 3) := by decide +kernel
theorem dX2_traveller_43 : decode cX2_traveller 43 = .ok (.athrow, 1) := by decide +kernel
theorem dX2_traveller_44 : decode cX2_traveller 44 = .ok (.aload_n 0, 1) := by decide +kernel
theorem dX2_traveller_45 : decode cX2_traveller 45 = .ok (.getfield 10, 3) := by decide +kernel
theorem dX2_traveller_48 : decode cX2_traveller 48 = .ok (.iload_n 1, 1) := by decide +kernel
theorem dX2_traveller_49 : decode cX2_traveller 49 = .ok (.iload_n 2, 1) := by decide +kernel
theorem dX2_traveller_50 : decode cX2_traveller 50 = .ok (.invokevirtual 103, 3) := by decide +kernel
theorem dX2_traveller_53 : decode cX2_traveller 53 = .ok (.ireturn, 1) := by decide +kernel
set_option maxRecDepth 20000 in
theorem ggX2_count_X0_total : GoodIn wsX2_count wsX0_total := goodIn_r _ [8, 9, 10, 11, 12, 13, 14, 15, 16, 17, 18, 19, 20, 21, 22, 23, 7, 24, 25, 26, 27, 28, 29, 30, 31, 32, 33, 34, 35, 36, 37, 38, 39, 40, 41, 42, 43, 44, 47, 48, 49, 50, 51, 52, 53, 54, 55, 56, 57, 58, 59, 60, 61, 62, 63, 64, 65, 66, 67, 68, 69] (by decide +kernel) (by decide +kernel)
set_option maxRecDepth 20000 in
theorem gX2_count_X0_total : GoodIn wsX2_count (wsV RX2 108 RX0 yX0_total wsX0_total) := goodIn_app (goodIn_of _ (by decide +kernel)) ggX2_count_X0_total
theorem dX2_count_0 : decode cX2_count 0 = .ok (.iload_n 1, 1) := by decide +kernel
theorem dX2_count_1 : decode cX2_count 1 = .ok (.ifCond .lt 9, 3) := by decide +kernel
theorem dX2_count_4 : decode cX2_count 4 = .ok (.iload_n 1, 1) := by decide +kernel
theorem dX2_count_5 : decode cX2_count 5 = .ok (.bipush 12, 2) := by decide +kernel
theorem dX2_count_7 : decode cX2_count 7 = .ok (.if_icmp .lt 13, 3) := by decide +kernel
theorem dX2_count_10 : decode cX2_count 10 = .ok (.new 52, 3) := by decide +kernel
theorem dX2_count_13 : decode cX2_count 13 = .ok (.dup, 1) := by decide +kernel
theorem dX2_count_14 : decode cX2_count 14 = .ok (.ldc 106, 2) := by decide +kernel
theorem dX2_count_16 : decode cX2_count 16 = .ok (.invokespecial 56, 3) := by decide +kernel
theorem dX2_count_19 : decode cX2_count 19 = .ok (.athrow, 1) := by decide +kernel
theorem dX2_count_20 : decode cX2_count 20 = .ok (.aload_n 0, 1) := by decide +kernel
theorem dX2_count_21 : decode cX2_count 21 = .ok (.getfield 10, 3) := by decide +kernel
theorem dX2_count_24 : decode cX2_count 24 = .ok (.iload_n 1, 1) := by decide +kernel
theorem dX2_count_25 : decode cX2_count 25 = .ok (.invokevirtual 108, 3) := by decide +kernel
theorem dX2_count_28 : decode cX2_count 28 = .ok (.ireturn, 1) := by decide +kernel
set_option maxRecDepth 20000 in
theorem ggX2_speed_X0_speedTowards : GoodIn wsX2_speed wsX0_speedTowards := goodIn_r _ [6, 7, 8, 9, 10, 11, 12, 15, 16, 17, 18, 19, 20, 21, 22, 23, 24, 25] (by decide +kernel) (by decide +kernel)
set_option maxRecDepth 20000 in
theorem gX2_speed_X0_speedTowards : GoodIn wsX2_speed (wsV RX2 112 RX0 yX0_speedTowards wsX0_speedTowards) := goodIn_app (goodIn_of _ (by decide +kernel)) ggX2_speed_X0_speedTowards
theorem dX2_speed_0 : decode cX2_speed 0 = .ok (.aload_n 0, 1) := by decide +kernel
theorem dX2_speed_1 : decode cX2_speed 1 = .ok (.getfield 10, 3) := by decide +kernel
theorem dX2_speed_4 : decode cX2_speed 4 = .ok (.iload_n 1, 1) := by decide +kernel
theorem dX2_speed_5 : decode cX2_speed 5 = .ok (.invokevirtual 112, 3) := by decide +kernel
theorem dX2_speed_8 : decode cX2_speed 8 = .ok (.ireturn, 1) := by decide +kernel
set_option maxRecDepth 20000 in
theorem ggX2_pass_X2_isSpan : GoodIn wsX2_pass wsX2_isSpan := goodIn_r _ [9] (by decide +kernel) (by decide +kernel)
set_option maxRecDepth 20000 in
theorem gX2_pass_X2_isSpan : GoodIn wsX2_pass (va_wsS RX2 116 yX2_isSpan wsX2_isSpan) := goodIn_app (goodIn_of _ (by decide +kernel)) ggX2_pass_X2_isSpan
set_option maxRecDepth 20000 in
theorem ggX2_pass_X0_goOn : GoodIn wsX2_pass wsX0_goOn := goodIn_r _ [14, 15, 16, 17, 13, 18, 19, 20, 21, 22, 23, 24, 25, 26, 27, 28, 29, 30, 31, 32, 33, 34, 35, 36, 37, 38, 39, 40, 41, 42, 43, 44, 45, 46, 47, 48, 49, 50, 51, 52, 53, 54, 55, 56, 57, 58, 59, 60, 61, 62, 63, 64, 65, 66, 67, 68, 69, 70, 71, 72, 73, 74, 75, 76, 77, 78, 79, 80, 81, 82, 83, 84, 85, 86, 87, 88, 89, 90, 91, 92, 93, 94, 95, 96, 97, 98, 99, 100, 101, 102, 103, 104, 107, 108, 109, 110, 111, 112, 113, 114, 115, 116, 117, 118, 119, 120, 121, 122, 123, 124, 125, 126, 127, 128, 129] (by decide +kernel) (by decide +kernel)
set_option maxRecDepth 20000 in
theorem gX2_pass_X0_goOn : GoodIn wsX2_pass (wsV RX2 124 RX0 yX0_goOn wsX0_goOn) := goodIn_app (goodIn_of _ (by decide +kernel)) ggX2_pass_X0_goOn
theorem dX2_pass_0 : decode cX2_pass 0 = .ok (.iload_n 1, 1) := by decide +kernel
theorem dX2_pass_1 : decode cX2_pass 1 = .ok (.invokestatic 116, 3) := by decide +kernel
theorem dX2_pass_4 : decode cX2_pass 4 = .ok (.ifCond .ne 13, 3) := by decide +kernel
theorem dX2_pass_7 : decode cX2_pass 7 = .ok (.new 19, 3) := by decide +kernel
theorem dX2_pass_10 : decode cX2_pass 10 = .ok (.dup, 1) := by decide +kernel
theorem dX2_pass_11 : decode cX2_pass 11 = .ok (.ldc 119, 2) := by decide +kernel
theorem dX2_pass_13 : decode cX2_pass 13 = .ok (.invokespecial 23, 3) := by decide +kernel
theorem dX2_pass_16 : decode cX2_pass 16 = .ok (.athrow, 1) := by decide +kernel
theorem dX2_pass_17 : decode cX2_pass 17 = .ok (.aload_n 0, 1) := by decide +kernel
theorem dX2_pass_18 : decode cX2_pass 18 = .ok (.getfield 10, 3) := by decide +kernel
theorem dX2_pass_21 : decode cX2_pass 21 = .ok (.getfield 26, 3) := by decide +kernel
theorem dX2_pass_24 : decode cX2_pass 24 = .ok (.getfield 121, 3) := by decide +kernel
theorem dX2_pass_27 : decode cX2_pass 27 = .ok (.istore_n 2, 1) := by decide +kernel
theorem dX2_pass_28 : decode cX2_pass 28 = .ok (.aload_n 0, 1) := by decide +kernel
theorem dX2_pass_29 : decode cX2_pass 29 = .ok (.getfield 10, 3) := by decide +kernel
theorem dX2_pass_32 : decode cX2_pass 32 = .ok (.iload_n 1, 1) := by decide +kernel
theorem dX2_pass_33 : decode cX2_pass 33 = .ok (.invokevirtual 124, 3) := by decide +kernel
theorem dX2_pass_36 : decode cX2_pass 36 = .ok (.aload_n 0, 1) := by decide +kernel
theorem dX2_pass_37 : decode cX2_pass 37 = .ok (.getfield 10, 3) := by decide +kernel
theorem dX2_pass_40 : decode cX2_pass 40 = .ok (.getfield 26, 3) := by decide +kernel
theorem dX2_pass_43 : decode cX2_pass 43 = .ok (.getfield 121, 3) := by decide +kernel
theorem dX2_pass_46 : decode cX2_pass 46 = .ok (.iload_n 2, 1) := by decide +kernel
theorem dX2_pass_47 : decode cX2_pass 47 = .ok (.isub, 1) := by decide +kernel
theorem dX2_pass_48 : decode cX2_pass 48 = .ok (.ireturn, 1) := by decide +kernel
set_option maxRecDepth 20000 in
theorem ggX2_when_X1_has : GoodIn wsX2_when wsX1_has := goodIn_r _ [11, 12, 127, 128, 129, 130, 131, 132, 133, 134, 135, 136, 137, 138] (by decide +kernel) (by decide +kernel)
set_option maxRecDepth 20000 in
theorem gX2_when_X1_has : GoodIn wsX2_when (wsV RX2 48 RX1 yX1_has wsX1_has) := goodIn_app (goodIn_of _ (by decide +kernel)) ggX2_when_X1_has
set_option maxRecDepth 20000 in
theorem ggX2_when_X0_copyFrom : GoodIn wsX2_when wsX0_copyFrom := goodIn_r _ [17, 18, 19, 20, 21, 22, 23, 24, 25, 26, 27, 28, 29, 30, 31, 32, 33, 34, 35, 10, 36, 12, 37, 38, 39, 40, 41, 42, 43, 44, 45, 46, 47, 48, 116, 117, 118, 119, 120, 121, 122, 123, 124, 125, 126, 127, 128, 129, 130, 131, 132, 133, 134, 135, 136, 137, 138] (by decide +kernel) (by decide +kernel)
set_option maxRecDepth 20000 in
theorem gX2_when_X0_copyFrom : GoodIn wsX2_when (wsV RX2 128 RX0 yX0_copyFrom wsX0_copyFrom) := goodIn_app (goodIn_of _ (by decide +kernel)) ggX2_when_X0_copyFrom
set_option maxRecDepth 20000 in
theorem ggX2_when_X0_goOneMinute : GoodIn wsX2_when wsX0_goOneMinute := goodIn_r _ [52, 23, 29, 53, 54, 18, 55, 56, 57, 16, 58, 30, 22, 32, 59, 60, 61, 10, 62, 47, 48, 63, 64, 65, 66, 67, 68, 69, 70, 71, 72, 73, 74, 75, 76, 77, 78, 79, 19, 80, 31, 81, 82, 83, 84, 85, 8, 9, 11, 12, 86, 87, 88, 89, 43, 46, 90, 91, 92, 93, 38, 39, 40, 94, 95, 96, 97, 20, 21, 98, 99, 100, 101, 102, 103, 104, 105, 45, 37, 106, 107, 108, 109, 24, 110, 111, 112, 113, 116, 117, 118, 119, 120, 121, 122, 123, 124, 125, 126, 127, 128, 129, 130, 131, 132, 133, 134, 135, 136, 137, 138] (by decide +kernel) (by decide +kernel)
set_option maxRecDepth 20000 in
theorem gX2_when_X0_goOneMinute : GoodIn wsX2_when (wsV RX2 132 RX0 yX0_goOneMinute wsX0_goOneMinute) := goodIn_app (goodIn_of _ (by decide +kernel)) ggX2_when_X0_goOneMinute
theorem dX2_when_0 : decode cX2_when 0 = .ok (.aload_n 0, 1) := by decide +kernel
theorem dX2_when_1 : decode cX2_when 1 = .ok (.getfield 10, 3) := by decide +kernel
theorem dX2_when_4 : decode cX2_when 4 = .ok (.getfield 26, 3) := by decide +kernel
theorem dX2_when_7 : decode cX2_when 7 = .ok (.iload_n 1, 1) := by decide +kernel
theorem dX2_when_8 : decode cX2_when 8 = .ok (.invokevirtual 48, 3) := by decide +kernel
theorem dX2_when_11 : decode cX2_when 11 = .ok (.ifCond .ne 13, 3) := by decide +kernel
theorem dX2_when_14 : decode cX2_when 14 = .ok (.new 52, 3) := by decide +kernel
theorem dX2_when_17 : decode cX2_when 17 = .ok (.dup, 1) := by decide +kernel
theorem dX2_when_18 : decode cX2_when 18 = .ok (.ldc 54, 2) := by decide +kernel
theorem dX2_when_20 : decode cX2_when 20 = .ok (.invokespecial 56, 3) := by decide +kernel
theorem dX2_when_23 : decode cX2_when 23 = .ok (.athrow, 1) := by decide +kernel
theorem dX2_when_24 : decode cX2_when 24 = .ok (.aload_n 0, 1) := by decide +kernel
theorem dX2_when_25 : decode cX2_when 25 = .ok (.getfield 16, 3) := by decide +kernel
theorem dX2_when_28 : decode cX2_when 28 = .ok (.aload_n 0, 1) := by decide +kernel
theorem dX2_when_29 : decode cX2_when 29 = .ok (.getfield 10, 3) := by decide +kernel
theorem dX2_when_32 : decode cX2_when 32 = .ok (.invokevirtual 128, 3) := by decide +kernel
theorem dX2_when_35 : decode cX2_when 35 = .ok (.iconst 0, 1) := by decide +kernel
theorem dX2_when_36 : decode cX2_when 36 = .ok (.istore_n 2, 1) := by decide +kernel
theorem dX2_when_37 : decode cX2_when 37 = .ok (.iload_n 2, 1) := by decide +kernel
theorem dX2_when_38 : decode cX2_when 38 = .ok (.sipush 400, 3) := by decide +kernel
theorem dX2_when_41 : decode cX2_when 41 = .ok (.if_icmp .gt 34, 3) := by decide +kernel
theorem dX2_when_44 : decode cX2_when 44 = .ok (.aload_n 0, 1) := by decide +kernel
theorem dX2_when_45 : decode cX2_when 45 = .ok (.getfield 16, 3) := by decide +kernel
theorem dX2_when_48 : decode cX2_when 48 = .ok (.getfield 26, 3) := by decide +kernel
theorem dX2_when_51 : decode cX2_when 51 = .ok (.getfield 57, 3) := by decide +kernel
theorem dX2_when_54 : decode cX2_when 54 = .ok (.iload_n 1, 1) := by decide +kernel
theorem dX2_when_55 : decode cX2_when 55 = .ok (.iaload, 1) := by decide +kernel
theorem dX2_when_56 : decode cX2_when 56 = .ok (.iconst 2, 1) := by decide +kernel
theorem dX2_when_57 : decode cX2_when 57 = .ok (.if_icmp .ne 5, 3) := by decide +kernel
theorem dX2_when_60 : decode cX2_when 60 = .ok (.iload_n 2, 1) := by decide +kernel
theorem dX2_when_61 : decode cX2_when 61 = .ok (.ireturn, 1) := by decide +kernel
theorem dX2_when_62 : decode cX2_when 62 = .ok (.aload_n 0, 1) := by decide +kernel
theorem dX2_when_63 : decode cX2_when 63 = .ok (.getfield 16, 3) := by decide +kernel
theorem dX2_when_66 : decode cX2_when 66 = .ok (.invokevirtual 132, 3) := by decide +kernel
theorem dX2_when_69 : decode cX2_when 69 = .ok (.iinc 2 1, 3) := by decide +kernel
theorem dX2_when_72 : decode cX2_when 72 = .ok (.goto (-35), 3) := by decide +kernel
theorem dX2_when_75 : decode cX2_when 75 = .ok (.iconst (-1), 1) := by decide +kernel
theorem dX2_when_76 : decode cX2_when 76 = .ok (.ireturn, 1) := by decide +kernel
set_option maxRecDepth 20000 in
theorem ggX2_foresee_X2_isSpan : GoodIn wsX2_foresee wsX2_isSpan := goodIn_r _ [15] (by decide +kernel) (by decide +kernel)
set_option maxRecDepth 20000 in
theorem gX2_foresee_X2_isSpan : GoodIn wsX2_foresee (va_wsS RX2 116 yX2_isSpan wsX2_isSpan) := goodIn_app (goodIn_of _ (by decide +kernel)) ggX2_foresee_X2_isSpan
set_option maxRecDepth 20000 in
theorem ggX2_foresee_X0_copyFrom : GoodIn wsX2_foresee wsX0_copyFrom := goodIn_r _ [20, 21, 22, 23, 24, 25, 26, 27, 28, 29, 30, 31, 32, 33, 34, 35, 36, 37, 38, 39, 40, 41, 42, 43, 44, 45, 46, 47, 48, 49, 50, 51, 52, 53, 128, 129, 130, 131, 132, 133, 134, 135, 136, 137, 138, 139, 140, 141, 142, 143, 144, 145, 146, 147, 148, 149, 150] (by decide +kernel) (by decide +kernel)
set_option maxRecDepth 20000 in
theorem gX2_foresee_X0_copyFrom : GoodIn wsX2_foresee (wsV RX2 128 RX0 yX0_copyFrom wsX0_copyFrom) := goodIn_app (goodIn_of _ (by decide +kernel)) ggX2_foresee_X0_copyFrom
set_option maxRecDepth 20000 in
theorem ggX2_foresee_X0_goOn : GoodIn wsX2_foresee wsX0_goOn := goodIn_r _ [57, 58, 59, 60, 19, 61, 26, 32, 62, 63, 21, 64, 65, 66, 67, 33, 25, 35, 68, 69, 70, 39, 71, 52, 53, 72, 73, 74, 75, 76, 77, 78, 79, 80, 81, 82, 83, 84, 85, 86, 87, 88, 22, 89, 34, 90, 91, 92, 93, 94, 95, 96, 97, 41, 98, 99, 100, 101, 48, 51, 102, 103, 104, 105, 43, 44, 45, 106, 107, 108, 109, 23, 24, 110, 111, 112, 113, 114, 115, 116, 117, 50, 42, 118, 119, 120, 121, 27, 122, 123, 124, 125, 128, 129, 130, 131, 132, 133, 134, 135, 136, 137, 138, 139, 140, 141, 142, 143, 144, 145, 146, 147, 148, 149, 150] (by decide +kernel) (by decide +kernel)
set_option maxRecDepth 20000 in
theorem gX2_foresee_X0_goOn : GoodIn wsX2_foresee (wsV RX2 124 RX0 yX0_goOn wsX0_goOn) := goodIn_app (goodIn_of _ (by decide +kernel)) ggX2_foresee_X0_goOn
theorem dX2_foresee_0 : decode cX2_foresee 0 = .ok (.iload_n 1, 1) := by decide +kernel
theorem dX2_foresee_1 : decode cX2_foresee 1 = .ok (.invokestatic 116, 3) := by decide +kernel
theorem dX2_foresee_4 : decode cX2_foresee 4 = .ok (.ifCond .ne 13, 3) := by decide +kernel
theorem dX2_foresee_7 : decode cX2_foresee 7 = .ok (.new 19, 3) := by decide +kernel
theorem dX2_foresee_10 : decode cX2_foresee 10 = .ok (.dup, 1) := by decide +kernel
theorem dX2_foresee_11 : decode cX2_foresee 11 = .ok (.ldc 119, 2) := by decide +kernel
theorem dX2_foresee_13 : decode cX2_foresee 13 = .ok (.invokespecial 23, 3) := by decide +kernel
theorem dX2_foresee_16 : decode cX2_foresee 16 = .ok (.athrow, 1) := by decide +kernel
theorem dX2_foresee_17 : decode cX2_foresee 17 = .ok (.iload_n 2, 1) := by decide +kernel
theorem dX2_foresee_18 : decode cX2_foresee 18 = .ok (.ifCond .lt 8, 3) := by decide +kernel
theorem dX2_foresee_21 : decode cX2_foresee 21 = .ok (.iload_n 2, 1) := by decide +kernel
theorem dX2_foresee_22 : decode cX2_foresee 22 = .ok (.iconst 4, 1) := by decide +kernel
theorem dX2_foresee_23 : decode cX2_foresee 23 = .ok (.if_icmp .lt 13, 3) := by decide +kernel
theorem dX2_foresee_26 : decode cX2_foresee 26 = .ok (.new 52, 3) := by decide +kernel
theorem dX2_foresee_29 : decode cX2_foresee 29 = .ok (.dup, 1) := by decide +kernel
theorem dX2_foresee_30 : decode cX2_foresee 30 = .ok (.ldc 135, 2) := by decide +kernel
theorem dX2_foresee_32 : decode cX2_foresee 32 = .ok (.invokespecial 56, 3) := by decide +kernel
theorem dX2_foresee_35 : decode cX2_foresee 35 = .ok (.athrow, 1) := by decide +kernel
theorem dX2_foresee_36 : decode cX2_foresee 36 = .ok (.aload_n 0, 1) := by decide +kernel
theorem dX2_foresee_37 : decode cX2_foresee 37 = .ok (.getfield 16, 3) := by decide +kernel
theorem dX2_foresee_40 : decode cX2_foresee 40 = .ok (.aload_n 0, 1) := by decide +kernel
theorem dX2_foresee_41 : decode cX2_foresee 41 = .ok (.getfield 10, 3) := by decide +kernel
theorem dX2_foresee_44 : decode cX2_foresee 44 = .ok (.invokevirtual 128, 3) := by decide +kernel
theorem dX2_foresee_47 : decode cX2_foresee 47 = .ok (.aload_n 0, 1) := by decide +kernel
theorem dX2_foresee_48 : decode cX2_foresee 48 = .ok (.getfield 16, 3) := by decide +kernel
theorem dX2_foresee_51 : decode cX2_foresee 51 = .ok (.iload_n 1, 1) := by decide +kernel
theorem dX2_foresee_52 : decode cX2_foresee 52 = .ok (.invokevirtual 124, 3) := by decide +kernel
theorem dX2_foresee_55 : decode cX2_foresee 55 = .ok (.iload_n 2, 1) := by decide +kernel
theorem dX2_foresee_56 : decode cX2_foresee 56 = .ok (.tableswitch 74 0 2 #[28, 50, 66], 28) := by decide +kernel
theorem dX2_foresee_84 : decode cX2_foresee 84 = .ok (.aload_n 0, 1) := by decide +kernel
theorem dX2_foresee_85 : decode cX2_foresee 85 = .ok (.getfield 16, 3) := by decide +kernel
theorem dX2_foresee_88 : decode cX2_foresee 88 = .ok (.getfield 26, 3) := by decide +kernel
theorem dX2_foresee_91 : decode cX2_foresee 91 = .ok (.getfield 121, 3) := by decide +kernel
theorem dX2_foresee_94 : decode cX2_foresee 94 = .ok (.aload_n 0, 1) := by decide +kernel
theorem dX2_foresee_95 : decode cX2_foresee 95 = .ok (.getfield 10, 3) := by decide +kernel
theorem dX2_foresee_98 : decode cX2_foresee 98 = .ok (.getfield 26, 3) := by decide +kernel
theorem dX2_foresee_101 : decode cX2_foresee 101 = .ok (.getfield 121, 3) := by decide +kernel
theorem dX2_foresee_104 : decode cX2_foresee 104 = .ok (.isub, 1) := by decide +kernel
theorem dX2_foresee_105 : decode cX2_foresee 105 = .ok (.ireturn, 1) := by decide +kernel
theorem dX2_foresee_106 : decode cX2_foresee 106 = .ok (.aload_n 0, 1) := by decide +kernel
theorem dX2_foresee_107 : decode cX2_foresee 107 = .ok (.getfield 16, 3) := by decide +kernel
theorem dX2_foresee_110 : decode cX2_foresee 110 = .ok (.getfield 137, 3) := by decide +kernel
theorem dX2_foresee_113 : decode cX2_foresee 113 = .ok (.aload_n 0, 1) := by decide +kernel
theorem dX2_foresee_114 : decode cX2_foresee 114 = .ok (.getfield 10, 3) := by decide +kernel
theorem dX2_foresee_117 : decode cX2_foresee 117 = .ok (.getfield 137, 3) := by decide +kernel
theorem dX2_foresee_120 : decode cX2_foresee 120 = .ok (.isub, 1) := by decide +kernel
theorem dX2_foresee_121 : decode cX2_foresee 121 = .ok (.ireturn, 1) := by decide +kernel
theorem dX2_foresee_122 : decode cX2_foresee 122 = .ok (.aload_n 0, 1) := by decide +kernel
theorem dX2_foresee_123 : decode cX2_foresee 123 = .ok (.getfield 16, 3) := by decide +kernel
theorem dX2_foresee_126 : decode cX2_foresee 126 = .ok (.getfield 78, 3) := by decide +kernel
theorem dX2_foresee_129 : decode cX2_foresee 129 = .ok (.ireturn, 1) := by decide +kernel
theorem dX2_foresee_130 : decode cX2_foresee 130 = .ok (.aload_n 0, 1) := by decide +kernel
theorem dX2_foresee_131 : decode cX2_foresee 131 = .ok (.getfield 16, 3) := by decide +kernel
theorem dX2_foresee_134 : decode cX2_foresee 134 = .ok (.getfield 93, 3) := by decide +kernel
theorem dX2_foresee_137 : decode cX2_foresee 137 = .ok (.ireturn, 1) := by decide +kernel
set_option maxRecDepth 20000 in
theorem ggX2_bestCode_X2_isSpan : GoodIn wsX2_bestCode wsX2_isSpan := goodIn_r _ [8] (by decide +kernel) (by decide +kernel)
set_option maxRecDepth 20000 in
theorem gX2_bestCode_X2_isSpan : GoodIn wsX2_bestCode (va_wsS RX2 116 yX2_isSpan wsX2_isSpan) := goodIn_app (goodIn_of _ (by decide +kernel)) ggX2_bestCode_X2_isSpan
set_option maxRecDepth 20000 in
theorem ggX2_bestCode_X2_waitWith : GoodIn wsX2_bestCode wsX2_waitWith := goodIn_r _ [12, 13, 3, 14, 4, 15, 16, 17, 18, 19, 20, 21, 22, 23, 24, 25, 26, 27, 28, 29, 30, 31, 32, 33, 34, 35, 36, 37, 38, 39, 40, 41, 42, 43, 44, 45, 46, 47, 48, 49, 50, 51, 52, 53, 54, 55, 56, 57, 58, 59, 60, 61, 62, 63, 64, 65, 66, 67, 68, 69, 70, 71, 72, 73, 74, 75, 76, 77, 78, 79, 80, 81, 82, 83, 84, 85, 86, 87, 88, 89, 90, 91, 92, 93, 94, 95, 96, 97, 98, 99, 100, 101, 102, 103, 104, 105, 106, 107, 108, 109, 110, 111, 112, 113, 114, 115, 116, 117, 118, 119, 120, 121, 122, 123, 124, 125, 126, 127, 128, 129, 130, 131, 132, 133, 134, 135, 136, 137, 138, 139, 140, 141, 142, 143, 144, 145, 146, 147, 148, 149, 150] (by decide +kernel) (by decide +kernel)
set_option maxRecDepth 20000 in
theorem gX2_bestCode_X2_waitWith : GoodIn wsX2_bestCode (wsV RX2 140 RX2 yX2_waitWith wsX2_waitWith) := goodIn_app (goodIn_of _ (by decide +kernel)) ggX2_bestCode_X2_waitWith
theorem dX2_bestCode_0 : decode cX2_bestCode 0 = .ok (.iload_n 1, 1) := by decide +kernel
theorem dX2_bestCode_1 : decode cX2_bestCode 1 = .ok (.invokestatic 116, 3) := by decide +kernel
theorem dX2_bestCode_4 : decode cX2_bestCode 4 = .ok (.ifCond .ne 13, 3) := by decide +kernel
theorem dX2_bestCode_7 : decode cX2_bestCode 7 = .ok (.new 19, 3) := by decide +kernel
theorem dX2_bestCode_10 : decode cX2_bestCode 10 = .ok (.dup, 1) := by decide +kernel
theorem dX2_bestCode_11 : decode cX2_bestCode 11 = .ok (.ldc 119, 2) := by decide +kernel
theorem dX2_bestCode_13 : decode cX2_bestCode 13 = .ok (.invokespecial 23, 3) := by decide +kernel
theorem dX2_bestCode_16 : decode cX2_bestCode 16 = .ok (.athrow, 1) := by decide +kernel
theorem dX2_bestCode_17 : decode cX2_bestCode 17 = .ok (.iconst 0, 1) := by decide +kernel
theorem dX2_bestCode_18 : decode cX2_bestCode 18 = .ok (.istore_n 2, 1) := by decide +kernel
theorem dX2_bestCode_19 : decode cX2_bestCode 19 = .ok (.aload_n 0, 1) := by decide +kernel
theorem dX2_bestCode_20 : decode cX2_bestCode 20 = .ok (.iload_n 2, 1) := by decide +kernel
theorem dX2_bestCode_21 : decode cX2_bestCode 21 = .ok (.aload_n 0, 1) := by decide +kernel
theorem dX2_bestCode_22 : decode cX2_bestCode 22 = .ok (.getfield 10, 3) := by decide +kernel
theorem dX2_bestCode_25 : decode cX2_bestCode 25 = .ok (.getfield 83, 3) := by decide +kernel
theorem dX2_bestCode_28 : decode cX2_bestCode 28 = .ok (.iload_n 1, 1) := by decide +kernel
theorem dX2_bestCode_29 : decode cX2_bestCode 29 = .ok (.invokevirtual 140, 3) := by decide +kernel
theorem dX2_bestCode_32 : decode cX2_bestCode 32 = .ok (.istore_n 3, 1) := by decide +kernel
theorem dX2_bestCode_33 : decode cX2_bestCode 33 = .ok (.iload_n 2, 1) := by decide +kernel
theorem dX2_bestCode_34 : decode cX2_bestCode 34 = .ok (.iconst 1, 1) := by decide +kernel
theorem dX2_bestCode_35 : decode cX2_bestCode 35 = .ok (.iadd, 1) := by decide +kernel
theorem dX2_bestCode_36 : decode cX2_bestCode 36 = .ok (.istore 4, 2) := by decide +kernel
theorem dX2_bestCode_38 : decode cX2_bestCode 38 = .ok (.iload 4, 2) := by decide +kernel
theorem dX2_bestCode_40 : decode cX2_bestCode 40 = .ok (.iconst 3, 1) := by decide +kernel
theorem dX2_bestCode_41 : decode cX2_bestCode 41 = .ok (.if_icmp .gt 37, 3) := by decide +kernel
theorem dX2_bestCode_44 : decode cX2_bestCode 44 = .ok (.aload_n 0, 1) := by decide +kernel
theorem dX2_bestCode_45 : decode cX2_bestCode 45 = .ok (.iload 4, 2) := by decide +kernel
theorem dX2_bestCode_47 : decode cX2_bestCode 47 = .ok (.aload_n 0, 1) := by decide +kernel
theorem dX2_bestCode_48 : decode cX2_bestCode 48 = .ok (.getfield 10, 3) := by decide +kernel
theorem dX2_bestCode_51 : decode cX2_bestCode 51 = .ok (.getfield 83, 3) := by decide +kernel
theorem dX2_bestCode_54 : decode cX2_bestCode 54 = .ok (.iload_n 1, 1) := by decide +kernel
theorem dX2_bestCode_55 : decode cX2_bestCode 55 = .ok (.invokevirtual 140, 3) := by decide +kernel
theorem dX2_bestCode_58 : decode cX2_bestCode 58 = .ok (.istore 5, 2) := by decide +kernel
theorem dX2_bestCode_60 : decode cX2_bestCode 60 = .ok (.iload 5, 2) := by decide +kernel
theorem dX2_bestCode_62 : decode cX2_bestCode 62 = .ok (.iload_n 3, 1) := by decide +kernel
theorem dX2_bestCode_63 : decode cX2_bestCode 63 = .ok (.if_icmp .ge 9, 3) := by decide +kernel
theorem dX2_bestCode_66 : decode cX2_bestCode 66 = .ok (.iload 5, 2) := by decide +kernel
theorem dX2_bestCode_68 : decode cX2_bestCode 68 = .ok (.istore_n 3, 1) := by decide +kernel
theorem dX2_bestCode_69 : decode cX2_bestCode 69 = .ok (.iload 4, 2) := by decide +kernel
theorem dX2_bestCode_71 : decode cX2_bestCode 71 = .ok (.istore_n 2, 1) := by decide +kernel
theorem dX2_bestCode_72 : decode cX2_bestCode 72 = .ok (.iinc 4 1, 3) := by decide +kernel
theorem dX2_bestCode_75 : decode cX2_bestCode 75 = .ok (.goto (-37), 3) := by decide +kernel
theorem dX2_bestCode_78 : decode cX2_bestCode 78 = .ok (.iload_n 2, 1) := by decide +kernel
theorem dX2_bestCode_79 : decode cX2_bestCode 79 = .ok (.ireturn, 1) := by decide +kernel
set_option maxRecDepth 20000 in
theorem ggX2_bestPoise_X2_isSpan : GoodIn wsX2_bestPoise wsX2_isSpan := goodIn_r _ [8] (by decide +kernel) (by decide +kernel)
set_option maxRecDepth 20000 in
theorem gX2_bestPoise_X2_isSpan : GoodIn wsX2_bestPoise (va_wsS RX2 116 yX2_isSpan wsX2_isSpan) := goodIn_app (goodIn_of _ (by decide +kernel)) ggX2_bestPoise_X2_isSpan
set_option maxRecDepth 20000 in
theorem ggX2_bestPoise_X2_waitWith : GoodIn wsX2_bestPoise wsX2_waitWith := goodIn_r _ [12, 13, 3, 4, 14, 15, 16, 17, 18, 19, 20, 21, 22, 23, 24, 25, 26, 27, 28, 29, 30, 31, 32, 33, 34, 35, 36, 37, 38, 39, 40, 41, 42, 43, 44, 45, 46, 47, 48, 49, 50, 51, 52, 53, 54, 55, 56, 57, 58, 59, 60, 61, 62, 63, 64, 65, 66, 67, 68, 69, 70, 71, 72, 73, 74, 75, 76, 77, 78, 79, 80, 81, 82, 83, 84, 85, 86, 87, 88, 89, 90, 91, 92, 93, 94, 95, 96, 97, 98, 99, 100, 101, 102, 103, 104, 105, 106, 107, 108, 109, 110, 111, 112, 113, 114, 115, 116, 117, 118, 119, 120, 121, 122, 123, 124, 125, 126, 127, 128, 129, 130, 131, 132, 133, 134, 135, 136, 137, 138, 139, 140, 141, 142, 143, 144, 145, 146, 147, 148, 149, 150] (by decide +kernel) (by decide +kernel)
set_option maxRecDepth 20000 in
theorem gX2_bestPoise_X2_waitWith : GoodIn wsX2_bestPoise (wsV RX2 140 RX2 yX2_waitWith wsX2_waitWith) := goodIn_app (goodIn_of _ (by decide +kernel)) ggX2_bestPoise_X2_waitWith
theorem dX2_bestPoise_0 : decode cX2_bestPoise 0 = .ok (.iload_n 1, 1) := by decide +kernel
theorem dX2_bestPoise_1 : decode cX2_bestPoise 1 = .ok (.invokestatic 116, 3) := by decide +kernel
theorem dX2_bestPoise_4 : decode cX2_bestPoise 4 = .ok (.ifCond .ne 13, 3) := by decide +kernel
theorem dX2_bestPoise_7 : decode cX2_bestPoise 7 = .ok (.new 19, 3) := by decide +kernel
theorem dX2_bestPoise_10 : decode cX2_bestPoise 10 = .ok (.dup, 1) := by decide +kernel
theorem dX2_bestPoise_11 : decode cX2_bestPoise 11 = .ok (.ldc 119, 2) := by decide +kernel
theorem dX2_bestPoise_13 : decode cX2_bestPoise 13 = .ok (.invokespecial 23, 3) := by decide +kernel
theorem dX2_bestPoise_16 : decode cX2_bestPoise 16 = .ok (.athrow, 1) := by decide +kernel
theorem dX2_bestPoise_17 : decode cX2_bestPoise 17 = .ok (.iconst 0, 1) := by decide +kernel
theorem dX2_bestPoise_18 : decode cX2_bestPoise 18 = .ok (.istore_n 2, 1) := by decide +kernel
theorem dX2_bestPoise_19 : decode cX2_bestPoise 19 = .ok (.aload_n 0, 1) := by decide +kernel
theorem dX2_bestPoise_20 : decode cX2_bestPoise 20 = .ok (.aload_n 0, 1) := by decide +kernel
theorem dX2_bestPoise_21 : decode cX2_bestPoise 21 = .ok (.getfield 10, 3) := by decide +kernel
theorem dX2_bestPoise_24 : decode cX2_bestPoise 24 = .ok (.getfield 73, 3) := by decide +kernel
theorem dX2_bestPoise_27 : decode cX2_bestPoise 27 = .ok (.iload_n 2, 1) := by decide +kernel
theorem dX2_bestPoise_28 : decode cX2_bestPoise 28 = .ok (.iload_n 1, 1) := by decide +kernel
theorem dX2_bestPoise_29 : decode cX2_bestPoise 29 = .ok (.invokevirtual 140, 3) := by decide +kernel
theorem dX2_bestPoise_32 : decode cX2_bestPoise 32 = .ok (.istore_n 3, 1) := by decide +kernel
theorem dX2_bestPoise_33 : decode cX2_bestPoise 33 = .ok (.iload_n 2, 1) := by decide +kernel
theorem dX2_bestPoise_34 : decode cX2_bestPoise 34 = .ok (.iconst 1, 1) := by decide +kernel
theorem dX2_bestPoise_35 : decode cX2_bestPoise 35 = .ok (.iadd, 1) := by decide +kernel
theorem dX2_bestPoise_36 : decode cX2_bestPoise 36 = .ok (.istore 4, 2) := by decide +kernel
theorem dX2_bestPoise_38 : decode cX2_bestPoise 38 = .ok (.iload 4, 2) := by decide +kernel
theorem dX2_bestPoise_40 : decode cX2_bestPoise 40 = .ok (.bipush 30, 2) := by decide +kernel
theorem dX2_bestPoise_42 : decode cX2_bestPoise 42 = .ok (.if_icmp .gt 37, 3) := by decide +kernel
theorem dX2_bestPoise_45 : decode cX2_bestPoise 45 = .ok (.aload_n 0, 1) := by decide +kernel
theorem dX2_bestPoise_46 : decode cX2_bestPoise 46 = .ok (.aload_n 0, 1) := by decide +kernel
theorem dX2_bestPoise_47 : decode cX2_bestPoise 47 = .ok (.getfield 10, 3) := by decide +kernel
theorem dX2_bestPoise_50 : decode cX2_bestPoise 50 = .ok (.getfield 73, 3) := by decide +kernel
theorem dX2_bestPoise_53 : decode cX2_bestPoise 53 = .ok (.iload 4, 2) := by decide +kernel
theorem dX2_bestPoise_55 : decode cX2_bestPoise 55 = .ok (.iload_n 1, 1) := by decide +kernel
theorem dX2_bestPoise_56 : decode cX2_bestPoise 56 = .ok (.invokevirtual 140, 3) := by decide +kernel
theorem dX2_bestPoise_59 : decode cX2_bestPoise 59 = .ok (.istore 5, 2) := by decide +kernel
theorem dX2_bestPoise_61 : decode cX2_bestPoise 61 = .ok (.iload 5, 2) := by decide +kernel
theorem dX2_bestPoise_63 : decode cX2_bestPoise 63 = .ok (.iload_n 3, 1) := by decide +kernel
theorem dX2_bestPoise_64 : decode cX2_bestPoise 64 = .ok (.if_icmp .ge 9, 3) := by decide +kernel
theorem dX2_bestPoise_67 : decode cX2_bestPoise 67 = .ok (.iload 5, 2) := by decide +kernel
theorem dX2_bestPoise_69 : decode cX2_bestPoise 69 = .ok (.istore_n 3, 1) := by decide +kernel
theorem dX2_bestPoise_70 : decode cX2_bestPoise 70 = .ok (.iload 4, 2) := by decide +kernel
theorem dX2_bestPoise_72 : decode cX2_bestPoise 72 = .ok (.istore_n 2, 1) := by decide +kernel
theorem dX2_bestPoise_73 : decode cX2_bestPoise 73 = .ok (.iinc 4 1, 3) := by decide +kernel
theorem dX2_bestPoise_76 : decode cX2_bestPoise 76 = .ok (.goto (-38), 3) := by decide +kernel
theorem dX2_bestPoise_79 : decode cX2_bestPoise 79 = .ok (.iload_n 2, 1) := by decide +kernel
theorem dX2_bestPoise_80 : decode cX2_bestPoise 80 = .ok (.ireturn, 1) := by decide +kernel
theorem dX2_mean_0 : decode cX2_mean 0 = .ok (.aload_n 0, 1) := by decide +kernel
theorem dX2_mean_1 : decode cX2_mean 1 = .ok (.getfield 10, 3) := by decide +kernel
theorem dX2_mean_4 : decode cX2_mean 4 = .ok (.getfield 26, 3) := by decide +kernel
theorem dX2_mean_7 : decode cX2_mean 7 = .ok (.getfield 30, 3) := by decide +kernel
theorem dX2_mean_10 : decode cX2_mean 10 = .ok (.istore_n 1, 1) := by decide +kernel
theorem dX2_mean_11 : decode cX2_mean 11 = .ok (.iload_n 1, 1) := by decide +kernel
theorem dX2_mean_12 : decode cX2_mean 12 = .ok (.ifCond .ne 5, 3) := by decide +kernel
theorem dX2_mean_15 : decode cX2_mean 15 = .ok (.dconst 0, 1) := by decide +kernel
theorem dX2_mean_16 : decode cX2_mean 16 = .ok (.dreturn, 1) := by decide +kernel
theorem dX2_mean_17 : decode cX2_mean 17 = .ok (.aload_n 0, 1) := by decide +kernel
theorem dX2_mean_18 : decode cX2_mean 18 = .ok (.getfield 10, 3) := by decide +kernel
theorem dX2_mean_21 : decode cX2_mean 21 = .ok (.getfield 137, 3) := by decide +kernel
theorem dX2_mean_24 : decode cX2_mean 24 = .ok (.i2d, 1) := by decide +kernel
theorem dX2_mean_25 : decode cX2_mean 25 = .ok (.iload_n 1, 1) := by decide +kernel
theorem dX2_mean_26 : decode cX2_mean 26 = .ok (.i2d, 1) := by decide +kernel
theorem dX2_mean_27 : decode cX2_mean 27 = .ok (.ddiv, 1) := by decide +kernel
theorem dX2_mean_28 : decode cX2_mean 28 = .ok (.dreturn, 1) := by decide +kernel
set_option maxRecDepth 20000 in
theorem ggX2_digest_X0_total : GoodIn wsX2_digest wsX0_total := goodIn_r _ [11, 12, 13, 14, 15, 16, 17, 18, 19, 20, 21, 22, 23, 24, 25, 26, 10, 27, 28, 29, 30, 31, 32, 33, 34, 35, 36, 37, 38, 39, 40, 41, 42, 43, 44, 45, 46, 47, 67, 68, 69, 70, 71, 72, 73, 74, 75, 76, 77, 78, 79, 80, 81, 82, 83, 84, 85, 86, 87, 88, 89] (by decide +kernel) (by decide +kernel)
set_option maxRecDepth 20000 in
theorem gX2_digest_X0_total : GoodIn wsX2_digest (wsV RX2 108 RX0 yX0_total wsX0_total) := goodIn_app (goodIn_of _ (by decide +kernel)) ggX2_digest_X0_total
set_option maxRecDepth 20000 in
theorem ggX2_digest_X0_factOf : GoodIn wsX2_digest wsX0_factOf := goodIn_r _ [51, 17, 52, 53, 54, 55, 12, 23, 56, 57, 58, 59, 60, 32, 61, 62, 63, 64, 67, 68, 69, 70, 71, 72, 73, 74, 75, 76, 77, 78, 79, 80, 81, 82, 83, 84, 85, 86, 87, 88, 89] (by decide +kernel) (by decide +kernel)
set_option maxRecDepth 20000 in
theorem gX2_digest_X0_factOf : GoodIn wsX2_digest (wsV RX2 103 RX0 yX0_factOf wsX0_factOf) := goodIn_app (goodIn_of _ (by decide +kernel)) ggX2_digest_X0_factOf
theorem dX2_digest_0 : decode cX2_digest 0 = .ok (.ldc2_w 144, 3) := by decide +kernel
theorem dX2_digest_3 : decode cX2_digest 3 = .ok (.lstore_n 1, 1) := by decide +kernel
theorem dX2_digest_4 : decode cX2_digest 4 = .ok (.iconst 0, 1) := by decide +kernel
theorem dX2_digest_5 : decode cX2_digest 5 = .ok (.istore_n 3, 1) := by decide +kernel
theorem dX2_digest_6 : decode cX2_digest 6 = .ok (.iload_n 3, 1) := by decide +kernel
theorem dX2_digest_7 : decode cX2_digest 7 = .ok (.bipush 12, 2) := by decide +kernel
theorem dX2_digest_9 : decode cX2_digest 9 = .ok (.if_icmp .ge 25, 3) := by decide +kernel
theorem dX2_digest_12 : decode cX2_digest 12 = .ok (.lload_n 1, 1) := by decide +kernel
theorem dX2_digest_13 : decode cX2_digest 13 = .ok (.ldc2_w 146, 3) := by decide +kernel
theorem dX2_digest_16 : decode cX2_digest 16 = .ok (.lmul, 1) := by decide +kernel
theorem dX2_digest_17 : decode cX2_digest 17 = .ok (.aload_n 0, 1) := by decide +kernel
theorem dX2_digest_18 : decode cX2_digest 18 = .ok (.getfield 10, 3) := by decide +kernel
theorem dX2_digest_21 : decode cX2_digest 21 = .ok (.iload_n 3, 1) := by decide +kernel
theorem dX2_digest_22 : decode cX2_digest 22 = .ok (.invokevirtual 108, 3) := by decide +kernel
theorem dX2_digest_25 : decode cX2_digest 25 = .ok (.i2l, 1) := by decide +kernel
theorem dX2_digest_26 : decode cX2_digest 26 = .ok (.ladd, 1) := by decide +kernel
theorem dX2_digest_27 : decode cX2_digest 27 = .ok (.lstore_n 1, 1) := by decide +kernel
theorem dX2_digest_28 : decode cX2_digest 28 = .ok (.iinc 3 1, 3) := by decide +kernel
theorem dX2_digest_31 : decode cX2_digest 31 = .ok (.goto (-25), 3) := by decide +kernel
theorem dX2_digest_34 : decode cX2_digest 34 = .ok (.iconst 0, 1) := by decide +kernel
theorem dX2_digest_35 : decode cX2_digest 35 = .ok (.istore_n 3, 1) := by decide +kernel
theorem dX2_digest_36 : decode cX2_digest 36 = .ok (.iload_n 3, 1) := by decide +kernel
theorem dX2_digest_37 : decode cX2_digest 37 = .ok (.bipush 8, 2) := by decide +kernel
theorem dX2_digest_39 : decode cX2_digest 39 = .ok (.if_icmp .ge 26, 3) := by decide +kernel
theorem dX2_digest_42 : decode cX2_digest 42 = .ok (.lload_n 1, 1) := by decide +kernel
theorem dX2_digest_43 : decode cX2_digest 43 = .ok (.ldc2_w 146, 3) := by decide +kernel
theorem dX2_digest_46 : decode cX2_digest 46 = .ok (.lmul, 1) := by decide +kernel
theorem dX2_digest_47 : decode cX2_digest 47 = .ok (.aload_n 0, 1) := by decide +kernel
theorem dX2_digest_48 : decode cX2_digest 48 = .ok (.getfield 10, 3) := by decide +kernel
theorem dX2_digest_51 : decode cX2_digest 51 = .ok (.getfield 90, 3) := by decide +kernel
theorem dX2_digest_54 : decode cX2_digest 54 = .ok (.iload_n 3, 1) := by decide +kernel
theorem dX2_digest_55 : decode cX2_digest 55 = .ok (.iaload, 1) := by decide +kernel
theorem dX2_digest_56 : decode cX2_digest 56 = .ok (.i2l, 1) := by decide +kernel
theorem dX2_digest_57 : decode cX2_digest 57 = .ok (.ladd, 1) := by decide +kernel
theorem dX2_digest_58 : decode cX2_digest 58 = .ok (.lstore_n 1, 1) := by decide +kernel
theorem dX2_digest_59 : decode cX2_digest 59 = .ok (.iinc 3 1, 3) := by decide +kernel
theorem dX2_digest_62 : decode cX2_digest 62 = .ok (.goto (-26), 3) := by decide +kernel
theorem dX2_digest_65 : decode cX2_digest 65 = .ok (.iconst 0, 1) := by decide +kernel
theorem dX2_digest_66 : decode cX2_digest 66 = .ok (.istore_n 3, 1) := by decide +kernel
theorem dX2_digest_67 : decode cX2_digest 67 = .ok (.iload_n 3, 1) := by decide +kernel
theorem dX2_digest_68 : decode cX2_digest 68 = .ok (.aload_n 0, 1) := by decide +kernel
theorem dX2_digest_69 : decode cX2_digest 69 = .ok (.getfield 10, 3) := by decide +kernel
theorem dX2_digest_72 : decode cX2_digest 72 = .ok (.getfield 26, 3) := by decide +kernel
theorem dX2_digest_75 : decode cX2_digest 75 = .ok (.getfield 30, 3) := by decide +kernel
theorem dX2_digest_78 : decode cX2_digest 78 = .ok (.if_icmp .ge 43, 3) := by decide +kernel
theorem dX2_digest_81 : decode cX2_digest 81 = .ok (.iconst 0, 1) := by decide +kernel
theorem dX2_digest_82 : decode cX2_digest 82 = .ok (.istore 4, 2) := by decide +kernel
theorem dX2_digest_84 : decode cX2_digest 84 = .ok (.iload 4, 2) := by decide +kernel
theorem dX2_digest_86 : decode cX2_digest 86 = .ok (.bipush 7, 2) := by decide +kernel
theorem dX2_digest_88 : decode cX2_digest 88 = .ok (.if_icmp .ge 27, 3) := by decide +kernel
theorem dX2_digest_91 : decode cX2_digest 91 = .ok (.lload_n 1, 1) := by decide +kernel
theorem dX2_digest_92 : decode cX2_digest 92 = .ok (.ldc2_w 146, 3) := by decide +kernel
theorem dX2_digest_95 : decode cX2_digest 95 = .ok (.lmul, 1) := by decide +kernel
theorem dX2_digest_96 : decode cX2_digest 96 = .ok (.aload_n 0, 1) := by decide +kernel
theorem dX2_digest_97 : decode cX2_digest 97 = .ok (.getfield 10, 3) := by decide +kernel
theorem dX2_digest_100 : decode cX2_digest 100 = .ok (.iload_n 3, 1) := by decide +kernel
theorem dX2_digest_101 : decode cX2_digest 101 = .ok (.iload 4, 2) := by decide +kernel
theorem dX2_digest_103 : decode cX2_digest 103 = .ok (.invokevirtual 103, 3) := by decide +kernel
theorem dX2_digest_106 : decode cX2_digest 106 = .ok (.i2l, 1) := by decide +kernel
theorem dX2_digest_107 : decode cX2_digest 107 = .ok (.ladd, 1) := by decide +kernel
theorem dX2_digest_108 : decode cX2_digest 108 = .ok (.lstore_n 1, 1) := by decide +kernel
theorem dX2_digest_109 : decode cX2_digest 109 = .ok (.iinc 4 1, 3) := by decide +kernel
theorem dX2_digest_112 : decode cX2_digest 112 = .ok (.goto (-28), 3) := by decide +kernel
theorem dX2_digest_115 : decode cX2_digest 115 = .ok (.iinc 3 1, 3) := by decide +kernel
theorem dX2_digest_118 : decode cX2_digest 118 = .ok (.goto (-51), 3) := by decide +kernel
theorem dX2_digest_121 : decode cX2_digest 121 = .ok (.lload_n 1, 1) := by decide +kernel
theorem dX2_digest_122 : decode cX2_digest 122 = .ok (.lreturn, 1) := by decide +kernel
theorem dX2_isSpan_0 : decode cX2_isSpan 0 = .ok (.iload_n 0, 1) := by decide +kernel
theorem dX2_isSpan_1 : decode cX2_isSpan 1 = .ok (.iconst 1, 1) := by decide +kernel
theorem dX2_isSpan_2 : decode cX2_isSpan 2 = .ok (.if_icmp .lt 14, 3) := by decide +kernel
theorem dX2_isSpan_5 : decode cX2_isSpan 5 = .ok (.iload_n 0, 1) := by decide +kernel
theorem dX2_isSpan_6 : decode cX2_isSpan 6 = .ok (.sipush 240, 3) := by decide +kernel
theorem dX2_isSpan_9 : decode cX2_isSpan 9 = .ok (.if_icmp .gt 7, 3) := by decide +kernel
theorem dX2_isSpan_12 : decode cX2_isSpan 12 = .ok (.iconst 1, 1) := by decide +kernel
theorem dX2_isSpan_13 : decode cX2_isSpan 13 = .ok (.goto 4, 3) := by decide +kernel
theorem dX2_isSpan_16 : decode cX2_isSpan 16 = .ok (.iconst 0, 1) := by decide +kernel
theorem dX2_isSpan_17 : decode cX2_isSpan 17 = .ok (.ireturn, 1) := by decide +kernel
set_option maxRecDepth 20000 in
theorem ggX2_waitWith_X0_copyFrom : GoodIn wsX2_waitWith wsX0_copyFrom := goodIn_r _ [10, 11, 12, 13, 14, 15, 16, 17, 18, 19, 20, 21, 22, 23, 24, 25, 26, 27, 28, 29, 30, 31, 32, 33, 34, 35, 36, 37, 38, 39, 40, 41, 42, 43, 118, 119, 120, 121, 122, 123, 124, 125, 126, 127, 128, 129, 130, 131, 132, 133, 134, 135, 136, 137, 138, 139, 140] (by decide +kernel) (by decide +kernel)
set_option maxRecDepth 20000 in
theorem gX2_waitWith_X0_copyFrom : GoodIn wsX2_waitWith (wsV RX2 128 RX0 yX0_copyFrom wsX0_copyFrom) := goodIn_app (goodIn_of _ (by decide +kernel)) ggX2_waitWith_X0_copyFrom
set_option maxRecDepth 20000 in
theorem ggX2_waitWith_X0_goOn : GoodIn wsX2_waitWith wsX0_goOn := goodIn_r _ [47, 48, 49, 50, 9, 51, 16, 22, 52, 53, 11, 54, 55, 56, 57, 23, 15, 25, 58, 59, 60, 29, 61, 42, 43, 62, 63, 64, 65, 66, 67, 68, 69, 70, 71, 72, 73, 74, 75, 76, 77, 78, 12, 79, 24, 80, 81, 82, 83, 84, 85, 86, 87, 31, 88, 89, 90, 91, 38, 41, 92, 93, 94, 95, 33, 34, 35, 96, 97, 98, 99, 13, 14, 100, 101, 102, 103, 104, 105, 106, 107, 40, 32, 108, 109, 110, 111, 17, 112, 113, 114, 115, 118, 119, 120, 121, 122, 123, 124, 125, 126, 127, 128, 129, 130, 131, 132, 133, 134, 135, 136, 137, 138, 139, 140] (by decide +kernel) (by decide +kernel)
set_option maxRecDepth 20000 in
theorem gX2_waitWith_X0_goOn : GoodIn wsX2_waitWith (wsV RX2 124 RX0 yX0_goOn wsX0_goOn) := goodIn_app (goodIn_of _ (by decide +kernel)) ggX2_waitWith_X0_goOn
theorem dX2_waitWith_0 : decode cX2_waitWith 0 = .ok (.aload_n 0, 1) := by decide +kernel
theorem dX2_waitWith_1 : decode cX2_waitWith 1 = .ok (.getfield 16, 3) := by decide +kernel
theorem dX2_waitWith_4 : decode cX2_waitWith 4 = .ok (.aload_n 0, 1) := by decide +kernel
theorem dX2_waitWith_5 : decode cX2_waitWith 5 = .ok (.getfield 10, 3) := by decide +kernel
theorem dX2_waitWith_8 : decode cX2_waitWith 8 = .ok (.invokevirtual 128, 3) := by decide +kernel
theorem dX2_waitWith_11 : decode cX2_waitWith 11 = .ok (.aload_n 0, 1) := by decide +kernel
theorem dX2_waitWith_12 : decode cX2_waitWith 12 = .ok (.getfield 16, 3) := by decide +kernel
theorem dX2_waitWith_15 : decode cX2_waitWith 15 = .ok (.iload_n 1, 1) := by decide +kernel
theorem dX2_waitWith_16 : decode cX2_waitWith 16 = .ok (.putfield 73, 3) := by decide +kernel
theorem dX2_waitWith_19 : decode cX2_waitWith 19 = .ok (.aload_n 0, 1) := by decide +kernel
theorem dX2_waitWith_20 : decode cX2_waitWith 20 = .ok (.getfield 16, 3) := by decide +kernel
theorem dX2_waitWith_23 : decode cX2_waitWith 23 = .ok (.iload_n 2, 1) := by decide +kernel
theorem dX2_waitWith_24 : decode cX2_waitWith 24 = .ok (.putfield 83, 3) := by decide +kernel
theorem dX2_waitWith_27 : decode cX2_waitWith 27 = .ok (.aload_n 0, 1) := by decide +kernel
theorem dX2_waitWith_28 : decode cX2_waitWith 28 = .ok (.getfield 16, 3) := by decide +kernel
theorem dX2_waitWith_31 : decode cX2_waitWith 31 = .ok (.iload_n 3, 1) := by decide +kernel
theorem dX2_waitWith_32 : decode cX2_waitWith 32 = .ok (.invokevirtual 124, 3) := by decide +kernel
theorem dX2_waitWith_35 : decode cX2_waitWith 35 = .ok (.aload_n 0, 1) := by decide +kernel
theorem dX2_waitWith_36 : decode cX2_waitWith 36 = .ok (.getfield 16, 3) := by decide +kernel
theorem dX2_waitWith_39 : decode cX2_waitWith 39 = .ok (.getfield 137, 3) := by decide +kernel
theorem dX2_waitWith_42 : decode cX2_waitWith 42 = .ok (.aload_n 0, 1) := by decide +kernel
theorem dX2_waitWith_43 : decode cX2_waitWith 43 = .ok (.getfield 10, 3) := by decide +kernel
theorem dX2_waitWith_46 : decode cX2_waitWith 46 = .ok (.getfield 137, 3) := by decide +kernel
theorem dX2_waitWith_49 : decode cX2_waitWith 49 = .ok (.isub, 1) := by decide +kernel
theorem dX2_waitWith_50 : decode cX2_waitWith 50 = .ok (.ireturn, 1) := by decide +kernel
theorem dX3_init_0 : decode cX3_init 0 = .ok (.aload_n 0, 1) := by decide +kernel
theorem dX3_init_1 : decode cX3_init 1 = .ok (.aload_n 1, 1) := by decide +kernel
theorem dX3_init_2 : decode cX3_init 2 = .ok (.putfield 3, 3) := by decide +kernel
theorem dX3_init_5 : decode cX3_init 5 = .ok (.aload_n 0, 1) := by decide +kernel
theorem dX3_init_6 : decode cX3_init 6 = .ok (.invokespecial 9, 3) := by decide +kernel
theorem dX3_init_9 : decode cX3_init 9 = .ok (.aload_n 0, 1) := by decide +kernel
theorem dX3_init_10 : decode cX3_init 10 = .ok (.bipush 15, 2) := by decide +kernel
theorem dX3_init_12 : decode cX3_init 12 = .ok (.putfield 15, 3) := by decide +kernel
theorem dX3_init_15 : decode cX3_init 15 = .ok (.aload_n 0, 1) := by decide +kernel
theorem dX3_init_16 : decode cX3_init 16 = .ok (.iconst (-1), 1) := by decide +kernel
theorem dX3_init_17 : decode cX3_init 17 = .ok (.putfield 19, 3) := by decide +kernel
theorem dX3_init_20 : decode cX3_init 20 = .ok (.aload_n 0, 1) := by decide +kernel
theorem dX3_init_21 : decode cX3_init 21 = .ok (.bipush 40, 2) := by decide +kernel
theorem dX3_init_23 : decode cX3_init 23 = .ok (.newarray .int, 2) := by decide +kernel
theorem dX3_init_25 : decode cX3_init 25 = .ok (.putfield 22, 3) := by decide +kernel
theorem dX3_init_28 : decode cX3_init 28 = .ok (.aload_n 0, 1) := by decide +kernel
theorem dX3_init_29 : decode cX3_init 29 = .ok (.bipush 40, 2) := by decide +kernel
theorem dX3_init_31 : decode cX3_init 31 = .ok (.newarray .int, 2) := by decide +kernel
theorem dX3_init_33 : decode cX3_init 33 = .ok (.putfield 26, 3) := by decide +kernel
theorem dX3_init_36 : decode cX3_init 36 = .ok (.aload_n 0, 1) := by decide +kernel
theorem dX3_init_37 : decode cX3_init 37 = .ok (.bipush 40, 2) := by decide +kernel
theorem dX3_init_39 : decode cX3_init 39 = .ok (.newarray .int, 2) := by decide +kernel
theorem dX3_init_41 : decode cX3_init 41 = .ok (.putfield 29, 3) := by decide +kernel
theorem dX3_init_44 : decode cX3_init 44 = .ok (.aload_n 0, 1) := by decide +kernel
theorem dX3_init_45 : decode cX3_init 45 = .ok (.bipush 40, 2) := by decide +kernel
theorem dX3_init_47 : decode cX3_init 47 = .ok (.newarray .int, 2) := by decide +kernel
theorem dX3_init_49 : decode cX3_init 49 = .ok (.putfield 32, 3) := by decide +kernel
theorem dX3_init_52 : decode cX3_init 52 = .ok (.return_, 1) := by decide +kernel
theorem dX3_copy_0 : decode cX3_copy 0 = .ok (.aload_n 1, 1) := by decide +kernel
theorem dX3_copy_1 : decode cX3_copy 1 = .ok (.iconst 0, 1) := by decide +kernel
theorem dX3_copy_2 : decode cX3_copy 2 = .ok (.aload_n 2, 1) := by decide +kernel
theorem dX3_copy_3 : decode cX3_copy 3 = .ok (.iconst 0, 1) := by decide +kernel
theorem dX3_copy_4 : decode cX3_copy 4 = .ok (.aload_n 1, 1) := by decide +kernel
theorem dX3_copy_5 : decode cX3_copy 5 = .ok (.arraylength, 1) := by decide +kernel
theorem dX3_copy_6 : decode cX3_copy 6 = .ok (.invokestatic 35, 3) := by decide +kernel
theorem dX3_copy_9 : decode cX3_copy 9 = .ok (.return_, 1) := by decide +kernel
set_option maxRecDepth 20000 in
theorem ggX3_become_X3_copy : GoodIn wsX3_become wsX3_copy := goodIn_r _ [16, 17, 18, 19, 20] (by decide +kernel) (by decide +kernel)
set_option maxRecDepth 20000 in
theorem gX3_become_X3_copy : GoodIn wsX3_become (wsV RX3 56 RX3 yX3_copy wsX3_copy) := goodIn_app (goodIn_of _ (by decide +kernel)) ggX3_become_X3_copy
theorem dX3_become_0 : decode cX3_become 0 = .ok (.aload_n 0, 1) := by decide +kernel
theorem dX3_become_1 : decode cX3_become 1 = .ok (.aload_n 1, 1) := by decide +kernel
theorem dX3_become_2 : decode cX3_become 2 = .ok (.getfield 41, 3) := by decide +kernel
theorem dX3_become_5 : decode cX3_become 5 = .ok (.putfield 41, 3) := by decide +kernel
theorem dX3_become_8 : decode cX3_become 8 = .ok (.aload_n 0, 1) := by decide +kernel
theorem dX3_become_9 : decode cX3_become 9 = .ok (.aload_n 1, 1) := by decide +kernel
theorem dX3_become_10 : decode cX3_become 10 = .ok (.getfield 44, 3) := by decide +kernel
theorem dX3_become_13 : decode cX3_become 13 = .ok (.putfield 44, 3) := by decide +kernel
theorem dX3_become_16 : decode cX3_become 16 = .ok (.aload_n 0, 1) := by decide +kernel
theorem dX3_become_17 : decode cX3_become 17 = .ok (.aload_n 1, 1) := by decide +kernel
theorem dX3_become_18 : decode cX3_become 18 = .ok (.getfield 15, 3) := by decide +kernel
theorem dX3_become_21 : decode cX3_become 21 = .ok (.putfield 15, 3) := by decide +kernel
theorem dX3_become_24 : decode cX3_become 24 = .ok (.aload_n 0, 1) := by decide +kernel
theorem dX3_become_25 : decode cX3_become 25 = .ok (.aload_n 1, 1) := by decide +kernel
theorem dX3_become_26 : decode cX3_become 26 = .ok (.getfield 47, 3) := by decide +kernel
theorem dX3_become_29 : decode cX3_become 29 = .ok (.putfield 47, 3) := by decide +kernel
theorem dX3_become_32 : decode cX3_become 32 = .ok (.aload_n 0, 1) := by decide +kernel
theorem dX3_become_33 : decode cX3_become 33 = .ok (.aload_n 1, 1) := by decide +kernel
theorem dX3_become_34 : decode cX3_become 34 = .ok (.getfield 50, 3) := by decide +kernel
theorem dX3_become_37 : decode cX3_become 37 = .ok (.putfield 50, 3) := by decide +kernel
theorem dX3_become_40 : decode cX3_become 40 = .ok (.aload_n 0, 1) := by decide +kernel
theorem dX3_become_41 : decode cX3_become 41 = .ok (.aload_n 1, 1) := by decide +kernel
theorem dX3_become_42 : decode cX3_become 42 = .ok (.getfield 19, 3) := by decide +kernel
theorem dX3_become_45 : decode cX3_become 45 = .ok (.putfield 19, 3) := by decide +kernel
theorem dX3_become_48 : decode cX3_become 48 = .ok (.aload_n 0, 1) := by decide +kernel
theorem dX3_become_49 : decode cX3_become 49 = .ok (.aload_n 1, 1) := by decide +kernel
theorem dX3_become_50 : decode cX3_become 50 = .ok (.getfield 53, 3) := by decide +kernel
theorem dX3_become_53 : decode cX3_become 53 = .ok (.putfield 53, 3) := by decide +kernel
theorem dX3_become_56 : decode cX3_become 56 = .ok (.aload_n 0, 1) := by decide +kernel
theorem dX3_become_57 : decode cX3_become 57 = .ok (.aload_n 1, 1) := by decide +kernel
theorem dX3_become_58 : decode cX3_become 58 = .ok (.getfield 22, 3) := by decide +kernel
theorem dX3_become_61 : decode cX3_become 61 = .ok (.aload_n 0, 1) := by decide +kernel
theorem dX3_become_62 : decode cX3_become 62 = .ok (.getfield 22, 3) := by decide +kernel
theorem dX3_become_65 : decode cX3_become 65 = .ok (.invokevirtual 56, 3) := by decide +kernel
theorem dX3_become_68 : decode cX3_become 68 = .ok (.aload_n 0, 1) := by decide +kernel
theorem dX3_become_69 : decode cX3_become 69 = .ok (.aload_n 1, 1) := by decide +kernel
theorem dX3_become_70 : decode cX3_become 70 = .ok (.getfield 26, 3) := by decide +kernel
theorem dX3_become_73 : decode cX3_become 73 = .ok (.aload_n 0, 1) := by decide +kernel
theorem dX3_become_74 : decode cX3_become 74 = .ok (.getfield 26, 3) := by decide +kernel
theorem dX3_become_77 : decode cX3_become 77 = .ok (.invokevirtual 56, 3) := by decide +kernel
theorem dX3_become_80 : decode cX3_become 80 = .ok (.aload_n 0, 1) := by decide +kernel
theorem dX3_become_81 : decode cX3_become 81 = .ok (.aload_n 1, 1) := by decide +kernel
theorem dX3_become_82 : decode cX3_become 82 = .ok (.getfield 29, 3) := by decide +kernel
theorem dX3_become_85 : decode cX3_become 85 = .ok (.aload_n 0, 1) := by decide +kernel
theorem dX3_become_86 : decode cX3_become 86 = .ok (.getfield 29, 3) := by decide +kernel
theorem dX3_become_89 : decode cX3_become 89 = .ok (.invokevirtual 56, 3) := by decide +kernel
theorem dX3_become_92 : decode cX3_become 92 = .ok (.aload_n 0, 1) := by decide +kernel
theorem dX3_become_93 : decode cX3_become 93 = .ok (.aload_n 1, 1) := by decide +kernel
theorem dX3_become_94 : decode cX3_become 94 = .ok (.getfield 32, 3) := by decide +kernel
theorem dX3_become_97 : decode cX3_become 97 = .ok (.aload_n 0, 1) := by decide +kernel
theorem dX3_become_98 : decode cX3_become 98 = .ok (.getfield 32, 3) := by decide +kernel
theorem dX3_become_101 : decode cX3_become 101 = .ok (.invokevirtual 56, 3) := by decide +kernel
theorem dX3_become_104 : decode cX3_become 104 = .ok (.return_, 1) := by decide +kernel
theorem dX3_speed_0 : decode cX3_speed 0 = .ok (.iload_n 1, 1) := by decide +kernel
theorem dX3_speed_1 : decode cX3_speed 1 = .ok (.ifCond .eq 15, 3) := by decide +kernel
theorem dX3_speed_4 : decode cX3_speed 4 = .ok (.iconst 1, 1) := by decide +kernel
theorem dX3_speed_5 : decode cX3_speed 5 = .ok (.aload_n 0, 1) := by decide +kernel
theorem dX3_speed_6 : decode cX3_speed 6 = .ok (.getfield 15, 3) := by decide +kernel
theorem dX3_speed_9 : decode cX3_speed 9 = .ok (.bipush 6, 2) := by decide +kernel
theorem dX3_speed_11 : decode cX3_speed 11 = .ok (.idiv, 1) := by decide +kernel
theorem dX3_speed_12 : decode cX3_speed 12 = .ok (.iadd, 1) := by decide +kernel
theorem dX3_speed_13 : decode cX3_speed 13 = .ok (.goto 13, 3) := by decide +kernel
theorem dX3_speed_16 : decode cX3_speed 16 = .ok (.bipush 6, 2) := by decide +kernel
theorem dX3_speed_18 : decode cX3_speed 18 = .ok (.aload_n 0, 1) := by decide +kernel
theorem dX3_speed_19 : decode cX3_speed 19 = .ok (.getfield 15, 3) := by decide +kernel
theorem dX3_speed_22 : decode cX3_speed 22 = .ok (.bipush 6, 2) := by decide +kernel
theorem dX3_speed_24 : decode cX3_speed 24 = .ok (.idiv, 1) := by decide +kernel
theorem dX3_speed_25 : decode cX3_speed 25 = .ok (.isub, 1) := by decide +kernel
theorem dX3_speed_26 : decode cX3_speed 26 = .ok (.istore_n 2, 1) := by decide +kernel
theorem dX3_speed_27 : decode cX3_speed 27 = .ok (.aload_n 0, 1) := by decide +kernel
theorem dX3_speed_28 : decode cX3_speed 28 = .ok (.getfield 47, 3) := by decide +kernel
theorem dX3_speed_31 : decode cX3_speed 31 = .ok (.iconst 5, 1) := by decide +kernel
theorem dX3_speed_32 : decode cX3_speed 32 = .ok (.if_icmp .ge 7, 3) := by decide +kernel
theorem dX3_speed_35 : decode cX3_speed 35 = .ok (.iload_n 2, 1) := by decide +kernel
theorem dX3_speed_36 : decode cX3_speed 36 = .ok (.goto 10, 3) := by decide +kernel
theorem dX3_speed_39 : decode cX3_speed 39 = .ok (.iconst 1, 1) := by decide +kernel
theorem dX3_speed_40 : decode cX3_speed 40 = .ok (.iload_n 2, 1) := by decide +kernel
theorem dX3_speed_41 : decode cX3_speed 41 = .ok (.iconst 2, 1) := by decide +kernel
theorem dX3_speed_42 : decode cX3_speed 42 = .ok (.idiv, 1) := by decide +kernel
theorem dX3_speed_43 : decode cX3_speed 43 = .ok (.invokestatic 60, 3) := by decide +kernel
theorem dX3_speed_46 : decode cX3_speed 46 = .ok (.ireturn, 1) := by decide +kernel
theorem dX3_first_0 : decode cX3_first 0 = .ok (.iconst 0, 1) := by decide +kernel
theorem dX3_first_1 : decode cX3_first 1 = .ok (.istore_n 2, 1) := by decide +kernel
theorem dX3_first_2 : decode cX3_first 2 = .ok (.iload_n 2, 1) := by decide +kernel
theorem dX3_first_3 : decode cX3_first 3 = .ok (.aload_n 0, 1) := by decide +kernel
theorem dX3_first_4 : decode cX3_first 4 = .ok (.getfield 3, 3) := by decide +kernel
theorem dX3_first_7 : decode cX3_first 7 = .ok (.getfield 66, 3) := by decide +kernel
theorem dX3_first_10 : decode cX3_first 10 = .ok (.if_icmp .ge 38, 3) := by decide +kernel
theorem dX3_first_13 : decode cX3_first 13 = .ok (.aload_n 0, 1) := by decide +kernel
theorem dX3_first_14 : decode cX3_first 14 = .ok (.getfield 22, 3) := by decide +kernel
theorem dX3_first_17 : decode cX3_first 17 = .ok (.iload_n 2, 1) := by decide +kernel
theorem dX3_first_18 : decode cX3_first 18 = .ok (.iaload, 1) := by decide +kernel
theorem dX3_first_19 : decode cX3_first 19 = .ok (.ifCond .ne 23, 3) := by decide +kernel
theorem dX3_first_22 : decode cX3_first 22 = .ok (.iload_n 1, 1) := by decide +kernel
theorem dX3_first_23 : decode cX3_first 23 = .ok (.iconst 2, 1) := by decide +kernel
theorem dX3_first_24 : decode cX3_first 24 = .ok (.if_icmp .eq 16, 3) := by decide +kernel
theorem dX3_first_27 : decode cX3_first 27 = .ok (.aload_n 0, 1) := by decide +kernel
theorem dX3_first_28 : decode cX3_first 28 = .ok (.getfield 3, 3) := by decide +kernel
theorem dX3_first_31 : decode cX3_first 31 = .ok (.getfield 69, 3) := by decide +kernel
theorem dX3_first_34 : decode cX3_first 34 = .ok (.iload_n 2, 1) := by decide +kernel
theorem dX3_first_35 : decode cX3_first 35 = .ok (.iaload, 1) := by decide +kernel
theorem dX3_first_36 : decode cX3_first 36 = .ok (.iload_n 1, 1) := by decide +kernel
theorem dX3_first_37 : decode cX3_first 37 = .ok (.if_icmp .ne 5, 3) := by decide +kernel
theorem dX3_first_40 : decode cX3_first 40 = .ok (.iload_n 2, 1) := by decide +kernel
theorem dX3_first_41 : decode cX3_first 41 = .ok (.ireturn, 1) := by decide +kernel
theorem dX3_first_42 : decode cX3_first 42 = .ok (.iinc 2 1, 3) := by decide +kernel
theorem dX3_first_45 : decode cX3_first 45 = .ok (.goto (-43), 3) := by decide +kernel
theorem dX3_first_48 : decode cX3_first 48 = .ok (.iconst (-1), 1) := by decide +kernel
theorem dX3_first_49 : decode cX3_first 49 = .ok (.ireturn, 1) := by decide +kernel
set_option maxRecDepth 20000 in
theorem ggX3_next_X3_first : GoodIn wsX3_next wsX3_first := goodIn_r _ [8, 9, 10, 11, 12, 13, 14, 15, 16, 17, 18, 19, 20, 21, 22, 23, 24, 25, 26, 27, 28, 29, 30] (by decide +kernel) (by decide +kernel)
set_option maxRecDepth 20000 in
theorem gX3_next_X3_first : GoodIn wsX3_next (wsV RX3 72 RX3 yX3_first wsX3_first) := goodIn_app (goodIn_of _ (by decide +kernel)) ggX3_next_X3_first
theorem dX3_next_0 : decode cX3_next 0 = .ok (.aload_n 0, 1) := by decide +kernel
theorem dX3_next_1 : decode cX3_next 1 = .ok (.getfield 19, 3) := by decide +kernel
theorem dX3_next_4 : decode cX3_next 4 = .ok (.iconst (-1), 1) := by decide +kernel
theorem dX3_next_5 : decode cX3_next 5 = .ok (.if_icmp .ne 11, 3) := by decide +kernel
theorem dX3_next_8 : decode cX3_next 8 = .ok (.aload_n 0, 1) := by decide +kernel
theorem dX3_next_9 : decode cX3_next 9 = .ok (.getfield 50, 3) := by decide +kernel
theorem dX3_next_12 : decode cX3_next 12 = .ok (.iconst 4, 1) := by decide +kernel
theorem dX3_next_13 : decode cX3_next 13 = .ok (.if_icmp .ne 5, 3) := by decide +kernel
theorem dX3_next_16 : decode cX3_next 16 = .ok (.iconst (-1), 1) := by decide +kernel
theorem dX3_next_17 : decode cX3_next 17 = .ok (.ireturn, 1) := by decide +kernel
theorem dX3_next_18 : decode cX3_next 18 = .ok (.aload_n 0, 1) := by decide +kernel
theorem dX3_next_19 : decode cX3_next 19 = .ok (.getfield 50, 3) := by decide +kernel
theorem dX3_next_22 : decode cX3_next 22 = .ok (.ifCond .ne 9, 3) := by decide +kernel
theorem dX3_next_25 : decode cX3_next 25 = .ok (.aload_n 0, 1) := by decide +kernel
theorem dX3_next_26 : decode cX3_next 26 = .ok (.iconst 2, 1) := by decide +kernel
theorem dX3_next_27 : decode cX3_next 27 = .ok (.invokevirtual 72, 3) := by decide +kernel
theorem dX3_next_30 : decode cX3_next 30 = .ok (.ireturn, 1) := by decide +kernel
theorem dX3_next_31 : decode cX3_next 31 = .ok (.aload_n 0, 1) := by decide +kernel
theorem dX3_next_32 : decode cX3_next 32 = .ok (.getfield 50, 3) := by decide +kernel
theorem dX3_next_35 : decode cX3_next 35 = .ok (.iconst 1, 1) := by decide +kernel
theorem dX3_next_36 : decode cX3_next 36 = .ok (.if_icmp .eq 18, 3) := by decide +kernel
theorem dX3_next_39 : decode cX3_next 39 = .ok (.aload_n 0, 1) := by decide +kernel
theorem dX3_next_40 : decode cX3_next 40 = .ok (.getfield 50, 3) := by decide +kernel
theorem dX3_next_43 : decode cX3_next 43 = .ok (.iconst 3, 1) := by decide +kernel
theorem dX3_next_44 : decode cX3_next 44 = .ok (.if_icmp .ne 14, 3) := by decide +kernel
theorem dX3_next_47 : decode cX3_next 47 = .ok (.aload_n 0, 1) := by decide +kernel
theorem dX3_next_48 : decode cX3_next 48 = .ok (.getfield 53, 3) := by decide +kernel
theorem dX3_next_51 : decode cX3_next 51 = .ok (.ifCond .ne 7, 3) := by decide +kernel
theorem dX3_next_54 : decode cX3_next 54 = .ok (.iconst 1, 1) := by decide +kernel
theorem dX3_next_55 : decode cX3_next 55 = .ok (.goto 4, 3) := by decide +kernel
theorem dX3_next_58 : decode cX3_next 58 = .ok (.iconst 0, 1) := by decide +kernel
theorem dX3_next_59 : decode cX3_next 59 = .ok (.istore_n 1, 1) := by decide +kernel
theorem dX3_next_60 : decode cX3_next 60 = .ok (.aload_n 0, 1) := by decide +kernel
theorem dX3_next_61 : decode cX3_next 61 = .ok (.iload_n 1, 1) := by decide +kernel
theorem dX3_next_62 : decode cX3_next 62 = .ok (.invokevirtual 72, 3) := by decide +kernel
theorem dX3_next_65 : decode cX3_next 65 = .ok (.iconst (-1), 1) := by decide +kernel
theorem dX3_next_66 : decode cX3_next 66 = .ok (.if_icmp .ne 13, 3) := by decide +kernel
theorem dX3_next_69 : decode cX3_next 69 = .ok (.aload_n 0, 1) := by decide +kernel
theorem dX3_next_70 : decode cX3_next 70 = .ok (.iconst 1, 1) := by decide +kernel
theorem dX3_next_71 : decode cX3_next 71 = .ok (.iload_n 1, 1) := by decide +kernel
theorem dX3_next_72 : decode cX3_next 72 = .ok (.isub, 1) := by decide +kernel
theorem dX3_next_73 : decode cX3_next 73 = .ok (.invokevirtual 72, 3) := by decide +kernel
theorem dX3_next_76 : decode cX3_next 76 = .ok (.goto 8, 3) := by decide +kernel
theorem dX3_next_79 : decode cX3_next 79 = .ok (.aload_n 0, 1) := by decide +kernel
theorem dX3_next_80 : decode cX3_next 80 = .ok (.iload_n 1, 1) := by decide +kernel
theorem dX3_next_81 : decode cX3_next 81 = .ok (.invokevirtual 72, 3) := by decide +kernel
theorem dX3_next_84 : decode cX3_next 84 = .ok (.ireturn, 1) := by decide +kernel
set_option maxRecDepth 20000 in
theorem ggX3_serve_X3_speed : GoodIn wsX3_serve wsX3_speed := goodIn_r _ [18, 19, 20, 11, 12, 9, 13, 21, 22, 23, 24, 25, 26, 27, 28, 29, 30, 31, 32] (by decide +kernel) (by decide +kernel)
set_option maxRecDepth 20000 in
theorem gX3_serve_X3_speed : GoodIn wsX3_serve (wsV RX3 79 RX3 yX3_speed wsX3_speed) := goodIn_app (goodIn_of _ (by decide +kernel)) ggX3_serve_X3_speed
theorem dX3_serve_0 : decode cX3_serve 0 = .ok (.bipush 60, 2) := by decide +kernel
theorem dX3_serve_2 : decode cX3_serve 2 = .ok (.aload_n 0, 1) := by decide +kernel
theorem dX3_serve_3 : decode cX3_serve 3 = .ok (.getfield 3, 3) := by decide +kernel
theorem dX3_serve_6 : decode cX3_serve 6 = .ok (.getfield 69, 3) := by decide +kernel
theorem dX3_serve_9 : decode cX3_serve 9 = .ok (.iload_n 1, 1) := by decide +kernel
theorem dX3_serve_10 : decode cX3_serve 10 = .ok (.iaload, 1) := by decide +kernel
theorem dX3_serve_11 : decode cX3_serve 11 = .ok (.imul, 1) := by decide +kernel
theorem dX3_serve_12 : decode cX3_serve 12 = .ok (.istore_n 2, 1) := by decide +kernel
theorem dX3_serve_13 : decode cX3_serve 13 = .ok (.aload_n 0, 1) := by decide +kernel
theorem dX3_serve_14 : decode cX3_serve 14 = .ok (.getfield 44, 3) := by decide +kernel
theorem dX3_serve_17 : decode cX3_serve 17 = .ok (.iload_n 2, 1) := by decide +kernel
theorem dX3_serve_18 : decode cX3_serve 18 = .ok (.if_icmp .ne 44, 3) := by decide +kernel
theorem dX3_serve_21 : decode cX3_serve 21 = .ok (.aload_n 0, 1) := by decide +kernel
theorem dX3_serve_22 : decode cX3_serve 22 = .ok (.iload_n 1, 1) := by decide +kernel
theorem dX3_serve_23 : decode cX3_serve 23 = .ok (.putfield 19, 3) := by decide +kernel
theorem dX3_serve_26 : decode cX3_serve 26 = .ok (.aload_n 0, 1) := by decide +kernel
theorem dX3_serve_27 : decode cX3_serve 27 = .ok (.getfield 22, 3) := by decide +kernel
theorem dX3_serve_30 : decode cX3_serve 30 = .ok (.iload_n 1, 1) := by decide +kernel
theorem dX3_serve_31 : decode cX3_serve 31 = .ok (.iconst 1, 1) := by decide +kernel
theorem dX3_serve_32 : decode cX3_serve 32 = .ok (.iastore, 1) := by decide +kernel
theorem dX3_serve_33 : decode cX3_serve 33 = .ok (.aload_n 0, 1) := by decide +kernel
theorem dX3_serve_34 : decode cX3_serve 34 = .ok (.getfield 29, 3) := by decide +kernel
theorem dX3_serve_37 : decode cX3_serve 37 = .ok (.iload_n 1, 1) := by decide +kernel
theorem dX3_serve_38 : decode cX3_serve 38 = .ok (.aload_n 0, 1) := by decide +kernel
theorem dX3_serve_39 : decode cX3_serve 39 = .ok (.getfield 3, 3) := by decide +kernel
theorem dX3_serve_42 : decode cX3_serve 42 = .ok (.getfield 76, 3) := by decide +kernel
theorem dX3_serve_45 : decode cX3_serve 45 = .ok (.iload_n 1, 1) := by decide +kernel
theorem dX3_serve_46 : decode cX3_serve 46 = .ok (.iaload, 1) := by decide +kernel
theorem dX3_serve_47 : decode cX3_serve 47 = .ok (.iastore, 1) := by decide +kernel
theorem dX3_serve_48 : decode cX3_serve 48 = .ok (.aload_n 0, 1) := by decide +kernel
theorem dX3_serve_49 : decode cX3_serve 49 = .ok (.aload_n 0, 1) := by decide +kernel
theorem dX3_serve_50 : decode cX3_serve 50 = .ok (.getfield 3, 3) := by decide +kernel
theorem dX3_serve_53 : decode cX3_serve 53 = .ok (.getfield 69, 3) := by decide +kernel
theorem dX3_serve_56 : decode cX3_serve 56 = .ok (.iload_n 1, 1) := by decide +kernel
theorem dX3_serve_57 : decode cX3_serve 57 = .ok (.iaload, 1) := by decide +kernel
theorem dX3_serve_58 : decode cX3_serve 58 = .ok (.putfield 53, 3) := by decide +kernel
theorem dX3_serve_61 : decode cX3_serve 61 = .ok (.return_, 1) := by decide +kernel
theorem dX3_serve_62 : decode cX3_serve 62 = .ok (.aload_n 0, 1) := by decide +kernel
theorem dX3_serve_63 : decode cX3_serve 63 = .ok (.iload_n 2, 1) := by decide +kernel
theorem dX3_serve_64 : decode cX3_serve 64 = .ok (.aload_n 0, 1) := by decide +kernel
theorem dX3_serve_65 : decode cX3_serve 65 = .ok (.getfield 44, 3) := by decide +kernel
theorem dX3_serve_68 : decode cX3_serve 68 = .ok (.if_icmp .le 21, 3) := by decide +kernel
theorem dX3_serve_71 : decode cX3_serve 71 = .ok (.bipush 60, 2) := by decide +kernel
theorem dX3_serve_73 : decode cX3_serve 73 = .ok (.aload_n 0, 1) := by decide +kernel
theorem dX3_serve_74 : decode cX3_serve 74 = .ok (.getfield 44, 3) := by decide +kernel
theorem dX3_serve_77 : decode cX3_serve 77 = .ok (.aload_n 0, 1) := by decide +kernel
theorem dX3_serve_78 : decode cX3_serve 78 = .ok (.iconst 1, 1) := by decide +kernel
theorem dX3_serve_79 : decode cX3_serve 79 = .ok (.invokevirtual 79, 3) := by decide +kernel
theorem dX3_serve_82 : decode cX3_serve 82 = .ok (.iadd, 1) := by decide +kernel
theorem dX3_serve_83 : decode cX3_serve 83 = .ok (.invokestatic 83, 3) := by decide +kernel
theorem dX3_serve_86 : decode cX3_serve 86 = .ok (.goto 17, 3) := by decide +kernel
theorem dX3_serve_89 : decode cX3_serve 89 = .ok (.iconst 0, 1) := by decide +kernel
theorem dX3_serve_90 : decode cX3_serve 90 = .ok (.aload_n 0, 1) := by decide +kernel
theorem dX3_serve_91 : decode cX3_serve 91 = .ok (.getfield 44, 3) := by decide +kernel
theorem dX3_serve_94 : decode cX3_serve 94 = .ok (.aload_n 0, 1) := by decide +kernel
theorem dX3_serve_95 : decode cX3_serve 95 = .ok (.iconst 0, 1) := by decide +kernel
theorem dX3_serve_96 : decode cX3_serve 96 = .ok (.invokevirtual 79, 3) := by decide +kernel
theorem dX3_serve_99 : decode cX3_serve 99 = .ok (.isub, 1) := by decide +kernel
theorem dX3_serve_100 : decode cX3_serve 100 = .ok (.invokestatic 60, 3) := by decide +kernel
theorem dX3_serve_103 : decode cX3_serve 103 = .ok (.putfield 44, 3) := by decide +kernel
theorem dX3_serve_106 : decode cX3_serve 106 = .ok (.return_, 1) := by decide +kernel
set_option maxRecDepth 20000 in
theorem ggX3_pass_X3_next : GoodIn wsX3_pass wsX3_next := goodIn_r _ [20, 1, 21, 22, 23, 24, 25, 19, 26, 6, 3, 37, 38, 39, 40, 41, 42, 43, 44, 45, 46, 47, 48, 49, 50, 51, 52, 53, 54, 55, 56] (by decide +kernel) (by decide +kernel)
set_option maxRecDepth 20000 in
theorem gX3_pass_X3_next : GoodIn wsX3_pass (wsV RX3 86 RX3 yX3_next wsX3_next) := goodIn_app (goodIn_of _ (by decide +kernel)) ggX3_pass_X3_next
set_option maxRecDepth 20000 in
theorem ggX3_pass_X3_serve : GoodIn wsX3_pass wsX3_serve := goodIn_r _ [30, 6, 31, 1, 3, 2, 22, 9, 10, 11, 12, 13, 14, 15, 32, 33, 34, 19, 35, 36, 8, 37, 38, 39, 40, 41, 42, 43, 44, 45, 46, 47, 48, 49, 50, 51, 52, 53, 54, 55, 56] (by decide +kernel) (by decide +kernel)
set_option maxRecDepth 20000 in
theorem gX3_pass_X3_serve : GoodIn wsX3_pass (wsV RX3 90 RX3 yX3_serve wsX3_serve) := goodIn_app (goodIn_of _ (by decide +kernel)) ggX3_pass_X3_serve
theorem dX3_pass_0 : decode cX3_pass 0 = .ok (.aload_n 0, 1) := by decide +kernel
theorem dX3_pass_1 : decode cX3_pass 1 = .ok (.invokevirtual 86, 3) := by decide +kernel
theorem dX3_pass_4 : decode cX3_pass 4 = .ok (.istore_n 1, 1) := by decide +kernel
theorem dX3_pass_5 : decode cX3_pass 5 = .ok (.iload_n 1, 1) := by decide +kernel
theorem dX3_pass_6 : decode cX3_pass 6 = .ok (.iconst (-1), 1) := by decide +kernel
theorem dX3_pass_7 : decode cX3_pass 7 = .ok (.if_icmp .eq 8, 3) := by decide +kernel
theorem dX3_pass_10 : decode cX3_pass 10 = .ok (.aload_n 0, 1) := by decide +kernel
theorem dX3_pass_11 : decode cX3_pass 11 = .ok (.iload_n 1, 1) := by decide +kernel
theorem dX3_pass_12 : decode cX3_pass 12 = .ok (.invokevirtual 90, 3) := by decide +kernel
theorem dX3_pass_15 : decode cX3_pass 15 = .ok (.aload_n 0, 1) := by decide +kernel
theorem dX3_pass_16 : decode cX3_pass 16 = .ok (.getfield 19, 3) := by decide +kernel
theorem dX3_pass_19 : decode cX3_pass 19 = .ok (.iconst (-1), 1) := by decide +kernel
theorem dX3_pass_20 : decode cX3_pass 20 = .ok (.if_icmp .eq 56, 3) := by decide +kernel
theorem dX3_pass_23 : decode cX3_pass 23 = .ok (.aload_n 0, 1) := by decide +kernel
theorem dX3_pass_24 : decode cX3_pass 24 = .ok (.getfield 29, 3) := by decide +kernel
theorem dX3_pass_27 : decode cX3_pass 27 = .ok (.aload_n 0, 1) := by decide +kernel
theorem dX3_pass_28 : decode cX3_pass 28 = .ok (.getfield 19, 3) := by decide +kernel
theorem dX3_pass_31 : decode cX3_pass 31 = .ok (.dup2, 1) := by decide +kernel
theorem dX3_pass_32 : decode cX3_pass 32 = .ok (.iaload, 1) := by decide +kernel
theorem dX3_pass_33 : decode cX3_pass 33 = .ok (.iconst 1, 1) := by decide +kernel
theorem dX3_pass_34 : decode cX3_pass 34 = .ok (.isub, 1) := by decide +kernel
theorem dX3_pass_35 : decode cX3_pass 35 = .ok (.iastore, 1) := by decide +kernel
theorem dX3_pass_36 : decode cX3_pass 36 = .ok (.aload_n 0, 1) := by decide +kernel
theorem dX3_pass_37 : decode cX3_pass 37 = .ok (.getfield 29, 3) := by decide +kernel
theorem dX3_pass_40 : decode cX3_pass 40 = .ok (.aload_n 0, 1) := by decide +kernel
theorem dX3_pass_41 : decode cX3_pass 41 = .ok (.getfield 19, 3) := by decide +kernel
theorem dX3_pass_44 : decode cX3_pass 44 = .ok (.iaload, 1) := by decide +kernel
theorem dX3_pass_45 : decode cX3_pass 45 = .ok (.ifCond .ne 31, 3) := by decide +kernel
theorem dX3_pass_48 : decode cX3_pass 48 = .ok (.aload_n 0, 1) := by decide +kernel
theorem dX3_pass_49 : decode cX3_pass 49 = .ok (.getfield 22, 3) := by decide +kernel
theorem dX3_pass_52 : decode cX3_pass 52 = .ok (.aload_n 0, 1) := by decide +kernel
theorem dX3_pass_53 : decode cX3_pass 53 = .ok (.getfield 19, 3) := by decide +kernel
theorem dX3_pass_56 : decode cX3_pass 56 = .ok (.iconst 2, 1) := by decide +kernel
theorem dX3_pass_57 : decode cX3_pass 57 = .ok (.iastore, 1) := by decide +kernel
theorem dX3_pass_58 : decode cX3_pass 58 = .ok (.aload_n 0, 1) := by decide +kernel
theorem dX3_pass_59 : decode cX3_pass 59 = .ok (.getfield 32, 3) := by decide +kernel
theorem dX3_pass_62 : decode cX3_pass 62 = .ok (.aload_n 0, 1) := by decide +kernel
theorem dX3_pass_63 : decode cX3_pass 63 = .ok (.getfield 19, 3) := by decide +kernel
theorem dX3_pass_66 : decode cX3_pass 66 = .ok (.aload_n 0, 1) := by decide +kernel
theorem dX3_pass_67 : decode cX3_pass 67 = .ok (.getfield 41, 3) := by decide +kernel
theorem dX3_pass_70 : decode cX3_pass 70 = .ok (.iastore, 1) := by decide +kernel
theorem dX3_pass_71 : decode cX3_pass 71 = .ok (.aload_n 0, 1) := by decide +kernel
theorem dX3_pass_72 : decode cX3_pass 72 = .ok (.iconst (-1), 1) := by decide +kernel
theorem dX3_pass_73 : decode cX3_pass 73 = .ok (.putfield 19, 3) := by decide +kernel
theorem dX3_pass_76 : decode cX3_pass 76 = .ok (.iconst 0, 1) := by decide +kernel
theorem dX3_pass_77 : decode cX3_pass 77 = .ok (.istore_n 2, 1) := by decide +kernel
theorem dX3_pass_78 : decode cX3_pass 78 = .ok (.iload_n 2, 1) := by decide +kernel
theorem dX3_pass_79 : decode cX3_pass 79 = .ok (.aload_n 0, 1) := by decide +kernel
theorem dX3_pass_80 : decode cX3_pass 80 = .ok (.getfield 3, 3) := by decide +kernel
theorem dX3_pass_83 : decode cX3_pass 83 = .ok (.getfield 66, 3) := by decide +kernel
theorem dX3_pass_86 : decode cX3_pass 86 = .ok (.if_icmp .ge 32, 3) := by decide +kernel
theorem dX3_pass_89 : decode cX3_pass 89 = .ok (.aload_n 0, 1) := by decide +kernel
theorem dX3_pass_90 : decode cX3_pass 90 = .ok (.getfield 26, 3) := by decide +kernel
theorem dX3_pass_93 : decode cX3_pass 93 = .ok (.iload_n 2, 1) := by decide +kernel
theorem dX3_pass_94 : decode cX3_pass 94 = .ok (.dup2, 1) := by decide +kernel
theorem dX3_pass_95 : decode cX3_pass 95 = .ok (.iaload, 1) := by decide +kernel
theorem dX3_pass_96 : decode cX3_pass 96 = .ok (.aload_n 0, 1) := by decide +kernel
theorem dX3_pass_97 : decode cX3_pass 97 = .ok (.getfield 22, 3) := by decide +kernel
theorem dX3_pass_100 : decode cX3_pass 100 = .ok (.iload_n 2, 1) := by decide +kernel
theorem dX3_pass_101 : decode cX3_pass 101 = .ok (.iaload, 1) := by decide +kernel
theorem dX3_pass_102 : decode cX3_pass 102 = .ok (.ifCond .ne 7, 3) := by decide +kernel
theorem dX3_pass_105 : decode cX3_pass 105 = .ok (.iconst 1, 1) := by decide +kernel
theorem dX3_pass_106 : decode cX3_pass 106 = .ok (.goto 4, 3) := by decide +kernel
theorem dX3_pass_109 : decode cX3_pass 109 = .ok (.iconst 0, 1) := by decide +kernel
theorem dX3_pass_110 : decode cX3_pass 110 = .ok (.iadd, 1) := by decide +kernel
theorem dX3_pass_111 : decode cX3_pass 111 = .ok (.iastore, 1) := by decide +kernel
theorem dX3_pass_112 : decode cX3_pass 112 = .ok (.iinc 2 1, 3) := by decide +kernel
theorem dX3_pass_115 : decode cX3_pass 115 = .ok (.goto (-37), 3) := by decide +kernel
theorem dX3_pass_118 : decode cX3_pass 118 = .ok (.aload_n 0, 1) := by decide +kernel
theorem dX3_pass_119 : decode cX3_pass 119 = .ok (.getfield 41, 3) := by decide +kernel
theorem dX3_pass_122 : decode cX3_pass 122 = .ok (.bipush 60, 2) := by decide +kernel
theorem dX3_pass_124 : decode cX3_pass 124 = .ok (.irem, 1) := by decide +kernel
theorem dX3_pass_125 : decode cX3_pass 125 = .ok (.ifCond .ne 39, 3) := by decide +kernel
theorem dX3_pass_128 : decode cX3_pass 128 = .ok (.aload_n 0, 1) := by decide +kernel
theorem dX3_pass_129 : decode cX3_pass 129 = .ok (.iconst 0, 1) := by decide +kernel
theorem dX3_pass_130 : decode cX3_pass 130 = .ok (.bipush 9, 2) := by decide +kernel
theorem dX3_pass_132 : decode cX3_pass 132 = .ok (.aload_n 0, 1) := by decide +kernel
theorem dX3_pass_133 : decode cX3_pass 133 = .ok (.getfield 47, 3) := by decide +kernel
theorem dX3_pass_136 : decode cX3_pass 136 = .ok (.aload_n 0, 1) := by decide +kernel
theorem dX3_pass_137 : decode cX3_pass 137 = .ok (.getfield 3, 3) := by decide +kernel
theorem dX3_pass_140 : decode cX3_pass 140 = .ok (.getfield 94, 3) := by decide +kernel
theorem dX3_pass_143 : decode cX3_pass 143 = .ok (.aload_n 0, 1) := by decide +kernel
theorem dX3_pass_144 : decode cX3_pass 144 = .ok (.getfield 41, 3) := by decide +kernel
theorem dX3_pass_147 : decode cX3_pass 147 = .ok (.bipush 60, 2) := by decide +kernel
theorem dX3_pass_149 : decode cX3_pass 149 = .ok (.idiv, 1) := by decide +kernel
theorem dX3_pass_150 : decode cX3_pass 150 = .ok (.bipush 8, 2) := by decide +kernel
theorem dX3_pass_152 : decode cX3_pass 152 = .ok (.irem, 1) := by decide +kernel
theorem dX3_pass_153 : decode cX3_pass 153 = .ok (.iaload, 1) := by decide +kernel
theorem dX3_pass_154 : decode cX3_pass 154 = .ok (.iadd, 1) := by decide +kernel
theorem dX3_pass_155 : decode cX3_pass 155 = .ok (.invokestatic 83, 3) := by decide +kernel
theorem dX3_pass_158 : decode cX3_pass 158 = .ok (.invokestatic 60, 3) := by decide +kernel
theorem dX3_pass_161 : decode cX3_pass 161 = .ok (.putfield 47, 3) := by decide +kernel
theorem dX3_pass_164 : decode cX3_pass 164 = .ok (.aload_n 0, 1) := by decide +kernel
theorem dX3_pass_165 : decode cX3_pass 165 = .ok (.dup, 1) := by decide +kernel
theorem dX3_pass_166 : decode cX3_pass 166 = .ok (.getfield 41, 3) := by decide +kernel
theorem dX3_pass_169 : decode cX3_pass 169 = .ok (.iconst 1, 1) := by decide +kernel
theorem dX3_pass_170 : decode cX3_pass 170 = .ok (.iadd, 1) := by decide +kernel
theorem dX3_pass_171 : decode cX3_pass 171 = .ok (.putfield 41, 3) := by decide +kernel
theorem dX3_pass_174 : decode cX3_pass 174 = .ok (.return_, 1) := by decide +kernel
set_option maxRecDepth 20000 in
theorem ggX3_pass__X3_pass : GoodIn wsX3_pass_ wsX3_pass := goodIn_r _ [5, 6, 7, 8, 9, 10, 11, 12, 13, 14, 15, 16, 17, 18, 19, 20, 21, 22, 23, 4, 24, 25, 26, 27, 28, 29, 30, 31, 32, 33, 34, 35, 36, 37, 38, 39, 40, 41, 42, 43, 44, 45, 46, 47, 48, 49, 50, 51, 52, 53, 54, 55, 56, 57, 58, 59, 60] (by decide +kernel) (by decide +kernel)
set_option maxRecDepth 20000 in
theorem gX3_pass__X3_pass : GoodIn wsX3_pass_ (wsV RX3 97 RX3 yX3_pass wsX3_pass) := goodIn_app (goodIn_of _ (by decide +kernel)) ggX3_pass__X3_pass
theorem dX3_pass__0 : decode cX3_pass_ 0 = .ok (.iconst 0, 1) := by decide +kernel
theorem dX3_pass__1 : decode cX3_pass_ 1 = .ok (.istore_n 2, 1) := by decide +kernel
theorem dX3_pass__2 : decode cX3_pass_ 2 = .ok (.iload_n 2, 1) := by decide +kernel
theorem dX3_pass__3 : decode cX3_pass_ 3 = .ok (.iload_n 1, 1) := by decide +kernel
theorem dX3_pass__4 : decode cX3_pass_ 4 = .ok (.if_icmp .ge 13, 3) := by decide +kernel
theorem dX3_pass__7 : decode cX3_pass_ 7 = .ok (.aload_n 0, 1) := by decide +kernel
theorem dX3_pass__8 : decode cX3_pass_ 8 = .ok (.invokevirtual 97, 3) := by decide +kernel
theorem dX3_pass__11 : decode cX3_pass_ 11 = .ok (.iinc 2 1, 3) := by decide +kernel
theorem dX3_pass__14 : decode cX3_pass_ 14 = .ok (.goto (-12), 3) := by decide +kernel
theorem dX3_pass__17 : decode cX3_pass_ 17 = .ok (.return_, 1) := by decide +kernel
theorem dX3_are_0 : decode cX3_are 0 = .ok (.iconst 0, 1) := by decide +kernel
theorem dX3_are_1 : decode cX3_are 1 = .ok (.istore_n 3, 1) := by decide +kernel
theorem dX3_are_2 : decode cX3_are 2 = .ok (.iconst 0, 1) := by decide +kernel
theorem dX3_are_3 : decode cX3_are 3 = .ok (.istore 4, 2) := by decide +kernel
theorem dX3_are_5 : decode cX3_are 5 = .ok (.iload 4, 2) := by decide +kernel
theorem dX3_are_7 : decode cX3_are 7 = .ok (.aload_n 0, 1) := by decide +kernel
theorem dX3_are_8 : decode cX3_are 8 = .ok (.getfield 3, 3) := by decide +kernel
theorem dX3_are_11 : decode cX3_are 11 = .ok (.getfield 66, 3) := by decide +kernel
theorem dX3_are_14 : decode cX3_are 14 = .ok (.if_icmp .ge 47, 3) := by decide +kernel
theorem dX3_are_17 : decode cX3_are 17 = .ok (.iload_n 3, 1) := by decide +kernel
theorem dX3_are_18 : decode cX3_are 18 = .ok (.aload_n 0, 1) := by decide +kernel
theorem dX3_are_19 : decode cX3_are 19 = .ok (.getfield 22, 3) := by decide +kernel
theorem dX3_are_22 : decode cX3_are 22 = .ok (.iload 4, 2) := by decide +kernel
theorem dX3_are_24 : decode cX3_are 24 = .ok (.iaload, 1) := by decide +kernel
theorem dX3_are_25 : decode cX3_are 25 = .ok (.iload_n 1, 1) := by decide +kernel
theorem dX3_are_26 : decode cX3_are 26 = .ok (.if_icmp .ne 26, 3) := by decide +kernel
theorem dX3_are_29 : decode cX3_are 29 = .ok (.iload_n 2, 1) := by decide +kernel
theorem dX3_are_30 : decode cX3_are 30 = .ok (.iconst 2, 1) := by decide +kernel
theorem dX3_are_31 : decode cX3_are 31 = .ok (.if_icmp .eq 17, 3) := by decide +kernel
theorem dX3_are_34 : decode cX3_are 34 = .ok (.aload_n 0, 1) := by decide +kernel
theorem dX3_are_35 : decode cX3_are 35 = .ok (.getfield 3, 3) := by decide +kernel
theorem dX3_are_38 : decode cX3_are 38 = .ok (.getfield 69, 3) := by decide +kernel
theorem dX3_are_41 : decode cX3_are 41 = .ok (.iload 4, 2) := by decide +kernel
theorem dX3_are_43 : decode cX3_are 43 = .ok (.iaload, 1) := by decide +kernel
theorem dX3_are_44 : decode cX3_are 44 = .ok (.iload_n 2, 1) := by decide +kernel
theorem dX3_are_45 : decode cX3_are 45 = .ok (.if_icmp .ne 7, 3) := by decide +kernel
theorem dX3_are_48 : decode cX3_are 48 = .ok (.iconst 1, 1) := by decide +kernel
theorem dX3_are_49 : decode cX3_are 49 = .ok (.goto 4, 3) := by decide +kernel
theorem dX3_are_52 : decode cX3_are 52 = .ok (.iconst 0, 1) := by decide +kernel
theorem dX3_are_53 : decode cX3_are 53 = .ok (.iadd, 1) := by decide +kernel
theorem dX3_are_54 : decode cX3_are 54 = .ok (.istore_n 3, 1) := by decide +kernel
theorem dX3_are_55 : decode cX3_are 55 = .ok (.iinc 4 1, 3) := by decide +kernel
theorem dX3_are_58 : decode cX3_are 58 = .ok (.goto (-53), 3) := by decide +kernel
theorem dX3_are_61 : decode cX3_are 61 = .ok (.iload_n 3, 1) := by decide +kernel
theorem dX3_are_62 : decode cX3_are 62 = .ok (.ireturn, 1) := by decide +kernel
theorem dX3_sumWaited_0 : decode cX3_sumWaited 0 = .ok (.iconst 0, 1) := by decide +kernel
theorem dX3_sumWaited_1 : decode cX3_sumWaited 1 = .ok (.istore_n 1, 1) := by decide +kernel
theorem dX3_sumWaited_2 : decode cX3_sumWaited 2 = .ok (.iconst 0, 1) := by decide +kernel
theorem dX3_sumWaited_3 : decode cX3_sumWaited 3 = .ok (.istore_n 2, 1) := by decide +kernel
theorem dX3_sumWaited_4 : decode cX3_sumWaited 4 = .ok (.iload_n 2, 1) := by decide +kernel
theorem dX3_sumWaited_5 : decode cX3_sumWaited 5 = .ok (.aload_n 0, 1) := by decide +kernel
theorem dX3_sumWaited_6 : decode cX3_sumWaited 6 = .ok (.getfield 3, 3) := by decide +kernel
theorem dX3_sumWaited_9 : decode cX3_sumWaited 9 = .ok (.getfield 66, 3) := by decide +kernel
theorem dX3_sumWaited_12 : decode cX3_sumWaited 12 = .ok (.if_icmp .ge 18, 3) := by decide +kernel
theorem dX3_sumWaited_15 : decode cX3_sumWaited 15 = .ok (.iload_n 1, 1) := by decide +kernel
theorem dX3_sumWaited_16 : decode cX3_sumWaited 16 = .ok (.aload_n 0, 1) := by decide +kernel
theorem dX3_sumWaited_17 : decode cX3_sumWaited 17 = .ok (.getfield 26, 3) := by decide +kernel
theorem dX3_sumWaited_20 : decode cX3_sumWaited 20 = .ok (.iload_n 2, 1) := by decide +kernel
theorem dX3_sumWaited_21 : decode cX3_sumWaited 21 = .ok (.iaload, 1) := by decide +kernel
theorem dX3_sumWaited_22 : decode cX3_sumWaited 22 = .ok (.iadd, 1) := by decide +kernel
theorem dX3_sumWaited_23 : decode cX3_sumWaited 23 = .ok (.istore_n 1, 1) := by decide +kernel
theorem dX3_sumWaited_24 : decode cX3_sumWaited 24 = .ok (.iinc 2 1, 3) := by decide +kernel
theorem dX3_sumWaited_27 : decode cX3_sumWaited 27 = .ok (.goto (-23), 3) := by decide +kernel
theorem dX3_sumWaited_30 : decode cX3_sumWaited 30 = .ok (.iload_n 1, 1) := by decide +kernel
theorem dX3_sumWaited_31 : decode cX3_sumWaited 31 = .ok (.ireturn, 1) := by decide +kernel
set_option maxRecDepth 20000 in
theorem ggX3_counted_X3_are : GoodIn wsX3_counted wsX3_are := goodIn_r _ [12, 6, 13, 28, 29, 30, 31, 32, 33, 34, 35, 36, 37, 38, 39, 40, 41, 42, 43, 44, 45, 46, 47] (by decide +kernel) (by decide +kernel)
set_option maxRecDepth 20000 in
theorem gX3_counted_X3_are : GoodIn wsX3_counted (wsV RX3 100 RX3 yX3_are wsX3_are) := goodIn_app (goodIn_of _ (by decide +kernel)) ggX3_counted_X3_are
set_option maxRecDepth 20000 in
theorem ggX3_counted_X3_sumWaited : GoodIn wsX3_counted wsX3_sumWaited := goodIn_r _ [17, 6, 18, 28, 29, 30, 31, 32, 33, 34, 35, 36, 37, 38, 39, 40, 41, 42, 43, 44, 45, 46, 47] (by decide +kernel) (by decide +kernel)
set_option maxRecDepth 20000 in
theorem gX3_counted_X3_sumWaited : GoodIn wsX3_counted (wsV RX3 103 RX3 yX3_sumWaited wsX3_sumWaited) := goodIn_app (goodIn_of _ (by decide +kernel)) ggX3_counted_X3_sumWaited
set_option maxRecDepth 20000 in
theorem ggX3_counted_X3_next : GoodIn wsX3_counted wsX3_next := goodIn_r _ [22, 7, 5, 23, 24, 25, 26, 11, 27, 6, 13, 28, 29, 30, 31, 32, 33, 34, 35, 36, 37, 38, 39, 40, 41, 42, 43, 44, 45, 46, 47] (by decide +kernel) (by decide +kernel)
set_option maxRecDepth 20000 in
theorem gX3_counted_X3_next : GoodIn wsX3_counted (wsV RX3 86 RX3 yX3_next wsX3_next) := goodIn_app (goodIn_of _ (by decide +kernel)) ggX3_counted_X3_next
theorem dX3_counted_0 : decode cX3_counted 0 = .ok (.iload_n 1, 1) := by decide +kernel
theorem dX3_counted_1 : decode cX3_counted 1 = .ok (.tableswitch 123 0 10 #[59, 64, 69, 74, 79, 84, 92, 99, 106, 113, 118], 59) := by decide +kernel
theorem dX3_counted_60 : decode cX3_counted 60 = .ok (.aload_n 0, 1) := by decide +kernel
theorem dX3_counted_61 : decode cX3_counted 61 = .ok (.getfield 41, 3) := by decide +kernel
theorem dX3_counted_64 : decode cX3_counted 64 = .ok (.ireturn, 1) := by decide +kernel
theorem dX3_counted_65 : decode cX3_counted 65 = .ok (.aload_n 0, 1) := by decide +kernel
theorem dX3_counted_66 : decode cX3_counted 66 = .ok (.getfield 44, 3) := by decide +kernel
theorem dX3_counted_69 : decode cX3_counted 69 = .ok (.ireturn, 1) := by decide +kernel
theorem dX3_counted_70 : decode cX3_counted 70 = .ok (.aload_n 0, 1) := by decide +kernel
theorem dX3_counted_71 : decode cX3_counted 71 = .ok (.getfield 15, 3) := by decide +kernel
theorem dX3_counted_74 : decode cX3_counted 74 = .ok (.ireturn, 1) := by decide +kernel
theorem dX3_counted_75 : decode cX3_counted 75 = .ok (.aload_n 0, 1) := by decide +kernel
theorem dX3_counted_76 : decode cX3_counted 76 = .ok (.getfield 47, 3) := by decide +kernel
theorem dX3_counted_79 : decode cX3_counted 79 = .ok (.ireturn, 1) := by decide +kernel
theorem dX3_counted_80 : decode cX3_counted 80 = .ok (.aload_n 0, 1) := by decide +kernel
theorem dX3_counted_81 : decode cX3_counted 81 = .ok (.getfield 50, 3) := by decide +kernel
theorem dX3_counted_84 : decode cX3_counted 84 = .ok (.ireturn, 1) := by decide +kernel
theorem dX3_counted_85 : decode cX3_counted 85 = .ok (.aload_n 0, 1) := by decide +kernel
theorem dX3_counted_86 : decode cX3_counted 86 = .ok (.getfield 3, 3) := by decide +kernel
theorem dX3_counted_89 : decode cX3_counted 89 = .ok (.getfield 66, 3) := by decide +kernel
theorem dX3_counted_92 : decode cX3_counted 92 = .ok (.ireturn, 1) := by decide +kernel
theorem dX3_counted_93 : decode cX3_counted 93 = .ok (.aload_n 0, 1) := by decide +kernel
theorem dX3_counted_94 : decode cX3_counted 94 = .ok (.iconst 0, 1) := by decide +kernel
theorem dX3_counted_95 : decode cX3_counted 95 = .ok (.iconst 1, 1) := by decide +kernel
theorem dX3_counted_96 : decode cX3_counted 96 = .ok (.invokevirtual 100, 3) := by decide +kernel
theorem dX3_counted_99 : decode cX3_counted 99 = .ok (.ireturn, 1) := by decide +kernel
theorem dX3_counted_100 : decode cX3_counted 100 = .ok (.aload_n 0, 1) := by decide +kernel
theorem dX3_counted_101 : decode cX3_counted 101 = .ok (.iconst 0, 1) := by decide +kernel
theorem dX3_counted_102 : decode cX3_counted 102 = .ok (.iconst 0, 1) := by decide +kernel
theorem dX3_counted_103 : decode cX3_counted 103 = .ok (.invokevirtual 100, 3) := by decide +kernel
theorem dX3_counted_106 : decode cX3_counted 106 = .ok (.ireturn, 1) := by decide +kernel
theorem dX3_counted_107 : decode cX3_counted 107 = .ok (.aload_n 0, 1) := by decide +kernel
theorem dX3_counted_108 : decode cX3_counted 108 = .ok (.iconst 2, 1) := by decide +kernel
theorem dX3_counted_109 : decode cX3_counted 109 = .ok (.iconst 2, 1) := by decide +kernel
theorem dX3_counted_110 : decode cX3_counted 110 = .ok (.invokevirtual 100, 3) := by decide +kernel
theorem dX3_counted_113 : decode cX3_counted 113 = .ok (.ireturn, 1) := by decide +kernel
theorem dX3_counted_114 : decode cX3_counted 114 = .ok (.aload_n 0, 1) := by decide +kernel
theorem dX3_counted_115 : decode cX3_counted 115 = .ok (.invokevirtual 103, 3) := by decide +kernel
theorem dX3_counted_118 : decode cX3_counted 118 = .ok (.ireturn, 1) := by decide +kernel
theorem dX3_counted_119 : decode cX3_counted 119 = .ok (.aload_n 0, 1) := by decide +kernel
theorem dX3_counted_120 : decode cX3_counted 120 = .ok (.getfield 19, 3) := by decide +kernel
theorem dX3_counted_123 : decode cX3_counted 123 = .ok (.ireturn, 1) := by decide +kernel
theorem dX3_counted_124 : decode cX3_counted 124 = .ok (.aload_n 0, 1) := by decide +kernel
theorem dX3_counted_125 : decode cX3_counted 125 = .ok (.invokevirtual 86, 3) := by decide +kernel
theorem dX3_counted_128 : decode cX3_counted 128 = .ok (.ireturn, 1) := by decide +kernel
set_option maxRecDepth 20000 in
theorem ggX4_init_X3_init : GoodIn wsX4_init wsX3_init := goodIn_r _ [15, 16, 17, 2, 3, 18, 19, 4, 20, 21, 22, 23, 32, 33, 34, 35, 36, 37, 38, 39, 40, 41, 42, 43] (by decide +kernel) (by decide +kernel)
set_option maxRecDepth 20000 in
theorem gX4_init_X3_init_n24 : GoodIn wsX4_init (wsX3_init) := ggX4_init_X3_init
theorem dX4_init_0 : decode cX4_init 0 = .ok (.aload_n 0, 1) := by decide +kernel
theorem dX4_init_1 : decode cX4_init 1 = .ok (.invokespecial 1, 3) := by decide +kernel
theorem dX4_init_4 : decode cX4_init 4 = .ok (.aload_n 0, 1) := by decide +kernel
theorem dX4_init_5 : decode cX4_init 5 = .ok (.bipush 40, 2) := by decide +kernel
theorem dX4_init_7 : decode cX4_init 7 = .ok (.newarray .int, 2) := by decide +kernel
theorem dX4_init_9 : decode cX4_init 9 = .ok (.putfield 9, 3) := by decide +kernel
theorem dX4_init_12 : decode cX4_init 12 = .ok (.aload_n 0, 1) := by decide +kernel
theorem dX4_init_13 : decode cX4_init 13 = .ok (.bipush 40, 2) := by decide +kernel
theorem dX4_init_15 : decode cX4_init 15 = .ok (.newarray .int, 2) := by decide +kernel
theorem dX4_init_17 : decode cX4_init 17 = .ok (.putfield 13, 3) := by decide +kernel
theorem dX4_init_20 : decode cX4_init 20 = .ok (.aload_n 0, 1) := by decide +kernel
theorem dX4_init_21 : decode cX4_init 21 = .ok (.bipush 40, 2) := by decide +kernel
theorem dX4_init_23 : decode cX4_init 23 = .ok (.newarray .int, 2) := by decide +kernel
theorem dX4_init_25 : decode cX4_init 25 = .ok (.putfield 16, 3) := by decide +kernel
theorem dX4_init_28 : decode cX4_init 28 = .ok (.aload_n 0, 1) := by decide +kernel
theorem dX4_init_29 : decode cX4_init 29 = .ok (.bipush 8, 2) := by decide +kernel
theorem dX4_init_31 : decode cX4_init 31 = .ok (.newarray .int, 2) := by decide +kernel
theorem dX4_init_33 : decode cX4_init 33 = .ok (.putfield 19, 3) := by decide +kernel
theorem dX4_init_36 : decode cX4_init 36 = .ok (.aload_n 0, 1) := by decide +kernel
theorem dX4_init_37 : decode cX4_init 37 = .ok (.new 22, 3) := by decide +kernel
theorem dX4_init_40 : decode cX4_init 40 = .ok (.dup, 1) := by decide +kernel
theorem dX4_init_41 : decode cX4_init 41 = .ok (.aload_n 0, 1) := by decide +kernel
theorem dX4_init_42 : decode cX4_init 42 = .ok (.invokespecial 24, 3) := by decide +kernel
theorem dX4_init_45 : decode cX4_init 45 = .ok (.putfield 27, 3) := by decide +kernel
theorem dX4_init_48 : decode cX4_init 48 = .ok (.aload_n 0, 1) := by decide +kernel
theorem dX4_init_49 : decode cX4_init 49 = .ok (.new 22, 3) := by decide +kernel
theorem dX4_init_52 : decode cX4_init 52 = .ok (.dup, 1) := by decide +kernel
theorem dX4_init_53 : decode cX4_init 53 = .ok (.aload_n 0, 1) := by decide +kernel
theorem dX4_init_54 : decode cX4_init 54 = .ok (.invokespecial 24, 3) := by decide +kernel
theorem dX4_init_57 : decode cX4_init 57 = .ok (.putfield 31, 3) := by decide +kernel
theorem dX4_init_60 : decode cX4_init 60 = .ok (.return_, 1) := by decide +kernel
theorem dX4_thrown_0 : decode cX4_thrown 0 = .ok (.aload_n 0, 1) := by decide +kernel
theorem dX4_thrown_1 : decode cX4_thrown 1 = .ok (.getfield 34, 3) := by decide +kernel
theorem dX4_thrown_4 : decode cX4_thrown 4 = .ok (.ireturn, 1) := by decide +kernel
theorem dX4_no_0 : decode cX4_no 0 = .ok (.aload_n 0, 1) := by decide +kernel
theorem dX4_no_1 : decode cX4_no 1 = .ok (.iload_n 1, 1) := by decide +kernel
theorem dX4_no_2 : decode cX4_no 2 = .ok (.putfield 34, 3) := by decide +kernel
theorem dX4_no_5 : decode cX4_no 5 = .ok (.iconst 0, 1) := by decide +kernel
theorem dX4_no_6 : decode cX4_no 6 = .ok (.ireturn, 1) := by decide +kernel
theorem dX4_isIn_0 : decode cX4_isIn 0 = .ok (.iload_n 0, 1) := by decide +kernel
theorem dX4_isIn_1 : decode cX4_isIn 1 = .ok (.iload_n 1, 1) := by decide +kernel
theorem dX4_isIn_2 : decode cX4_isIn 2 = .ok (.if_icmp .lt 12, 3) := by decide +kernel
theorem dX4_isIn_5 : decode cX4_isIn 5 = .ok (.iload_n 0, 1) := by decide +kernel
theorem dX4_isIn_6 : decode cX4_isIn 6 = .ok (.iload_n 2, 1) := by decide +kernel
theorem dX4_isIn_7 : decode cX4_isIn 7 = .ok (.if_icmp .gt 7, 3) := by decide +kernel
theorem dX4_isIn_10 : decode cX4_isIn 10 = .ok (.iconst 1, 1) := by decide +kernel
theorem dX4_isIn_11 : decode cX4_isIn 11 = .ok (.goto 4, 3) := by decide +kernel
theorem dX4_isIn_14 : decode cX4_isIn 14 = .ok (.iconst 0, 1) := by decide +kernel
theorem dX4_isIn_15 : decode cX4_isIn 15 = .ok (.ireturn, 1) := by decide +kernel
set_option maxRecDepth 20000 in
theorem ggX4_isTraveller_X4_isIn : GoodIn wsX4_isTraveller wsX4_isIn := goodIn_r _ [5] (by decide +kernel) (by decide +kernel)
set_option maxRecDepth 20000 in
theorem gX4_isTraveller_X4_isIn : GoodIn wsX4_isTraveller (va_wsS RX4 41 yX4_isIn wsX4_isIn) := goodIn_app (goodIn_of _ (by decide +kernel)) ggX4_isTraveller_X4_isIn
theorem dX4_isTraveller_0 : decode cX4_isTraveller 0 = .ok (.iload_n 1, 1) := by decide +kernel
theorem dX4_isTraveller_1 : decode cX4_isTraveller 1 = .ok (.iconst 0, 1) := by decide +kernel
theorem dX4_isTraveller_2 : decode cX4_isTraveller 2 = .ok (.aload_n 0, 1) := by decide +kernel
theorem dX4_isTraveller_3 : decode cX4_isTraveller 3 = .ok (.getfield 38, 3) := by decide +kernel
theorem dX4_isTraveller_6 : decode cX4_isTraveller 6 = .ok (.iconst 1, 1) := by decide +kernel
theorem dX4_isTraveller_7 : decode cX4_isTraveller 7 = .ok (.isub, 1) := by decide +kernel
theorem dX4_isTraveller_8 : decode cX4_isTraveller 8 = .ok (.invokestatic 41, 3) := by decide +kernel
theorem dX4_isTraveller_11 : decode cX4_isTraveller 11 = .ok (.ireturn, 1) := by decide +kernel
set_option maxRecDepth 20000 in
theorem ggX4_come_X4_isIn : GoodIn wsX4_come wsX4_isIn := goodIn_r _ [10] (by decide +kernel) (by decide +kernel)
set_option maxRecDepth 20000 in
theorem gX4_come_X4_isIn : GoodIn wsX4_come (va_wsS RX4 41 yX4_isIn wsX4_isIn) := goodIn_app (goodIn_of _ (by decide +kernel)) ggX4_come_X4_isIn
set_option maxRecDepth 20000 in
theorem ggX4_come_X4_no : GoodIn wsX4_come wsX4_no := goodIn_r _ [14, 1, 15, 16, 17, 18, 19, 20, 21, 22] (by decide +kernel) (by decide +kernel)
set_option maxRecDepth 20000 in
theorem gX4_come_X4_no : GoodIn wsX4_come (wsV RX4 45 RX4 yX4_no wsX4_no) := goodIn_app (goodIn_of _ (by decide +kernel)) ggX4_come_X4_no
theorem dX4_come_0 : decode cX4_come 0 = .ok (.aload_n 0, 1) := by decide +kernel
theorem dX4_come_1 : decode cX4_come 1 = .ok (.iconst 0, 1) := by decide +kernel
theorem dX4_come_2 : decode cX4_come 2 = .ok (.putfield 34, 3) := by decide +kernel
theorem dX4_come_5 : decode cX4_come 5 = .ok (.iload_n 2, 1) := by decide +kernel
theorem dX4_come_6 : decode cX4_come 6 = .ok (.iconst 1, 1) := by decide +kernel
theorem dX4_come_7 : decode cX4_come 7 = .ok (.bipush 6, 2) := by decide +kernel
theorem dX4_come_9 : decode cX4_come 9 = .ok (.invokestatic 41, 3) := by decide +kernel
theorem dX4_come_12 : decode cX4_come 12 = .ok (.ifCond .ne 9, 3) := by decide +kernel
theorem dX4_come_15 : decode cX4_come 15 = .ok (.aload_n 0, 1) := by decide +kernel
theorem dX4_come_16 : decode cX4_come 16 = .ok (.iconst 1, 1) := by decide +kernel
theorem dX4_come_17 : decode cX4_come 17 = .ok (.invokevirtual 45, 3) := by decide +kernel
theorem dX4_come_20 : decode cX4_come 20 = .ok (.ireturn, 1) := by decide +kernel
theorem dX4_come_21 : decode cX4_come 21 = .ok (.aload_n 0, 1) := by decide +kernel
theorem dX4_come_22 : decode cX4_come 22 = .ok (.getfield 38, 3) := by decide +kernel
theorem dX4_come_25 : decode cX4_come 25 = .ok (.bipush 40, 2) := by decide +kernel
theorem dX4_come_27 : decode cX4_come 27 = .ok (.if_icmp .ne 9, 3) := by decide +kernel
theorem dX4_come_30 : decode cX4_come 30 = .ok (.aload_n 0, 1) := by decide +kernel
theorem dX4_come_31 : decode cX4_come 31 = .ok (.iconst 2, 1) := by decide +kernel
theorem dX4_come_32 : decode cX4_come 32 = .ok (.invokevirtual 45, 3) := by decide +kernel
theorem dX4_come_35 : decode cX4_come 35 = .ok (.ireturn, 1) := by decide +kernel
theorem dX4_come_36 : decode cX4_come 36 = .ok (.aload_n 0, 1) := by decide +kernel
theorem dX4_come_37 : decode cX4_come 37 = .ok (.getfield 9, 3) := by decide +kernel
theorem dX4_come_40 : decode cX4_come 40 = .ok (.aload_n 0, 1) := by decide +kernel
theorem dX4_come_41 : decode cX4_come 41 = .ok (.getfield 38, 3) := by decide +kernel
theorem dX4_come_44 : decode cX4_come 44 = .ok (.iload_n 1, 1) := by decide +kernel
theorem dX4_come_45 : decode cX4_come 45 = .ok (.ifCond .eq 7, 3) := by decide +kernel
theorem dX4_come_48 : decode cX4_come 48 = .ok (.iconst 1, 1) := by decide +kernel
theorem dX4_come_49 : decode cX4_come 49 = .ok (.goto 4, 3) := by decide +kernel
theorem dX4_come_52 : decode cX4_come 52 = .ok (.iconst 0, 1) := by decide +kernel
theorem dX4_come_53 : decode cX4_come 53 = .ok (.iastore, 1) := by decide +kernel
theorem dX4_come_54 : decode cX4_come 54 = .ok (.aload_n 0, 1) := by decide +kernel
theorem dX4_come_55 : decode cX4_come 55 = .ok (.getfield 13, 3) := by decide +kernel
theorem dX4_come_58 : decode cX4_come 58 = .ok (.aload_n 0, 1) := by decide +kernel
theorem dX4_come_59 : decode cX4_come 59 = .ok (.getfield 38, 3) := by decide +kernel
theorem dX4_come_62 : decode cX4_come 62 = .ok (.iload_n 2, 1) := by decide +kernel
theorem dX4_come_63 : decode cX4_come 63 = .ok (.iastore, 1) := by decide +kernel
theorem dX4_come_64 : decode cX4_come 64 = .ok (.aload_n 0, 1) := by decide +kernel
theorem dX4_come_65 : decode cX4_come 65 = .ok (.getfield 16, 3) := by decide +kernel
theorem dX4_come_68 : decode cX4_come 68 = .ok (.aload_n 0, 1) := by decide +kernel
theorem dX4_come_69 : decode cX4_come 69 = .ok (.getfield 38, 3) := by decide +kernel
theorem dX4_come_72 : decode cX4_come 72 = .ok (.aload_n 0, 1) := by decide +kernel
theorem dX4_come_73 : decode cX4_come 73 = .ok (.getfield 27, 3) := by decide +kernel
theorem dX4_come_76 : decode cX4_come 76 = .ok (.getfield 49, 3) := by decide +kernel
theorem dX4_come_79 : decode cX4_come 79 = .ok (.iastore, 1) := by decide +kernel
theorem dX4_come_80 : decode cX4_come 80 = .ok (.aload_n 0, 1) := by decide +kernel
theorem dX4_come_81 : decode cX4_come 81 = .ok (.getfield 27, 3) := by decide +kernel
theorem dX4_come_84 : decode cX4_come 84 = .ok (.getfield 52, 3) := by decide +kernel
theorem dX4_come_87 : decode cX4_come 87 = .ok (.aload_n 0, 1) := by decide +kernel
theorem dX4_come_88 : decode cX4_come 88 = .ok (.getfield 38, 3) := by decide +kernel
theorem dX4_come_91 : decode cX4_come 91 = .ok (.iconst (-1), 1) := by decide +kernel
theorem dX4_come_92 : decode cX4_come 92 = .ok (.iastore, 1) := by decide +kernel
theorem dX4_come_93 : decode cX4_come 93 = .ok (.aload_n 0, 1) := by decide +kernel
theorem dX4_come_94 : decode cX4_come 94 = .ok (.dup, 1) := by decide +kernel
theorem dX4_come_95 : decode cX4_come 95 = .ok (.getfield 38, 3) := by decide +kernel
theorem dX4_come_98 : decode cX4_come 98 = .ok (.iconst 1, 1) := by decide +kernel
theorem dX4_come_99 : decode cX4_come 99 = .ok (.iadd, 1) := by decide +kernel
theorem dX4_come_100 : decode cX4_come 100 = .ok (.putfield 38, 3) := by decide +kernel
theorem dX4_come_103 : decode cX4_come 103 = .ok (.aload_n 0, 1) := by decide +kernel
theorem dX4_come_104 : decode cX4_come 104 = .ok (.getfield 38, 3) := by decide +kernel
theorem dX4_come_107 : decode cX4_come 107 = .ok (.iconst 1, 1) := by decide +kernel
theorem dX4_come_108 : decode cX4_come 108 = .ok (.isub, 1) := by decide +kernel
theorem dX4_come_109 : decode cX4_come 109 = .ok (.ireturn, 1) := by decide +kernel
set_option maxRecDepth 20000 in
theorem ggX4_leave_X4_isTraveller : GoodIn wsX4_leave wsX4_isTraveller := goodIn_r _ [7, 8, 9, 10, 6, 11, 16, 17, 18, 19, 20, 21, 22, 23] (by decide +kernel) (by decide +kernel)
set_option maxRecDepth 20000 in
theorem gX4_leave_X4_isTraveller : GoodIn wsX4_leave (wsV RX4 55 RX4 yX4_isTraveller wsX4_isTraveller) := goodIn_app (goodIn_of _ (by decide +kernel)) ggX4_leave_X4_isTraveller
set_option maxRecDepth 20000 in
theorem ggX4_leave_X4_no : GoodIn wsX4_leave wsX4_no := goodIn_r _ [15, 1, 16, 17, 18, 19, 20, 21, 22, 23] (by decide +kernel) (by decide +kernel)
set_option maxRecDepth 20000 in
theorem gX4_leave_X4_no : GoodIn wsX4_leave (wsV RX4 45 RX4 yX4_no wsX4_no) := goodIn_app (goodIn_of _ (by decide +kernel)) ggX4_leave_X4_no
theorem dX4_leave_0 : decode cX4_leave 0 = .ok (.aload_n 0, 1) := by decide +kernel
theorem dX4_leave_1 : decode cX4_leave 1 = .ok (.iconst 0, 1) := by decide +kernel
theorem dX4_leave_2 : decode cX4_leave 2 = .ok (.putfield 34, 3) := by decide +kernel
theorem dX4_leave_5 : decode cX4_leave 5 = .ok (.aload_n 0, 1) := by decide +kernel
theorem dX4_leave_6 : decode cX4_leave 6 = .ok (.iload_n 1, 1) := by decide +kernel
theorem dX4_leave_7 : decode cX4_leave 7 = .ok (.invokevirtual 55, 3) := by decide +kernel
theorem dX4_leave_10 : decode cX4_leave 10 = .ok (.ifCond .ne 9, 3) := by decide +kernel
theorem dX4_leave_13 : decode cX4_leave 13 = .ok (.aload_n 0, 1) := by decide +kernel
theorem dX4_leave_14 : decode cX4_leave 14 = .ok (.iconst 1, 1) := by decide +kernel
theorem dX4_leave_15 : decode cX4_leave 15 = .ok (.invokevirtual 45, 3) := by decide +kernel
theorem dX4_leave_18 : decode cX4_leave 18 = .ok (.ireturn, 1) := by decide +kernel
theorem dX4_leave_19 : decode cX4_leave 19 = .ok (.aload_n 0, 1) := by decide +kernel
theorem dX4_leave_20 : decode cX4_leave 20 = .ok (.getfield 27, 3) := by decide +kernel
theorem dX4_leave_23 : decode cX4_leave 23 = .ok (.getfield 59, 3) := by decide +kernel
theorem dX4_leave_26 : decode cX4_leave 26 = .ok (.iload_n 1, 1) := by decide +kernel
theorem dX4_leave_27 : decode cX4_leave 27 = .ok (.iaload, 1) := by decide +kernel
theorem dX4_leave_28 : decode cX4_leave 28 = .ok (.ifCond .eq 9, 3) := by decide +kernel
theorem dX4_leave_31 : decode cX4_leave 31 = .ok (.aload_n 0, 1) := by decide +kernel
theorem dX4_leave_32 : decode cX4_leave 32 = .ok (.iconst 2, 1) := by decide +kernel
theorem dX4_leave_33 : decode cX4_leave 33 = .ok (.invokevirtual 45, 3) := by decide +kernel
theorem dX4_leave_36 : decode cX4_leave 36 = .ok (.ireturn, 1) := by decide +kernel
theorem dX4_leave_37 : decode cX4_leave 37 = .ok (.aload_n 0, 1) := by decide +kernel
theorem dX4_leave_38 : decode cX4_leave 38 = .ok (.getfield 27, 3) := by decide +kernel
theorem dX4_leave_41 : decode cX4_leave 41 = .ok (.getfield 59, 3) := by decide +kernel
theorem dX4_leave_44 : decode cX4_leave 44 = .ok (.iload_n 1, 1) := by decide +kernel
theorem dX4_leave_45 : decode cX4_leave 45 = .ok (.iconst 3, 1) := by decide +kernel
theorem dX4_leave_46 : decode cX4_leave 46 = .ok (.iastore, 1) := by decide +kernel
theorem dX4_leave_47 : decode cX4_leave 47 = .ok (.aload_n 0, 1) := by decide +kernel
theorem dX4_leave_48 : decode cX4_leave 48 = .ok (.getfield 27, 3) := by decide +kernel
theorem dX4_leave_51 : decode cX4_leave 51 = .ok (.getfield 62, 3) := by decide +kernel
theorem dX4_leave_54 : decode cX4_leave 54 = .ok (.iload_n 1, 1) := by decide +kernel
theorem dX4_leave_55 : decode cX4_leave 55 = .ok (.iaload, 1) := by decide +kernel
theorem dX4_leave_56 : decode cX4_leave 56 = .ok (.ireturn, 1) := by decide +kernel
set_option maxRecDepth 20000 in
theorem ggX4_ring_X4_isIn : GoodIn wsX4_ring wsX4_isIn := goodIn_r _ [6] (by decide +kernel) (by decide +kernel)
set_option maxRecDepth 20000 in
theorem gX4_ring_X4_isIn : GoodIn wsX4_ring (va_wsS RX4 41 yX4_isIn wsX4_isIn) := goodIn_app (goodIn_of _ (by decide +kernel)) ggX4_ring_X4_isIn
set_option maxRecDepth 20000 in
theorem ggX4_ring_X4_no : GoodIn wsX4_ring wsX4_no := goodIn_r _ [10, 1, 11, 12, 13, 14, 15, 16, 17, 18] (by decide +kernel) (by decide +kernel)
set_option maxRecDepth 20000 in
theorem gX4_ring_X4_no : GoodIn wsX4_ring (wsV RX4 45 RX4 yX4_no wsX4_no) := goodIn_app (goodIn_of _ (by decide +kernel)) ggX4_ring_X4_no
theorem dX4_ring_0 : decode cX4_ring 0 = .ok (.aload_n 0, 1) := by decide +kernel
theorem dX4_ring_1 : decode cX4_ring 1 = .ok (.iconst 0, 1) := by decide +kernel
theorem dX4_ring_2 : decode cX4_ring 2 = .ok (.putfield 34, 3) := by decide +kernel
theorem dX4_ring_5 : decode cX4_ring 5 = .ok (.iload_n 1, 1) := by decide +kernel
theorem dX4_ring_6 : decode cX4_ring 6 = .ok (.iconst 0, 1) := by decide +kernel
theorem dX4_ring_7 : decode cX4_ring 7 = .ok (.iconst 4, 1) := by decide +kernel
theorem dX4_ring_8 : decode cX4_ring 8 = .ok (.invokestatic 41, 3) := by decide +kernel
theorem dX4_ring_11 : decode cX4_ring 11 = .ok (.ifCond .ne 9, 3) := by decide +kernel
theorem dX4_ring_14 : decode cX4_ring 14 = .ok (.aload_n 0, 1) := by decide +kernel
theorem dX4_ring_15 : decode cX4_ring 15 = .ok (.iconst 1, 1) := by decide +kernel
theorem dX4_ring_16 : decode cX4_ring 16 = .ok (.invokevirtual 45, 3) := by decide +kernel
theorem dX4_ring_19 : decode cX4_ring 19 = .ok (.ireturn, 1) := by decide +kernel
theorem dX4_ring_20 : decode cX4_ring 20 = .ok (.aload_n 0, 1) := by decide +kernel
theorem dX4_ring_21 : decode cX4_ring 21 = .ok (.getfield 27, 3) := by decide +kernel
theorem dX4_ring_24 : decode cX4_ring 24 = .ok (.getfield 65, 3) := by decide +kernel
theorem dX4_ring_27 : decode cX4_ring 27 = .ok (.istore_n 2, 1) := by decide +kernel
theorem dX4_ring_28 : decode cX4_ring 28 = .ok (.aload_n 0, 1) := by decide +kernel
theorem dX4_ring_29 : decode cX4_ring 29 = .ok (.getfield 27, 3) := by decide +kernel
theorem dX4_ring_32 : decode cX4_ring 32 = .ok (.iload_n 1, 1) := by decide +kernel
theorem dX4_ring_33 : decode cX4_ring 33 = .ok (.putfield 65, 3) := by decide +kernel
theorem dX4_ring_36 : decode cX4_ring 36 = .ok (.iload_n 2, 1) := by decide +kernel
theorem dX4_ring_37 : decode cX4_ring 37 = .ok (.ireturn, 1) := by decide +kernel
set_option maxRecDepth 20000 in
theorem ggX4_poise_X4_isIn : GoodIn wsX4_poise wsX4_isIn := goodIn_r _ [6] (by decide +kernel) (by decide +kernel)
set_option maxRecDepth 20000 in
theorem gX4_poise_X4_isIn : GoodIn wsX4_poise (va_wsS RX4 41 yX4_isIn wsX4_isIn) := goodIn_app (goodIn_of _ (by decide +kernel)) ggX4_poise_X4_isIn
set_option maxRecDepth 20000 in
theorem ggX4_poise_X4_no : GoodIn wsX4_poise wsX4_no := goodIn_r _ [10, 1, 11, 12, 13, 14, 15, 16, 17, 18] (by decide +kernel) (by decide +kernel)
set_option maxRecDepth 20000 in
theorem gX4_poise_X4_no : GoodIn wsX4_poise (wsV RX4 45 RX4 yX4_no wsX4_no) := goodIn_app (goodIn_of _ (by decide +kernel)) ggX4_poise_X4_no
theorem dX4_poise_0 : decode cX4_poise 0 = .ok (.aload_n 0, 1) := by decide +kernel
theorem dX4_poise_1 : decode cX4_poise 1 = .ok (.iconst 0, 1) := by decide +kernel
theorem dX4_poise_2 : decode cX4_poise 2 = .ok (.putfield 34, 3) := by decide +kernel
theorem dX4_poise_5 : decode cX4_poise 5 = .ok (.iload_n 1, 1) := by decide +kernel
theorem dX4_poise_6 : decode cX4_poise 6 = .ok (.iconst 0, 1) := by decide +kernel
theorem dX4_poise_7 : decode cX4_poise 7 = .ok (.bipush 30, 2) := by decide +kernel
theorem dX4_poise_9 : decode cX4_poise 9 = .ok (.invokestatic 41, 3) := by decide +kernel
theorem dX4_poise_12 : decode cX4_poise 12 = .ok (.ifCond .ne 9, 3) := by decide +kernel
theorem dX4_poise_15 : decode cX4_poise 15 = .ok (.aload_n 0, 1) := by decide +kernel
theorem dX4_poise_16 : decode cX4_poise 16 = .ok (.iconst 1, 1) := by decide +kernel
theorem dX4_poise_17 : decode cX4_poise 17 = .ok (.invokevirtual 45, 3) := by decide +kernel
theorem dX4_poise_20 : decode cX4_poise 20 = .ok (.ireturn, 1) := by decide +kernel
theorem dX4_poise_21 : decode cX4_poise 21 = .ok (.aload_n 0, 1) := by decide +kernel
theorem dX4_poise_22 : decode cX4_poise 22 = .ok (.getfield 27, 3) := by decide +kernel
theorem dX4_poise_25 : decode cX4_poise 25 = .ok (.getfield 68, 3) := by decide +kernel
theorem dX4_poise_28 : decode cX4_poise 28 = .ok (.ifCond .eq 21, 3) := by decide +kernel
theorem dX4_poise_31 : decode cX4_poise 31 = .ok (.aload_n 0, 1) := by decide +kernel
theorem dX4_poise_32 : decode cX4_poise 32 = .ok (.getfield 27, 3) := by decide +kernel
theorem dX4_poise_35 : decode cX4_poise 35 = .ok (.getfield 68, 3) := by decide +kernel
theorem dX4_poise_38 : decode cX4_poise 38 = .ok (.bipush 60, 2) := by decide +kernel
theorem dX4_poise_40 : decode cX4_poise 40 = .ok (.if_icmp .eq 9, 3) := by decide +kernel
theorem dX4_poise_43 : decode cX4_poise 43 = .ok (.aload_n 0, 1) := by decide +kernel
theorem dX4_poise_44 : decode cX4_poise 44 = .ok (.iconst 2, 1) := by decide +kernel
theorem dX4_poise_45 : decode cX4_poise 45 = .ok (.invokevirtual 45, 3) := by decide +kernel
theorem dX4_poise_48 : decode cX4_poise 48 = .ok (.ireturn, 1) := by decide +kernel
theorem dX4_poise_49 : decode cX4_poise 49 = .ok (.aload_n 0, 1) := by decide +kernel
theorem dX4_poise_50 : decode cX4_poise 50 = .ok (.getfield 27, 3) := by decide +kernel
theorem dX4_poise_53 : decode cX4_poise 53 = .ok (.getfield 71, 3) := by decide +kernel
theorem dX4_poise_56 : decode cX4_poise 56 = .ok (.istore_n 2, 1) := by decide +kernel
theorem dX4_poise_57 : decode cX4_poise 57 = .ok (.aload_n 0, 1) := by decide +kernel
theorem dX4_poise_58 : decode cX4_poise 58 = .ok (.getfield 27, 3) := by decide +kernel
theorem dX4_poise_61 : decode cX4_poise 61 = .ok (.iload_n 1, 1) := by decide +kernel
theorem dX4_poise_62 : decode cX4_poise 62 = .ok (.putfield 71, 3) := by decide +kernel
theorem dX4_poise_65 : decode cX4_poise 65 = .ok (.iload_n 2, 1) := by decide +kernel
theorem dX4_poise_66 : decode cX4_poise 66 = .ok (.ireturn, 1) := by decide +kernel
set_option maxRecDepth 20000 in
theorem ggX4_setCold_X4_isIn : GoodIn wsX4_setCold wsX4_isIn := goodIn_r _ [6] (by decide +kernel) (by decide +kernel)
set_option maxRecDepth 20000 in
theorem gX4_setCold_X4_isIn : GoodIn wsX4_setCold (va_wsS RX4 41 yX4_isIn wsX4_isIn) := goodIn_app (goodIn_of _ (by decide +kernel)) ggX4_setCold_X4_isIn
set_option maxRecDepth 20000 in
theorem ggX4_setCold_X4_no : GoodIn wsX4_setCold wsX4_no := goodIn_r _ [10, 1, 11, 12, 13, 14, 15, 16, 17, 18] (by decide +kernel) (by decide +kernel)
set_option maxRecDepth 20000 in
theorem gX4_setCold_X4_no : GoodIn wsX4_setCold (wsV RX4 45 RX4 yX4_no wsX4_no) := goodIn_app (goodIn_of _ (by decide +kernel)) ggX4_setCold_X4_no
theorem dX4_setCold_0 : decode cX4_setCold 0 = .ok (.aload_n 0, 1) := by decide +kernel
theorem dX4_setCold_1 : decode cX4_setCold 1 = .ok (.iconst 0, 1) := by decide +kernel
theorem dX4_setCold_2 : decode cX4_setCold 2 = .ok (.putfield 34, 3) := by decide +kernel
theorem dX4_setCold_5 : decode cX4_setCold 5 = .ok (.iload_n 1, 1) := by decide +kernel
theorem dX4_setCold_6 : decode cX4_setCold 6 = .ok (.iconst 0, 1) := by decide +kernel
theorem dX4_setCold_7 : decode cX4_setCold 7 = .ok (.bipush 7, 2) := by decide +kernel
theorem dX4_setCold_9 : decode cX4_setCold 9 = .ok (.invokestatic 41, 3) := by decide +kernel
theorem dX4_setCold_12 : decode cX4_setCold 12 = .ok (.ifCond .ne 9, 3) := by decide +kernel
theorem dX4_setCold_15 : decode cX4_setCold 15 = .ok (.aload_n 0, 1) := by decide +kernel
theorem dX4_setCold_16 : decode cX4_setCold 16 = .ok (.iconst 1, 1) := by decide +kernel
theorem dX4_setCold_17 : decode cX4_setCold 17 = .ok (.invokevirtual 45, 3) := by decide +kernel
theorem dX4_setCold_20 : decode cX4_setCold 20 = .ok (.ireturn, 1) := by decide +kernel
theorem dX4_setCold_21 : decode cX4_setCold 21 = .ok (.iload_n 2, 1) := by decide +kernel
theorem dX4_setCold_22 : decode cX4_setCold 22 = .ok (.bipush (-3), 2) := by decide +kernel
theorem dX4_setCold_24 : decode cX4_setCold 24 = .ok (.iconst 3, 1) := by decide +kernel
theorem dX4_setCold_25 : decode cX4_setCold 25 = .ok (.invokestatic 41, 3) := by decide +kernel
theorem dX4_setCold_28 : decode cX4_setCold 28 = .ok (.ifCond .ne 9, 3) := by decide +kernel
theorem dX4_setCold_31 : decode cX4_setCold 31 = .ok (.aload_n 0, 1) := by decide +kernel
theorem dX4_setCold_32 : decode cX4_setCold 32 = .ok (.iconst 2, 1) := by decide +kernel
theorem dX4_setCold_33 : decode cX4_setCold 33 = .ok (.invokevirtual 45, 3) := by decide +kernel
theorem dX4_setCold_36 : decode cX4_setCold 36 = .ok (.ireturn, 1) := by decide +kernel
theorem dX4_setCold_37 : decode cX4_setCold 37 = .ok (.aload_n 0, 1) := by decide +kernel
theorem dX4_setCold_38 : decode cX4_setCold 38 = .ok (.getfield 19, 3) := by decide +kernel
theorem dX4_setCold_41 : decode cX4_setCold 41 = .ok (.iload_n 1, 1) := by decide +kernel
theorem dX4_setCold_42 : decode cX4_setCold 42 = .ok (.iaload, 1) := by decide +kernel
theorem dX4_setCold_43 : decode cX4_setCold 43 = .ok (.istore_n 3, 1) := by decide +kernel
theorem dX4_setCold_44 : decode cX4_setCold 44 = .ok (.aload_n 0, 1) := by decide +kernel
theorem dX4_setCold_45 : decode cX4_setCold 45 = .ok (.getfield 19, 3) := by decide +kernel
theorem dX4_setCold_48 : decode cX4_setCold 48 = .ok (.iload_n 1, 1) := by decide +kernel
theorem dX4_setCold_49 : decode cX4_setCold 49 = .ok (.iload_n 2, 1) := by decide +kernel
theorem dX4_setCold_50 : decode cX4_setCold 50 = .ok (.iastore, 1) := by decide +kernel
theorem dX4_setCold_51 : decode cX4_setCold 51 = .ok (.iload_n 3, 1) := by decide +kernel
theorem dX4_setCold_52 : decode cX4_setCold 52 = .ok (.ireturn, 1) := by decide +kernel
theorem dX4_crack_0 : decode cX4_crack 0 = .ok (.aload_n 0, 1) := by decide +kernel
theorem dX4_crack_1 : decode cX4_crack 1 = .ok (.iconst 0, 1) := by decide +kernel
theorem dX4_crack_2 : decode cX4_crack 2 = .ok (.putfield 34, 3) := by decide +kernel
theorem dX4_crack_5 : decode cX4_crack 5 = .ok (.aload_n 0, 1) := by decide +kernel
theorem dX4_crack_6 : decode cX4_crack 6 = .ok (.getfield 27, 3) := by decide +kernel
theorem dX4_crack_9 : decode cX4_crack 9 = .ok (.iconst 0, 1) := by decide +kernel
theorem dX4_crack_10 : decode cX4_crack 10 = .ok (.aload_n 0, 1) := by decide +kernel
theorem dX4_crack_11 : decode cX4_crack 11 = .ok (.getfield 27, 3) := by decide +kernel
theorem dX4_crack_14 : decode cX4_crack 14 = .ok (.getfield 74, 3) := by decide +kernel
theorem dX4_crack_17 : decode cX4_crack 17 = .ok (.iconst 3, 1) := by decide +kernel
theorem dX4_crack_18 : decode cX4_crack 18 = .ok (.isub, 1) := by decide +kernel
theorem dX4_crack_19 : decode cX4_crack 19 = .ok (.invokestatic 77, 3) := by decide +kernel
theorem dX4_crack_22 : decode cX4_crack 22 = .ok (.putfield 74, 3) := by decide +kernel
theorem dX4_crack_25 : decode cX4_crack 25 = .ok (.aload_n 0, 1) := by decide +kernel
theorem dX4_crack_26 : decode cX4_crack 26 = .ok (.getfield 27, 3) := by decide +kernel
theorem dX4_crack_29 : decode cX4_crack 29 = .ok (.getfield 74, 3) := by decide +kernel
theorem dX4_crack_32 : decode cX4_crack 32 = .ok (.ireturn, 1) := by decide +kernel
theorem dX4_told_0 : decode cX4_told 0 = .ok (.bipush 7, 2) := by decide +kernel
theorem dX4_told_2 : decode cX4_told 2 = .ok (.newarray .int, 2) := by decide +kernel
theorem dX4_told_4 : decode cX4_told 4 = .ok (.dup, 1) := by decide +kernel
theorem dX4_told_5 : decode cX4_told 5 = .ok (.iconst 0, 1) := by decide +kernel
theorem dX4_told_6 : decode cX4_told 6 = .ok (.aload_n 0, 1) := by decide +kernel
theorem dX4_told_7 : decode cX4_told 7 = .ok (.getfield 9, 3) := by decide +kernel
theorem dX4_told_10 : decode cX4_told 10 = .ok (.iload_n 1, 1) := by decide +kernel
theorem dX4_told_11 : decode cX4_told 11 = .ok (.iaload, 1) := by decide +kernel
theorem dX4_told_12 : decode cX4_told 12 = .ok (.iastore, 1) := by decide +kernel
theorem dX4_told_13 : decode cX4_told 13 = .ok (.dup, 1) := by decide +kernel
theorem dX4_told_14 : decode cX4_told 14 = .ok (.iconst 1, 1) := by decide +kernel
theorem dX4_told_15 : decode cX4_told 15 = .ok (.aload_n 0, 1) := by decide +kernel
theorem dX4_told_16 : decode cX4_told 16 = .ok (.getfield 13, 3) := by decide +kernel
theorem dX4_told_19 : decode cX4_told 19 = .ok (.iload_n 1, 1) := by decide +kernel
theorem dX4_told_20 : decode cX4_told 20 = .ok (.iaload, 1) := by decide +kernel
theorem dX4_told_21 : decode cX4_told 21 = .ok (.iastore, 1) := by decide +kernel
theorem dX4_told_22 : decode cX4_told 22 = .ok (.dup, 1) := by decide +kernel
theorem dX4_told_23 : decode cX4_told 23 = .ok (.iconst 2, 1) := by decide +kernel
theorem dX4_told_24 : decode cX4_told 24 = .ok (.aload_n 0, 1) := by decide +kernel
theorem dX4_told_25 : decode cX4_told 25 = .ok (.getfield 27, 3) := by decide +kernel
theorem dX4_told_28 : decode cX4_told 28 = .ok (.getfield 59, 3) := by decide +kernel
theorem dX4_told_31 : decode cX4_told 31 = .ok (.iload_n 1, 1) := by decide +kernel
theorem dX4_told_32 : decode cX4_told 32 = .ok (.iaload, 1) := by decide +kernel
theorem dX4_told_33 : decode cX4_told 33 = .ok (.iastore, 1) := by decide +kernel
theorem dX4_told_34 : decode cX4_told 34 = .ok (.dup, 1) := by decide +kernel
theorem dX4_told_35 : decode cX4_told 35 = .ok (.iconst 3, 1) := by decide +kernel
theorem dX4_told_36 : decode cX4_told 36 = .ok (.aload_n 0, 1) := by decide +kernel
theorem dX4_told_37 : decode cX4_told 37 = .ok (.getfield 16, 3) := by decide +kernel
theorem dX4_told_40 : decode cX4_told 40 = .ok (.iload_n 1, 1) := by decide +kernel
theorem dX4_told_41 : decode cX4_told 41 = .ok (.iaload, 1) := by decide +kernel
theorem dX4_told_42 : decode cX4_told 42 = .ok (.iastore, 1) := by decide +kernel
theorem dX4_told_43 : decode cX4_told 43 = .ok (.dup, 1) := by decide +kernel
theorem dX4_told_44 : decode cX4_told 44 = .ok (.iconst 4, 1) := by decide +kernel
theorem dX4_told_45 : decode cX4_told 45 = .ok (.aload_n 0, 1) := by decide +kernel
theorem dX4_told_46 : decode cX4_told 46 = .ok (.getfield 27, 3) := by decide +kernel
theorem dX4_told_49 : decode cX4_told 49 = .ok (.getfield 62, 3) := by decide +kernel
theorem dX4_told_52 : decode cX4_told 52 = .ok (.iload_n 1, 1) := by decide +kernel
theorem dX4_told_53 : decode cX4_told 53 = .ok (.iaload, 1) := by decide +kernel
theorem dX4_told_54 : decode cX4_told 54 = .ok (.iastore, 1) := by decide +kernel
theorem dX4_told_55 : decode cX4_told 55 = .ok (.dup, 1) := by decide +kernel
theorem dX4_told_56 : decode cX4_told 56 = .ok (.iconst 5, 1) := by decide +kernel
theorem dX4_told_57 : decode cX4_told 57 = .ok (.aload_n 0, 1) := by decide +kernel
theorem dX4_told_58 : decode cX4_told 58 = .ok (.getfield 27, 3) := by decide +kernel
theorem dX4_told_61 : decode cX4_told 61 = .ok (.getfield 83, 3) := by decide +kernel
theorem dX4_told_64 : decode cX4_told 64 = .ok (.iload_n 1, 1) := by decide +kernel
theorem dX4_told_65 : decode cX4_told 65 = .ok (.iaload, 1) := by decide +kernel
theorem dX4_told_66 : decode cX4_told 66 = .ok (.iastore, 1) := by decide +kernel
theorem dX4_told_67 : decode cX4_told 67 = .ok (.dup, 1) := by decide +kernel
theorem dX4_told_68 : decode cX4_told 68 = .ok (.bipush 6, 2) := by decide +kernel
theorem dX4_told_70 : decode cX4_told 70 = .ok (.aload_n 0, 1) := by decide +kernel
theorem dX4_told_71 : decode cX4_told 71 = .ok (.getfield 27, 3) := by decide +kernel
theorem dX4_told_74 : decode cX4_told 74 = .ok (.getfield 52, 3) := by decide +kernel
theorem dX4_told_77 : decode cX4_told 77 = .ok (.iload_n 1, 1) := by decide +kernel
theorem dX4_told_78 : decode cX4_told 78 = .ok (.iaload, 1) := by decide +kernel
theorem dX4_told_79 : decode cX4_told 79 = .ok (.iastore, 1) := by decide +kernel
theorem dX4_told_80 : decode cX4_told 80 = .ok (.astore_n 3, 1) := by decide +kernel
theorem dX4_told_81 : decode cX4_told 81 = .ok (.aload_n 3, 1) := by decide +kernel
theorem dX4_told_82 : decode cX4_told 82 = .ok (.iload_n 2, 1) := by decide +kernel
theorem dX4_told_83 : decode cX4_told 83 = .ok (.iaload, 1) := by decide +kernel
theorem dX4_told_84 : decode cX4_told 84 = .ok (.ireturn, 1) := by decide +kernel
set_option maxRecDepth 20000 in
theorem ggX4_traveller_X4_isTraveller : GoodIn wsX4_traveller wsX4_isTraveller := goodIn_r _ [6, 7, 8, 9, 5, 10, 24, 25, 26, 27, 28, 29, 30, 31] (by decide +kernel) (by decide +kernel)
set_option maxRecDepth 20000 in
theorem gX4_traveller_X4_isTraveller : GoodIn wsX4_traveller (wsV RX4 55 RX4 yX4_isTraveller wsX4_isTraveller) := goodIn_app (goodIn_of _ (by decide +kernel)) ggX4_traveller_X4_isTraveller
set_option maxRecDepth 20000 in
theorem ggX4_traveller_X4_isIn : GoodIn wsX4_traveller wsX4_isIn := goodIn_r _ [10] (by decide +kernel) (by decide +kernel)
set_option maxRecDepth 20000 in
theorem gX4_traveller_X4_isIn : GoodIn wsX4_traveller (va_wsS RX4 41 yX4_isIn wsX4_isIn) := goodIn_app (goodIn_of _ (by decide +kernel)) ggX4_traveller_X4_isIn
set_option maxRecDepth 20000 in
theorem ggX4_traveller_X4_told : GoodIn wsX4_traveller wsX4_told := goodIn_r _ [14, 15, 16, 17, 18, 19, 24, 25, 26, 27, 28, 29, 30, 31, 32, 33, 34, 35, 36, 37, 38, 39, 40, 41, 42, 43] (by decide +kernel) (by decide +kernel)
set_option maxRecDepth 20000 in
theorem gX4_traveller_X4_told : GoodIn wsX4_traveller (wsV RX4 86 RX4 yX4_told wsX4_told) := goodIn_app (goodIn_of _ (by decide +kernel)) ggX4_traveller_X4_told
set_option maxRecDepth 20000 in
theorem ggX4_traveller_X4_no : GoodIn wsX4_traveller wsX4_no := goodIn_r _ [23, 1, 24, 25, 26, 27, 28, 29, 30, 31] (by decide +kernel) (by decide +kernel)
set_option maxRecDepth 20000 in
theorem gX4_traveller_X4_no : GoodIn wsX4_traveller (wsV RX4 45 RX4 yX4_no wsX4_no) := goodIn_app (goodIn_of _ (by decide +kernel)) ggX4_traveller_X4_no
theorem dX4_traveller_0 : decode cX4_traveller 0 = .ok (.aload_n 0, 1) := by decide +kernel
theorem dX4_traveller_1 : decode cX4_traveller 1 = .ok (.iconst 0, 1) := by decide +kernel
theorem dX4_traveller_2 : decode cX4_traveller 2 = .ok (.putfield 34, 3) := by decide +kernel
theorem dX4_traveller_5 : decode cX4_traveller 5 = .ok (.aload_n 0, 1) := by decide +kernel
theorem dX4_traveller_6 : decode cX4_traveller 6 = .ok (.iload_n 1, 1) := by decide +kernel
theorem dX4_traveller_7 : decode cX4_traveller 7 = .ok (.invokevirtual 55, 3) := by decide +kernel
theorem dX4_traveller_10 : decode cX4_traveller 10 = .ok (.ifCond .eq 22, 3) := by decide +kernel
theorem dX4_traveller_13 : decode cX4_traveller 13 = .ok (.iload_n 2, 1) := by decide +kernel
theorem dX4_traveller_14 : decode cX4_traveller 14 = .ok (.iconst 0, 1) := by decide +kernel
theorem dX4_traveller_15 : decode cX4_traveller 15 = .ok (.bipush 6, 2) := by decide +kernel
theorem dX4_traveller_17 : decode cX4_traveller 17 = .ok (.invokestatic 41, 3) := by decide +kernel
theorem dX4_traveller_20 : decode cX4_traveller 20 = .ok (.ifCond .eq 12, 3) := by decide +kernel
theorem dX4_traveller_23 : decode cX4_traveller 23 = .ok (.aload_n 0, 1) := by decide +kernel
theorem dX4_traveller_24 : decode cX4_traveller 24 = .ok (.iload_n 1, 1) := by decide +kernel
theorem dX4_traveller_25 : decode cX4_traveller 25 = .ok (.iload_n 2, 1) := by decide +kernel
theorem dX4_traveller_26 : decode cX4_traveller 26 = .ok (.invokevirtual 86, 3) := by decide +kernel
theorem dX4_traveller_29 : decode cX4_traveller 29 = .ok (.goto 8, 3) := by decide +kernel
theorem dX4_traveller_32 : decode cX4_traveller 32 = .ok (.aload_n 0, 1) := by decide +kernel
theorem dX4_traveller_33 : decode cX4_traveller 33 = .ok (.iconst 1, 1) := by decide +kernel
theorem dX4_traveller_34 : decode cX4_traveller 34 = .ok (.invokevirtual 45, 3) := by decide +kernel
theorem dX4_traveller_37 : decode cX4_traveller 37 = .ok (.ireturn, 1) := by decide +kernel
set_option maxRecDepth 20000 in
theorem ggX4_count_X4_isIn : GoodIn wsX4_count wsX4_isIn := goodIn_r _ [6] (by decide +kernel) (by decide +kernel)
set_option maxRecDepth 20000 in
theorem gX4_count_X4_isIn : GoodIn wsX4_count (va_wsS RX4 41 yX4_isIn wsX4_isIn) := goodIn_app (goodIn_of _ (by decide +kernel)) ggX4_count_X4_isIn
set_option maxRecDepth 20000 in
theorem ggX4_count_X3_counted : GoodIn wsX4_count wsX3_counted := goodIn_r _ [11, 12, 13, 14, 15, 16, 17, 18, 19, 20, 21, 10, 22, 23, 24, 25, 26, 27, 28, 29, 30, 31, 32, 33, 34, 35, 36, 37, 50, 51, 52, 53, 54, 55, 56, 57, 58, 59, 60, 61, 42, 43, 44, 45, 46, 47, 48, 49] (by decide +kernel) (by decide +kernel)
set_option maxRecDepth 20000 in
theorem gX4_count_X3_counted : GoodIn wsX4_count (wsV RX4 89 RX3 yX3_counted wsX3_counted) := goodIn_app (goodIn_of _ (by decide +kernel)) ggX4_count_X3_counted
set_option maxRecDepth 20000 in
theorem ggX4_count_X4_no : GoodIn wsX4_count wsX4_no := goodIn_r _ [41, 1, 42, 43, 44, 45, 46, 47, 48, 49] (by decide +kernel) (by decide +kernel)
set_option maxRecDepth 20000 in
theorem gX4_count_X4_no : GoodIn wsX4_count (wsV RX4 45 RX4 yX4_no wsX4_no) := goodIn_app (goodIn_of _ (by decide +kernel)) ggX4_count_X4_no
theorem dX4_count_0 : decode cX4_count 0 = .ok (.aload_n 0, 1) := by decide +kernel
theorem dX4_count_1 : decode cX4_count 1 = .ok (.iconst 0, 1) := by decide +kernel
theorem dX4_count_2 : decode cX4_count 2 = .ok (.putfield 34, 3) := by decide +kernel
theorem dX4_count_5 : decode cX4_count 5 = .ok (.iload_n 1, 1) := by decide +kernel
theorem dX4_count_6 : decode cX4_count 6 = .ok (.iconst 0, 1) := by decide +kernel
theorem dX4_count_7 : decode cX4_count 7 = .ok (.bipush 11, 2) := by decide +kernel
theorem dX4_count_9 : decode cX4_count 9 = .ok (.invokestatic 41, 3) := by decide +kernel
theorem dX4_count_12 : decode cX4_count 12 = .ok (.ifCond .eq 14, 3) := by decide +kernel
theorem dX4_count_15 : decode cX4_count 15 = .ok (.aload_n 0, 1) := by decide +kernel
theorem dX4_count_16 : decode cX4_count 16 = .ok (.getfield 27, 3) := by decide +kernel
theorem dX4_count_19 : decode cX4_count 19 = .ok (.iload_n 1, 1) := by decide +kernel
theorem dX4_count_20 : decode cX4_count 20 = .ok (.invokevirtual 89, 3) := by decide +kernel
theorem dX4_count_23 : decode cX4_count 23 = .ok (.goto 8, 3) := by decide +kernel
theorem dX4_count_26 : decode cX4_count 26 = .ok (.aload_n 0, 1) := by decide +kernel
theorem dX4_count_27 : decode cX4_count 27 = .ok (.iconst 1, 1) := by decide +kernel
theorem dX4_count_28 : decode cX4_count 28 = .ok (.invokevirtual 45, 3) := by decide +kernel
theorem dX4_count_31 : decode cX4_count 31 = .ok (.ireturn, 1) := by decide +kernel
set_option maxRecDepth 20000 in
theorem ggX4_speed_X3_speed : GoodIn wsX4_speed wsX3_speed := goodIn_r _ [7, 8, 9, 10, 11, 12, 13, 22, 23, 24, 25, 26, 27, 28, 29, 30, 31, 32, 33] (by decide +kernel) (by decide +kernel)
set_option maxRecDepth 20000 in
theorem gX4_speed_X3_speed : GoodIn wsX4_speed (wsV RX4 92 RX3 yX3_speed wsX3_speed) := goodIn_app (goodIn_of _ (by decide +kernel)) ggX4_speed_X3_speed
theorem dX4_speed_0 : decode cX4_speed 0 = .ok (.aload_n 0, 1) := by decide +kernel
theorem dX4_speed_1 : decode cX4_speed 1 = .ok (.iconst 0, 1) := by decide +kernel
theorem dX4_speed_2 : decode cX4_speed 2 = .ok (.putfield 34, 3) := by decide +kernel
theorem dX4_speed_5 : decode cX4_speed 5 = .ok (.aload_n 0, 1) := by decide +kernel
theorem dX4_speed_6 : decode cX4_speed 6 = .ok (.getfield 27, 3) := by decide +kernel
theorem dX4_speed_9 : decode cX4_speed 9 = .ok (.iload_n 1, 1) := by decide +kernel
theorem dX4_speed_10 : decode cX4_speed 10 = .ok (.invokevirtual 92, 3) := by decide +kernel
theorem dX4_speed_13 : decode cX4_speed 13 = .ok (.ireturn, 1) := by decide +kernel
set_option maxRecDepth 20000 in
theorem ggX4_pass_X4_isIn : GoodIn wsX4_pass wsX4_isIn := goodIn_r _ [6] (by decide +kernel) (by decide +kernel)
set_option maxRecDepth 20000 in
theorem gX4_pass_X4_isIn : GoodIn wsX4_pass (va_wsS RX4 41 yX4_isIn wsX4_isIn) := goodIn_app (goodIn_of _ (by decide +kernel)) ggX4_pass_X4_isIn
set_option maxRecDepth 20000 in
theorem ggX4_pass_X4_no : GoodIn wsX4_pass wsX4_no := goodIn_r _ [10, 1, 59, 60, 61, 62, 63, 64, 65, 66] (by decide +kernel) (by decide +kernel)
set_option maxRecDepth 20000 in
theorem gX4_pass_X4_no : GoodIn wsX4_pass (wsV RX4 45 RX4 yX4_no wsX4_no) := goodIn_app (goodIn_of _ (by decide +kernel)) ggX4_pass_X4_no
set_option maxRecDepth 20000 in
theorem ggX4_pass_X3_are : GoodIn wsX4_pass wsX3_are := goodIn_r _ [15, 16, 17, 67, 68, 69, 70, 71, 72, 73, 74, 75, 76, 77, 78, 59, 60, 61, 62, 63, 64, 65, 66] (by decide +kernel) (by decide +kernel)
set_option maxRecDepth 20000 in
theorem gX4_pass_X3_are : GoodIn wsX4_pass (wsV RX4 96 RX3 yX3_are wsX3_are) := goodIn_app (goodIn_of _ (by decide +kernel)) ggX4_pass_X3_are
set_option maxRecDepth 20000 in
theorem ggX4_pass_X3_pass_ : GoodIn wsX4_pass wsX3_pass_ := goodIn_r _ [21, 22, 23, 24, 14, 25, 26, 27, 17, 28, 29, 16, 30, 31, 32, 33, 34, 35, 36, 37, 38, 39, 40, 41, 42, 43, 44, 45, 46, 47, 48, 49, 50, 51, 52, 53, 54, 55, 56, 57, 58, 67, 68, 69, 70, 71, 72, 73, 74, 75, 76, 77, 78, 59, 60, 61, 62, 63, 64, 65, 66] (by decide +kernel) (by decide +kernel)
set_option maxRecDepth 20000 in
theorem gX4_pass_X3_pass_ : GoodIn wsX4_pass (wsV RX4 99 RX3 yX3_pass_ wsX3_pass_) := goodIn_app (goodIn_of _ (by decide +kernel)) ggX4_pass_X3_pass_
theorem dX4_pass_0 : decode cX4_pass 0 = .ok (.aload_n 0, 1) := by decide +kernel
theorem dX4_pass_1 : decode cX4_pass 1 = .ok (.iconst 0, 1) := by decide +kernel
theorem dX4_pass_2 : decode cX4_pass 2 = .ok (.putfield 34, 3) := by decide +kernel
theorem dX4_pass_5 : decode cX4_pass 5 = .ok (.iload_n 1, 1) := by decide +kernel
theorem dX4_pass_6 : decode cX4_pass 6 = .ok (.iconst 1, 1) := by decide +kernel
theorem dX4_pass_7 : decode cX4_pass 7 = .ok (.sipush 240, 3) := by decide +kernel
theorem dX4_pass_10 : decode cX4_pass 10 = .ok (.invokestatic 41, 3) := by decide +kernel
theorem dX4_pass_13 : decode cX4_pass 13 = .ok (.ifCond .ne 9, 3) := by decide +kernel
theorem dX4_pass_16 : decode cX4_pass 16 = .ok (.aload_n 0, 1) := by decide +kernel
theorem dX4_pass_17 : decode cX4_pass 17 = .ok (.iconst 1, 1) := by decide +kernel
theorem dX4_pass_18 : decode cX4_pass 18 = .ok (.invokevirtual 45, 3) := by decide +kernel
theorem dX4_pass_21 : decode cX4_pass 21 = .ok (.ireturn, 1) := by decide +kernel
theorem dX4_pass_22 : decode cX4_pass 22 = .ok (.aload_n 0, 1) := by decide +kernel
theorem dX4_pass_23 : decode cX4_pass 23 = .ok (.getfield 27, 3) := by decide +kernel
theorem dX4_pass_26 : decode cX4_pass 26 = .ok (.iconst 2, 1) := by decide +kernel
theorem dX4_pass_27 : decode cX4_pass 27 = .ok (.iconst 2, 1) := by decide +kernel
theorem dX4_pass_28 : decode cX4_pass 28 = .ok (.invokevirtual 96, 3) := by decide +kernel
theorem dX4_pass_31 : decode cX4_pass 31 = .ok (.istore_n 2, 1) := by decide +kernel
theorem dX4_pass_32 : decode cX4_pass 32 = .ok (.aload_n 0, 1) := by decide +kernel
theorem dX4_pass_33 : decode cX4_pass 33 = .ok (.getfield 27, 3) := by decide +kernel
theorem dX4_pass_36 : decode cX4_pass 36 = .ok (.iload_n 1, 1) := by decide +kernel
theorem dX4_pass_37 : decode cX4_pass 37 = .ok (.invokevirtual 99, 3) := by decide +kernel
theorem dX4_pass_40 : decode cX4_pass 40 = .ok (.aload_n 0, 1) := by decide +kernel
theorem dX4_pass_41 : decode cX4_pass 41 = .ok (.getfield 27, 3) := by decide +kernel
theorem dX4_pass_44 : decode cX4_pass 44 = .ok (.iconst 2, 1) := by decide +kernel
theorem dX4_pass_45 : decode cX4_pass 45 = .ok (.iconst 2, 1) := by decide +kernel
theorem dX4_pass_46 : decode cX4_pass 46 = .ok (.invokevirtual 96, 3) := by decide +kernel
theorem dX4_pass_49 : decode cX4_pass 49 = .ok (.iload_n 2, 1) := by decide +kernel
theorem dX4_pass_50 : decode cX4_pass 50 = .ok (.isub, 1) := by decide +kernel
theorem dX4_pass_51 : decode cX4_pass 51 = .ok (.ireturn, 1) := by decide +kernel
set_option maxRecDepth 20000 in
theorem ggX4_when_X4_isTraveller : GoodIn wsX4_when wsX4_isTraveller := goodIn_r _ [8, 9, 10, 11, 7, 12, 69, 70, 71, 72, 73, 74, 75, 76] (by decide +kernel) (by decide +kernel)
set_option maxRecDepth 20000 in
theorem gX4_when_X4_isTraveller : GoodIn wsX4_when (wsV RX4 55 RX4 yX4_isTraveller wsX4_isTraveller) := goodIn_app (goodIn_of _ (by decide +kernel)) ggX4_when_X4_isTraveller
set_option maxRecDepth 20000 in
theorem ggX4_when_X4_no : GoodIn wsX4_when wsX4_no := goodIn_r _ [16, 1, 69, 70, 71, 72, 73, 74, 75, 76] (by decide +kernel) (by decide +kernel)
set_option maxRecDepth 20000 in
theorem gX4_when_X4_no : GoodIn wsX4_when (wsV RX4 45 RX4 yX4_no wsX4_no) := goodIn_app (goodIn_of _ (by decide +kernel)) ggX4_when_X4_no
set_option maxRecDepth 20000 in
theorem ggX4_when_X3_become : GoodIn wsX4_when wsX3_become := goodIn_r _ [21, 22, 23, 24, 25, 26, 27, 28, 29, 30, 31, 32, 33, 34, 35, 20, 36, 37, 38, 39, 40, 77, 78, 79, 80, 81, 82, 83, 84, 85, 86, 87, 88] (by decide +kernel) (by decide +kernel)
set_option maxRecDepth 20000 in
theorem gX4_when_X3_become : GoodIn wsX4_when (wsV RX4 103 RX3 yX3_become wsX3_become) := goodIn_app (goodIn_of _ (by decide +kernel)) ggX4_when_X3_become
set_option maxRecDepth 20000 in
theorem ggX4_when_X3_pass : GoodIn wsX4_when wsX3_pass := goodIn_r _ [44, 27, 31, 29, 32, 22, 45, 30, 25, 46, 47, 48, 49, 50, 51, 52, 53, 54, 55, 20, 56, 26, 28, 57, 58, 59, 60, 61, 62, 63, 64, 23, 65, 66, 67, 68, 24, 77, 78, 79, 80, 81, 82, 83, 84, 85, 86, 87, 88, 69, 70, 71, 72, 73, 74, 75, 76] (by decide +kernel) (by decide +kernel)
set_option maxRecDepth 20000 in
theorem gX4_when_X3_pass : GoodIn wsX4_when (wsV RX4 107 RX3 yX3_pass wsX3_pass) := goodIn_app (goodIn_of _ (by decide +kernel)) ggX4_when_X3_pass
theorem dX4_when_0 : decode cX4_when 0 = .ok (.aload_n 0, 1) := by decide +kernel
theorem dX4_when_1 : decode cX4_when 1 = .ok (.iconst 0, 1) := by decide +kernel
theorem dX4_when_2 : decode cX4_when 2 = .ok (.putfield 34, 3) := by decide +kernel
theorem dX4_when_5 : decode cX4_when 5 = .ok (.aload_n 0, 1) := by decide +kernel
theorem dX4_when_6 : decode cX4_when 6 = .ok (.iload_n 1, 1) := by decide +kernel
theorem dX4_when_7 : decode cX4_when 7 = .ok (.invokevirtual 55, 3) := by decide +kernel
theorem dX4_when_10 : decode cX4_when 10 = .ok (.ifCond .ne 9, 3) := by decide +kernel
theorem dX4_when_13 : decode cX4_when 13 = .ok (.aload_n 0, 1) := by decide +kernel
theorem dX4_when_14 : decode cX4_when 14 = .ok (.iconst 1, 1) := by decide +kernel
theorem dX4_when_15 : decode cX4_when 15 = .ok (.invokevirtual 45, 3) := by decide +kernel
theorem dX4_when_18 : decode cX4_when 18 = .ok (.ireturn, 1) := by decide +kernel
theorem dX4_when_19 : decode cX4_when 19 = .ok (.aload_n 0, 1) := by decide +kernel
theorem dX4_when_20 : decode cX4_when 20 = .ok (.getfield 31, 3) := by decide +kernel
theorem dX4_when_23 : decode cX4_when 23 = .ok (.aload_n 0, 1) := by decide +kernel
theorem dX4_when_24 : decode cX4_when 24 = .ok (.getfield 27, 3) := by decide +kernel
theorem dX4_when_27 : decode cX4_when 27 = .ok (.invokevirtual 103, 3) := by decide +kernel
theorem dX4_when_30 : decode cX4_when 30 = .ok (.iconst 0, 1) := by decide +kernel
theorem dX4_when_31 : decode cX4_when 31 = .ok (.istore_n 2, 1) := by decide +kernel
theorem dX4_when_32 : decode cX4_when 32 = .ok (.iload_n 2, 1) := by decide +kernel
theorem dX4_when_33 : decode cX4_when 33 = .ok (.sipush 400, 3) := by decide +kernel
theorem dX4_when_36 : decode cX4_when 36 = .ok (.if_icmp .gt 31, 3) := by decide +kernel
theorem dX4_when_39 : decode cX4_when 39 = .ok (.aload_n 0, 1) := by decide +kernel
theorem dX4_when_40 : decode cX4_when 40 = .ok (.getfield 31, 3) := by decide +kernel
theorem dX4_when_43 : decode cX4_when 43 = .ok (.getfield 59, 3) := by decide +kernel
theorem dX4_when_46 : decode cX4_when 46 = .ok (.iload_n 1, 1) := by decide +kernel
theorem dX4_when_47 : decode cX4_when 47 = .ok (.iaload, 1) := by decide +kernel
theorem dX4_when_48 : decode cX4_when 48 = .ok (.iconst 2, 1) := by decide +kernel
theorem dX4_when_49 : decode cX4_when 49 = .ok (.if_icmp .ne 5, 3) := by decide +kernel
theorem dX4_when_52 : decode cX4_when 52 = .ok (.iload_n 2, 1) := by decide +kernel
theorem dX4_when_53 : decode cX4_when 53 = .ok (.ireturn, 1) := by decide +kernel
theorem dX4_when_54 : decode cX4_when 54 = .ok (.aload_n 0, 1) := by decide +kernel
theorem dX4_when_55 : decode cX4_when 55 = .ok (.getfield 31, 3) := by decide +kernel
theorem dX4_when_58 : decode cX4_when 58 = .ok (.invokevirtual 107, 3) := by decide +kernel
theorem dX4_when_61 : decode cX4_when 61 = .ok (.iinc 2 1, 3) := by decide +kernel
theorem dX4_when_64 : decode cX4_when 64 = .ok (.goto (-32), 3) := by decide +kernel
theorem dX4_when_67 : decode cX4_when 67 = .ok (.iconst (-1), 1) := by decide +kernel
theorem dX4_when_68 : decode cX4_when 68 = .ok (.ireturn, 1) := by decide +kernel
set_option maxRecDepth 20000 in
theorem ggX4_foresee_X4_isIn : GoodIn wsX4_foresee wsX4_isIn := goodIn_r _ [7] (by decide +kernel) (by decide +kernel)
set_option maxRecDepth 20000 in
theorem gX4_foresee_X4_isIn : GoodIn wsX4_foresee (va_wsS RX4 41 yX4_isIn wsX4_isIn) := goodIn_app (goodIn_of _ (by decide +kernel)) ggX4_foresee_X4_isIn
set_option maxRecDepth 20000 in
theorem ggX4_foresee_X4_no : GoodIn wsX4_foresee wsX4_no := goodIn_r _ [11, 1, 76, 77, 78, 79, 80, 81, 82, 83] (by decide +kernel) (by decide +kernel)
set_option maxRecDepth 20000 in
theorem gX4_foresee_X4_no : GoodIn wsX4_foresee (wsV RX4 45 RX4 yX4_no wsX4_no) := goodIn_app (goodIn_of _ (by decide +kernel)) ggX4_foresee_X4_no
set_option maxRecDepth 20000 in
theorem ggX4_foresee_X3_become : GoodIn wsX4_foresee wsX3_become := goodIn_r _ [16, 17, 18, 19, 20, 21, 22, 23, 24, 25, 26, 27, 28, 29, 30, 15, 31, 32, 33, 34, 35, 84, 85, 86, 87, 88, 89, 90, 91, 92, 93, 94, 95] (by decide +kernel) (by decide +kernel)
set_option maxRecDepth 20000 in
theorem gX4_foresee_X3_become : GoodIn wsX4_foresee (wsV RX4 103 RX3 yX3_become wsX3_become) := goodIn_app (goodIn_of _ (by decide +kernel)) ggX4_foresee_X3_become
set_option maxRecDepth 20000 in
theorem ggX4_foresee_X3_pass_ : GoodIn wsX4_foresee wsX3_pass_ := goodIn_r _ [39, 40, 41, 42, 15, 43, 22, 26, 24, 27, 17, 44, 25, 20, 45, 46, 47, 48, 49, 50, 51, 52, 53, 54, 55, 21, 23, 56, 57, 58, 59, 60, 61, 62, 63, 18, 64, 65, 66, 67, 19, 84, 85, 86, 87, 88, 89, 90, 91, 92, 93, 94, 95, 76, 77, 78, 79, 80, 81, 82, 83] (by decide +kernel) (by decide +kernel)
set_option maxRecDepth 20000 in
theorem gX4_foresee_X3_pass_ : GoodIn wsX4_foresee (wsV RX4 99 RX3 yX3_pass_ wsX3_pass_) := goodIn_app (goodIn_of _ (by decide +kernel)) ggX4_foresee_X3_pass_
set_option maxRecDepth 20000 in
theorem ggX4_foresee_X3_are : GoodIn wsX4_foresee wsX3_are := goodIn_r _ [71, 44, 24, 84, 85, 86, 87, 88, 89, 90, 91, 92, 93, 94, 95, 76, 77, 78, 79, 80, 81, 82, 83] (by decide +kernel) (by decide +kernel)
set_option maxRecDepth 20000 in
theorem gX4_foresee_X3_are : GoodIn wsX4_foresee (wsV RX4 96 RX3 yX3_are wsX3_are) := goodIn_app (goodIn_of _ (by decide +kernel)) ggX4_foresee_X3_are
set_option maxRecDepth 20000 in
theorem ggX4_foresee_X3_sumWaited : GoodIn wsX4_foresee wsX3_sumWaited := goodIn_r _ [75, 44, 25, 84, 85, 86, 87, 88, 89, 90, 91, 92, 93, 94, 95, 76, 77, 78, 79, 80, 81, 82, 83] (by decide +kernel) (by decide +kernel)
set_option maxRecDepth 20000 in
theorem gX4_foresee_X3_sumWaited : GoodIn wsX4_foresee (wsV RX4 109 RX3 yX3_sumWaited wsX3_sumWaited) := goodIn_app (goodIn_of _ (by decide +kernel)) ggX4_foresee_X3_sumWaited
theorem dX4_foresee_0 : decode cX4_foresee 0 = .ok (.aload_n 0, 1) := by decide +kernel
theorem dX4_foresee_1 : decode cX4_foresee 1 = .ok (.iconst 0, 1) := by decide +kernel
theorem dX4_foresee_2 : decode cX4_foresee 2 = .ok (.putfield 34, 3) := by decide +kernel
theorem dX4_foresee_5 : decode cX4_foresee 5 = .ok (.iload_n 1, 1) := by decide +kernel
theorem dX4_foresee_6 : decode cX4_foresee 6 = .ok (.iconst 1, 1) := by decide +kernel
theorem dX4_foresee_7 : decode cX4_foresee 7 = .ok (.sipush 240, 3) := by decide +kernel
theorem dX4_foresee_10 : decode cX4_foresee 10 = .ok (.invokestatic 41, 3) := by decide +kernel
theorem dX4_foresee_13 : decode cX4_foresee 13 = .ok (.ifCond .ne 9, 3) := by decide +kernel
theorem dX4_foresee_16 : decode cX4_foresee 16 = .ok (.aload_n 0, 1) := by decide +kernel
theorem dX4_foresee_17 : decode cX4_foresee 17 = .ok (.iconst 1, 1) := by decide +kernel
theorem dX4_foresee_18 : decode cX4_foresee 18 = .ok (.invokevirtual 45, 3) := by decide +kernel
theorem dX4_foresee_21 : decode cX4_foresee 21 = .ok (.ireturn, 1) := by decide +kernel
theorem dX4_foresee_22 : decode cX4_foresee 22 = .ok (.iload_n 2, 1) := by decide +kernel
theorem dX4_foresee_23 : decode cX4_foresee 23 = .ok (.iconst 0, 1) := by decide +kernel
theorem dX4_foresee_24 : decode cX4_foresee 24 = .ok (.iconst 3, 1) := by decide +kernel
theorem dX4_foresee_25 : decode cX4_foresee 25 = .ok (.invokestatic 41, 3) := by decide +kernel
theorem dX4_foresee_28 : decode cX4_foresee 28 = .ok (.ifCond .ne 9, 3) := by decide +kernel
theorem dX4_foresee_31 : decode cX4_foresee 31 = .ok (.aload_n 0, 1) := by decide +kernel
theorem dX4_foresee_32 : decode cX4_foresee 32 = .ok (.iconst 2, 1) := by decide +kernel
theorem dX4_foresee_33 : decode cX4_foresee 33 = .ok (.invokevirtual 45, 3) := by decide +kernel
theorem dX4_foresee_36 : decode cX4_foresee 36 = .ok (.ireturn, 1) := by decide +kernel
theorem dX4_foresee_37 : decode cX4_foresee 37 = .ok (.aload_n 0, 1) := by decide +kernel
theorem dX4_foresee_38 : decode cX4_foresee 38 = .ok (.getfield 31, 3) := by decide +kernel
theorem dX4_foresee_41 : decode cX4_foresee 41 = .ok (.aload_n 0, 1) := by decide +kernel
theorem dX4_foresee_42 : decode cX4_foresee 42 = .ok (.getfield 27, 3) := by decide +kernel
theorem dX4_foresee_45 : decode cX4_foresee 45 = .ok (.invokevirtual 103, 3) := by decide +kernel
theorem dX4_foresee_48 : decode cX4_foresee 48 = .ok (.aload_n 0, 1) := by decide +kernel
theorem dX4_foresee_49 : decode cX4_foresee 49 = .ok (.getfield 31, 3) := by decide +kernel
theorem dX4_foresee_52 : decode cX4_foresee 52 = .ok (.iload_n 1, 1) := by decide +kernel
theorem dX4_foresee_53 : decode cX4_foresee 53 = .ok (.invokevirtual 99, 3) := by decide +kernel
theorem dX4_foresee_56 : decode cX4_foresee 56 = .ok (.iload_n 2, 1) := by decide +kernel
theorem dX4_foresee_57 : decode cX4_foresee 57 = .ok (.ifCond .ne 23, 3) := by decide +kernel
theorem dX4_foresee_60 : decode cX4_foresee 60 = .ok (.aload_n 0, 1) := by decide +kernel
theorem dX4_foresee_61 : decode cX4_foresee 61 = .ok (.getfield 31, 3) := by decide +kernel
theorem dX4_foresee_64 : decode cX4_foresee 64 = .ok (.iconst 2, 1) := by decide +kernel
theorem dX4_foresee_65 : decode cX4_foresee 65 = .ok (.iconst 2, 1) := by decide +kernel
theorem dX4_foresee_66 : decode cX4_foresee 66 = .ok (.invokevirtual 96, 3) := by decide +kernel
theorem dX4_foresee_69 : decode cX4_foresee 69 = .ok (.aload_n 0, 1) := by decide +kernel
theorem dX4_foresee_70 : decode cX4_foresee 70 = .ok (.getfield 27, 3) := by decide +kernel
theorem dX4_foresee_73 : decode cX4_foresee 73 = .ok (.iconst 2, 1) := by decide +kernel
theorem dX4_foresee_74 : decode cX4_foresee 74 = .ok (.iconst 2, 1) := by decide +kernel
theorem dX4_foresee_75 : decode cX4_foresee 75 = .ok (.invokevirtual 96, 3) := by decide +kernel
theorem dX4_foresee_78 : decode cX4_foresee 78 = .ok (.isub, 1) := by decide +kernel
theorem dX4_foresee_79 : decode cX4_foresee 79 = .ok (.ireturn, 1) := by decide +kernel
theorem dX4_foresee_80 : decode cX4_foresee 80 = .ok (.iload_n 2, 1) := by decide +kernel
theorem dX4_foresee_81 : decode cX4_foresee 81 = .ok (.iconst 1, 1) := by decide +kernel
theorem dX4_foresee_82 : decode cX4_foresee 82 = .ok (.if_icmp .ne 21, 3) := by decide +kernel
theorem dX4_foresee_85 : decode cX4_foresee 85 = .ok (.aload_n 0, 1) := by decide +kernel
theorem dX4_foresee_86 : decode cX4_foresee 86 = .ok (.getfield 31, 3) := by decide +kernel
theorem dX4_foresee_89 : decode cX4_foresee 89 = .ok (.invokevirtual 109, 3) := by decide +kernel
theorem dX4_foresee_92 : decode cX4_foresee 92 = .ok (.aload_n 0, 1) := by decide +kernel
theorem dX4_foresee_93 : decode cX4_foresee 93 = .ok (.getfield 27, 3) := by decide +kernel
theorem dX4_foresee_96 : decode cX4_foresee 96 = .ok (.invokevirtual 109, 3) := by decide +kernel
theorem dX4_foresee_99 : decode cX4_foresee 99 = .ok (.isub, 1) := by decide +kernel
theorem dX4_foresee_100 : decode cX4_foresee 100 = .ok (.goto 25, 3) := by decide +kernel
theorem dX4_foresee_103 : decode cX4_foresee 103 = .ok (.iload_n 2, 1) := by decide +kernel
theorem dX4_foresee_104 : decode cX4_foresee 104 = .ok (.iconst 2, 1) := by decide +kernel
theorem dX4_foresee_105 : decode cX4_foresee 105 = .ok (.if_icmp .ne 13, 3) := by decide +kernel
theorem dX4_foresee_108 : decode cX4_foresee 108 = .ok (.aload_n 0, 1) := by decide +kernel
theorem dX4_foresee_109 : decode cX4_foresee 109 = .ok (.getfield 31, 3) := by decide +kernel
theorem dX4_foresee_112 : decode cX4_foresee 112 = .ok (.getfield 68, 3) := by decide +kernel
theorem dX4_foresee_115 : decode cX4_foresee 115 = .ok (.goto 10, 3) := by decide +kernel
theorem dX4_foresee_118 : decode cX4_foresee 118 = .ok (.aload_n 0, 1) := by decide +kernel
theorem dX4_foresee_119 : decode cX4_foresee 119 = .ok (.getfield 31, 3) := by decide +kernel
theorem dX4_foresee_122 : decode cX4_foresee 122 = .ok (.getfield 74, 3) := by decide +kernel
theorem dX4_foresee_125 : decode cX4_foresee 125 = .ok (.ireturn, 1) := by decide +kernel
set_option maxRecDepth 20000 in
theorem ggX4_best_X3_become : GoodIn wsX4_best wsX3_become := goodIn_r _ [7, 8, 9, 10, 11, 12, 13, 14, 15, 16, 17, 18, 19, 20, 21, 6, 22, 23, 24, 25, 26, 71, 72, 73, 74, 75, 76, 77, 78, 79, 80, 81, 82] (by decide +kernel) (by decide +kernel)
set_option maxRecDepth 20000 in
theorem gX4_best_X3_become : GoodIn wsX4_best (wsV RX4 103 RX3 yX3_become wsX3_become) := goodIn_app (goodIn_of _ (by decide +kernel)) ggX4_best_X3_become
set_option maxRecDepth 20000 in
theorem ggX4_best_X3_pass_ : GoodIn wsX4_best wsX3_pass_ := goodIn_r _ [30, 31, 32, 33, 6, 34, 13, 17, 15, 18, 8, 35, 16, 11, 36, 37, 38, 39, 40, 41, 42, 43, 44, 45, 46, 12, 14, 47, 48, 49, 50, 51, 52, 53, 54, 9, 55, 56, 57, 58, 10, 71, 72, 73, 74, 75, 76, 77, 78, 79, 80, 81, 82, 63, 64, 65, 66, 67, 68, 69, 70] (by decide +kernel) (by decide +kernel)
set_option maxRecDepth 20000 in
theorem gX4_best_X3_pass_ : GoodIn wsX4_best (wsV RX4 99 RX3 yX3_pass_ wsX3_pass_) := goodIn_app (goodIn_of _ (by decide +kernel)) ggX4_best_X3_pass_
set_option maxRecDepth 20000 in
theorem ggX4_best_X3_sumWaited : GoodIn wsX4_best wsX3_sumWaited := goodIn_r _ [62, 35, 16, 71, 72, 73, 74, 75, 76, 77, 78, 79, 80, 81, 82, 63, 64, 65, 66, 67, 68, 69, 70] (by decide +kernel) (by decide +kernel)
set_option maxRecDepth 20000 in
theorem gX4_best_X3_sumWaited : GoodIn wsX4_best (wsV RX4 109 RX3 yX3_sumWaited wsX3_sumWaited) := goodIn_app (goodIn_of _ (by decide +kernel)) ggX4_best_X3_sumWaited
theorem dX4_best_0 : decode cX4_best 0 = .ok (.iconst (-1), 1) := by decide +kernel
theorem dX4_best_1 : decode cX4_best 1 = .ok (.istore 4, 2) := by decide +kernel
theorem dX4_best_3 : decode cX4_best 3 = .ok (.iconst 0, 1) := by decide +kernel
theorem dX4_best_4 : decode cX4_best 4 = .ok (.istore 5, 2) := by decide +kernel
theorem dX4_best_6 : decode cX4_best 6 = .ok (.iconst 0, 1) := by decide +kernel
theorem dX4_best_7 : decode cX4_best 7 = .ok (.istore 6, 2) := by decide +kernel
theorem dX4_best_9 : decode cX4_best 9 = .ok (.iload 6, 2) := by decide +kernel
theorem dX4_best_11 : decode cX4_best 11 = .ok (.iload_n 3, 1) := by decide +kernel
theorem dX4_best_12 : decode cX4_best 12 = .ok (.if_icmp .ge 86, 3) := by decide +kernel
theorem dX4_best_15 : decode cX4_best 15 = .ok (.aload_n 0, 1) := by decide +kernel
theorem dX4_best_16 : decode cX4_best 16 = .ok (.getfield 31, 3) := by decide +kernel
theorem dX4_best_19 : decode cX4_best 19 = .ok (.aload_n 0, 1) := by decide +kernel
theorem dX4_best_20 : decode cX4_best 20 = .ok (.getfield 27, 3) := by decide +kernel
theorem dX4_best_23 : decode cX4_best 23 = .ok (.invokevirtual 103, 3) := by decide +kernel
theorem dX4_best_26 : decode cX4_best 26 = .ok (.iload_n 2, 1) := by decide +kernel
theorem dX4_best_27 : decode cX4_best 27 = .ok (.ifCond .eq 15, 3) := by decide +kernel
theorem dX4_best_30 : decode cX4_best 30 = .ok (.aload_n 0, 1) := by decide +kernel
theorem dX4_best_31 : decode cX4_best 31 = .ok (.getfield 31, 3) := by decide +kernel
theorem dX4_best_34 : decode cX4_best 34 = .ok (.iload 6, 2) := by decide +kernel
theorem dX4_best_36 : decode cX4_best 36 = .ok (.putfield 65, 3) := by decide +kernel
theorem dX4_best_39 : decode cX4_best 39 = .ok (.goto 12, 3) := by decide +kernel
theorem dX4_best_42 : decode cX4_best 42 = .ok (.aload_n 0, 1) := by decide +kernel
theorem dX4_best_43 : decode cX4_best 43 = .ok (.getfield 31, 3) := by decide +kernel
theorem dX4_best_46 : decode cX4_best 46 = .ok (.iload 6, 2) := by decide +kernel
theorem dX4_best_48 : decode cX4_best 48 = .ok (.putfield 71, 3) := by decide +kernel
theorem dX4_best_51 : decode cX4_best 51 = .ok (.aload_n 0, 1) := by decide +kernel
theorem dX4_best_52 : decode cX4_best 52 = .ok (.getfield 31, 3) := by decide +kernel
theorem dX4_best_55 : decode cX4_best 55 = .ok (.iload_n 1, 1) := by decide +kernel
theorem dX4_best_56 : decode cX4_best 56 = .ok (.invokevirtual 99, 3) := by decide +kernel
theorem dX4_best_59 : decode cX4_best 59 = .ok (.aload_n 0, 1) := by decide +kernel
theorem dX4_best_60 : decode cX4_best 60 = .ok (.getfield 31, 3) := by decide +kernel
theorem dX4_best_63 : decode cX4_best 63 = .ok (.invokevirtual 109, 3) := by decide +kernel
theorem dX4_best_66 : decode cX4_best 66 = .ok (.istore 7, 2) := by decide +kernel
theorem dX4_best_68 : decode cX4_best 68 = .ok (.iload 4, 2) := by decide +kernel
theorem dX4_best_70 : decode cX4_best 70 = .ok (.iconst (-1), 1) := by decide +kernel
theorem dX4_best_71 : decode cX4_best 71 = .ok (.if_icmp .eq 13, 3) := by decide +kernel
theorem dX4_best_74 : decode cX4_best 74 = .ok (.iload 7, 2) := by decide +kernel
theorem dX4_best_76 : decode cX4_best 76 = .ok (.iload 5, 2) := by decide +kernel
theorem dX4_best_78 : decode cX4_best 78 = .ok (.if_icmp .lt 6, 3) := by decide +kernel
theorem dX4_best_81 : decode cX4_best 81 = .ok (.goto 11, 3) := by decide +kernel
theorem dX4_best_84 : decode cX4_best 84 = .ok (.iload 6, 2) := by decide +kernel
theorem dX4_best_86 : decode cX4_best 86 = .ok (.istore 4, 2) := by decide +kernel
theorem dX4_best_88 : decode cX4_best 88 = .ok (.iload 7, 2) := by decide +kernel
theorem dX4_best_90 : decode cX4_best 90 = .ok (.istore 5, 2) := by decide +kernel
theorem dX4_best_92 : decode cX4_best 92 = .ok (.iinc 6 1, 3) := by decide +kernel
theorem dX4_best_95 : decode cX4_best 95 = .ok (.goto (-86), 3) := by decide +kernel
theorem dX4_best_98 : decode cX4_best 98 = .ok (.iload 4, 2) := by decide +kernel
theorem dX4_best_100 : decode cX4_best 100 = .ok (.ireturn, 1) := by decide +kernel
set_option maxRecDepth 20000 in
theorem ggX4_bestCode_X4_isIn : GoodIn wsX4_bestCode wsX4_isIn := goodIn_r _ [5] (by decide +kernel) (by decide +kernel)
set_option maxRecDepth 20000 in
theorem gX4_bestCode_X4_isIn : GoodIn wsX4_bestCode (va_wsS RX4 41 yX4_isIn wsX4_isIn) := goodIn_app (goodIn_of _ (by decide +kernel)) ggX4_bestCode_X4_isIn
set_option maxRecDepth 20000 in
theorem ggX4_bestCode_X4_best : GoodIn wsX4_bestCode wsX4_best := goodIn_r _ [9, 10, 11, 12, 13, 14, 15, 16, 17, 18, 19, 20, 21, 22, 23, 24, 25, 26, 27, 28, 29, 30, 31, 32, 33, 34, 35, 36, 37, 38, 39, 40, 41, 42, 43, 44, 45, 46, 47, 48, 49, 50, 51, 52, 53, 54, 55, 56, 57, 58, 59, 60, 61, 62, 63, 64, 65, 66, 67, 68, 69, 70, 71, 76, 77, 78, 79, 80, 81, 82, 83, 84, 85, 86, 87, 88, 89, 90, 91, 92, 93, 94, 95] (by decide +kernel) (by decide +kernel)
set_option maxRecDepth 20000 in
theorem gX4_bestCode_X4_best : GoodIn wsX4_bestCode (wsV RX4 113 RX4 yX4_best wsX4_best) := goodIn_app (goodIn_of _ (by decide +kernel)) ggX4_bestCode_X4_best
set_option maxRecDepth 20000 in
theorem ggX4_bestCode_X4_no : GoodIn wsX4_bestCode wsX4_no := goodIn_r _ [75, 1, 76, 77, 78, 79, 80, 81, 82, 83] (by decide +kernel) (by decide +kernel)
set_option maxRecDepth 20000 in
theorem gX4_bestCode_X4_no : GoodIn wsX4_bestCode (wsV RX4 45 RX4 yX4_no wsX4_no) := goodIn_app (goodIn_of _ (by decide +kernel)) ggX4_bestCode_X4_no
theorem dX4_bestCode_0 : decode cX4_bestCode 0 = .ok (.aload_n 0, 1) := by decide +kernel
theorem dX4_bestCode_1 : decode cX4_bestCode 1 = .ok (.iconst 0, 1) := by decide +kernel
theorem dX4_bestCode_2 : decode cX4_bestCode 2 = .ok (.putfield 34, 3) := by decide +kernel
theorem dX4_bestCode_5 : decode cX4_bestCode 5 = .ok (.iload_n 1, 1) := by decide +kernel
theorem dX4_bestCode_6 : decode cX4_bestCode 6 = .ok (.iconst 1, 1) := by decide +kernel
theorem dX4_bestCode_7 : decode cX4_bestCode 7 = .ok (.sipush 240, 3) := by decide +kernel
theorem dX4_bestCode_10 : decode cX4_bestCode 10 = .ok (.invokestatic 41, 3) := by decide +kernel
theorem dX4_bestCode_13 : decode cX4_bestCode 13 = .ok (.ifCond .eq 13, 3) := by decide +kernel
theorem dX4_bestCode_16 : decode cX4_bestCode 16 = .ok (.aload_n 0, 1) := by decide +kernel
theorem dX4_bestCode_17 : decode cX4_bestCode 17 = .ok (.iload_n 1, 1) := by decide +kernel
theorem dX4_bestCode_18 : decode cX4_bestCode 18 = .ok (.iconst 1, 1) := by decide +kernel
theorem dX4_bestCode_19 : decode cX4_bestCode 19 = .ok (.iconst 4, 1) := by decide +kernel
theorem dX4_bestCode_20 : decode cX4_bestCode 20 = .ok (.invokevirtual 113, 3) := by decide +kernel
theorem dX4_bestCode_23 : decode cX4_bestCode 23 = .ok (.goto 8, 3) := by decide +kernel
theorem dX4_bestCode_26 : decode cX4_bestCode 26 = .ok (.aload_n 0, 1) := by decide +kernel
theorem dX4_bestCode_27 : decode cX4_bestCode 27 = .ok (.iconst 1, 1) := by decide +kernel
theorem dX4_bestCode_28 : decode cX4_bestCode 28 = .ok (.invokevirtual 45, 3) := by decide +kernel
theorem dX4_bestCode_31 : decode cX4_bestCode 31 = .ok (.ireturn, 1) := by decide +kernel
set_option maxRecDepth 20000 in
theorem ggX4_bestPoise_X4_isIn : GoodIn wsX4_bestPoise wsX4_isIn := goodIn_r _ [5] (by decide +kernel) (by decide +kernel)
set_option maxRecDepth 20000 in
theorem gX4_bestPoise_X4_isIn : GoodIn wsX4_bestPoise (va_wsS RX4 41 yX4_isIn wsX4_isIn) := goodIn_app (goodIn_of _ (by decide +kernel)) ggX4_bestPoise_X4_isIn
set_option maxRecDepth 20000 in
theorem ggX4_bestPoise_X4_best : GoodIn wsX4_bestPoise wsX4_best := goodIn_r _ [9, 10, 11, 12, 13, 14, 15, 16, 17, 18, 19, 20, 21, 22, 23, 24, 25, 26, 27, 28, 29, 30, 31, 32, 33, 34, 35, 36, 37, 38, 39, 40, 41, 42, 43, 44, 45, 46, 47, 48, 49, 50, 51, 52, 53, 54, 55, 56, 57, 58, 59, 60, 61, 62, 63, 64, 65, 66, 67, 68, 69, 70, 71, 76, 77, 78, 79, 80, 81, 82, 83, 84, 85, 86, 87, 88, 89, 90, 91, 92, 93, 94, 95] (by decide +kernel) (by decide +kernel)
set_option maxRecDepth 20000 in
theorem gX4_bestPoise_X4_best : GoodIn wsX4_bestPoise (wsV RX4 113 RX4 yX4_best wsX4_best) := goodIn_app (goodIn_of _ (by decide +kernel)) ggX4_bestPoise_X4_best
set_option maxRecDepth 20000 in
theorem ggX4_bestPoise_X4_no : GoodIn wsX4_bestPoise wsX4_no := goodIn_r _ [75, 1, 76, 77, 78, 79, 80, 81, 82, 83] (by decide +kernel) (by decide +kernel)
set_option maxRecDepth 20000 in
theorem gX4_bestPoise_X4_no : GoodIn wsX4_bestPoise (wsV RX4 45 RX4 yX4_no wsX4_no) := goodIn_app (goodIn_of _ (by decide +kernel)) ggX4_bestPoise_X4_no
theorem dX4_bestPoise_0 : decode cX4_bestPoise 0 = .ok (.aload_n 0, 1) := by decide +kernel
theorem dX4_bestPoise_1 : decode cX4_bestPoise 1 = .ok (.iconst 0, 1) := by decide +kernel
theorem dX4_bestPoise_2 : decode cX4_bestPoise 2 = .ok (.putfield 34, 3) := by decide +kernel
theorem dX4_bestPoise_5 : decode cX4_bestPoise 5 = .ok (.iload_n 1, 1) := by decide +kernel
theorem dX4_bestPoise_6 : decode cX4_bestPoise 6 = .ok (.iconst 1, 1) := by decide +kernel
theorem dX4_bestPoise_7 : decode cX4_bestPoise 7 = .ok (.sipush 240, 3) := by decide +kernel
theorem dX4_bestPoise_10 : decode cX4_bestPoise 10 = .ok (.invokestatic 41, 3) := by decide +kernel
theorem dX4_bestPoise_13 : decode cX4_bestPoise 13 = .ok (.ifCond .eq 14, 3) := by decide +kernel
theorem dX4_bestPoise_16 : decode cX4_bestPoise 16 = .ok (.aload_n 0, 1) := by decide +kernel
theorem dX4_bestPoise_17 : decode cX4_bestPoise 17 = .ok (.iload_n 1, 1) := by decide +kernel
theorem dX4_bestPoise_18 : decode cX4_bestPoise 18 = .ok (.iconst 0, 1) := by decide +kernel
theorem dX4_bestPoise_19 : decode cX4_bestPoise 19 = .ok (.bipush 31, 2) := by decide +kernel
theorem dX4_bestPoise_21 : decode cX4_bestPoise 21 = .ok (.invokevirtual 113, 3) := by decide +kernel
theorem dX4_bestPoise_24 : decode cX4_bestPoise 24 = .ok (.goto 8, 3) := by decide +kernel
theorem dX4_bestPoise_27 : decode cX4_bestPoise 27 = .ok (.aload_n 0, 1) := by decide +kernel
theorem dX4_bestPoise_28 : decode cX4_bestPoise 28 = .ok (.iconst 1, 1) := by decide +kernel
theorem dX4_bestPoise_29 : decode cX4_bestPoise 29 = .ok (.invokevirtual 45, 3) := by decide +kernel
theorem dX4_bestPoise_32 : decode cX4_bestPoise 32 = .ok (.ireturn, 1) := by decide +kernel
set_option maxRecDepth 20000 in
theorem ggX4_mean_X3_sumWaited : GoodIn wsX4_mean wsX3_sumWaited := goodIn_r _ [8, 9, 10, 19, 20, 21, 22, 23, 24, 25, 26, 27, 28, 29, 30, 11, 12, 13, 14, 15, 16, 17, 18] (by decide +kernel) (by decide +kernel)
set_option maxRecDepth 20000 in
theorem gX4_mean_X3_sumWaited : GoodIn wsX4_mean (wsV RX4 109 RX3 yX3_sumWaited wsX3_sumWaited) := goodIn_app (goodIn_of _ (by decide +kernel)) ggX4_mean_X3_sumWaited
theorem dX4_mean_0 : decode cX4_mean 0 = .ok (.aload_n 0, 1) := by decide +kernel
theorem dX4_mean_1 : decode cX4_mean 1 = .ok (.iconst 0, 1) := by decide +kernel
theorem dX4_mean_2 : decode cX4_mean 2 = .ok (.putfield 34, 3) := by decide +kernel
theorem dX4_mean_5 : decode cX4_mean 5 = .ok (.aload_n 0, 1) := by decide +kernel
theorem dX4_mean_6 : decode cX4_mean 6 = .ok (.getfield 38, 3) := by decide +kernel
theorem dX4_mean_9 : decode cX4_mean 9 = .ok (.ifCond .ne 7, 3) := by decide +kernel
theorem dX4_mean_12 : decode cX4_mean 12 = .ok (.dconst 0, 1) := by decide +kernel
theorem dX4_mean_13 : decode cX4_mean 13 = .ok (.goto 17, 3) := by decide +kernel
theorem dX4_mean_16 : decode cX4_mean 16 = .ok (.aload_n 0, 1) := by decide +kernel
theorem dX4_mean_17 : decode cX4_mean 17 = .ok (.getfield 27, 3) := by decide +kernel
theorem dX4_mean_20 : decode cX4_mean 20 = .ok (.invokevirtual 109, 3) := by decide +kernel
theorem dX4_mean_23 : decode cX4_mean 23 = .ok (.i2d, 1) := by decide +kernel
theorem dX4_mean_24 : decode cX4_mean 24 = .ok (.aload_n 0, 1) := by decide +kernel
theorem dX4_mean_25 : decode cX4_mean 25 = .ok (.getfield 38, 3) := by decide +kernel
theorem dX4_mean_28 : decode cX4_mean 28 = .ok (.i2d, 1) := by decide +kernel
theorem dX4_mean_29 : decode cX4_mean 29 = .ok (.ddiv, 1) := by decide +kernel
theorem dX4_mean_30 : decode cX4_mean 30 = .ok (.dreturn, 1) := by decide +kernel
set_option maxRecDepth 20000 in
theorem ggX4_digest_X3_counted : GoodIn wsX4_digest wsX3_counted := goodIn_r _ [11, 12, 13, 14, 15, 16, 17, 18, 19, 20, 21, 10, 22, 23, 24, 25, 26, 27, 28, 29, 30, 31, 32, 33, 34, 35, 36, 37, 55, 56, 57, 58, 59, 60, 61, 62, 63, 64, 65, 66, 47, 48, 49, 50, 51, 52, 53, 54] (by decide +kernel) (by decide +kernel)
set_option maxRecDepth 20000 in
theorem gX4_digest_X3_counted : GoodIn wsX4_digest (wsV RX4 89 RX3 yX3_counted wsX3_counted) := goodIn_app (goodIn_of _ (by decide +kernel)) ggX4_digest_X3_counted
set_option maxRecDepth 20000 in
theorem ggX4_digest_X4_told : GoodIn wsX4_digest wsX4_told := goodIn_r _ [42, 43, 44, 45, 4, 46, 47, 48, 49, 50, 51, 52, 53, 54, 55, 56, 57, 58, 59, 60, 61, 62, 63, 64, 65, 66] (by decide +kernel) (by decide +kernel)
set_option maxRecDepth 20000 in
theorem gX4_digest_X4_told : GoodIn wsX4_digest (wsV RX4 86 RX4 yX4_told wsX4_told) := goodIn_app (goodIn_of _ (by decide +kernel)) ggX4_digest_X4_told
theorem dX4_digest_0 : decode cX4_digest 0 = .ok (.aload_n 0, 1) := by decide +kernel
theorem dX4_digest_1 : decode cX4_digest 1 = .ok (.iconst 0, 1) := by decide +kernel
theorem dX4_digest_2 : decode cX4_digest 2 = .ok (.putfield 34, 3) := by decide +kernel
theorem dX4_digest_5 : decode cX4_digest 5 = .ok (.ldc2_w 117, 3) := by decide +kernel
theorem dX4_digest_8 : decode cX4_digest 8 = .ok (.lstore_n 1, 1) := by decide +kernel
theorem dX4_digest_9 : decode cX4_digest 9 = .ok (.iconst 0, 1) := by decide +kernel
theorem dX4_digest_10 : decode cX4_digest 10 = .ok (.istore_n 3, 1) := by decide +kernel
theorem dX4_digest_11 : decode cX4_digest 11 = .ok (.iload_n 3, 1) := by decide +kernel
theorem dX4_digest_12 : decode cX4_digest 12 = .ok (.bipush 11, 2) := by decide +kernel
theorem dX4_digest_14 : decode cX4_digest 14 = .ok (.if_icmp .gt 25, 3) := by decide +kernel
theorem dX4_digest_17 : decode cX4_digest 17 = .ok (.lload_n 1, 1) := by decide +kernel
theorem dX4_digest_18 : decode cX4_digest 18 = .ok (.ldc2_w 119, 3) := by decide +kernel
theorem dX4_digest_21 : decode cX4_digest 21 = .ok (.lmul, 1) := by decide +kernel
theorem dX4_digest_22 : decode cX4_digest 22 = .ok (.aload_n 0, 1) := by decide +kernel
theorem dX4_digest_23 : decode cX4_digest 23 = .ok (.getfield 27, 3) := by decide +kernel
theorem dX4_digest_26 : decode cX4_digest 26 = .ok (.iload_n 3, 1) := by decide +kernel
theorem dX4_digest_27 : decode cX4_digest 27 = .ok (.invokevirtual 89, 3) := by decide +kernel
theorem dX4_digest_30 : decode cX4_digest 30 = .ok (.i2l, 1) := by decide +kernel
theorem dX4_digest_31 : decode cX4_digest 31 = .ok (.ladd, 1) := by decide +kernel
theorem dX4_digest_32 : decode cX4_digest 32 = .ok (.lstore_n 1, 1) := by decide +kernel
theorem dX4_digest_33 : decode cX4_digest 33 = .ok (.iinc 3 1, 3) := by decide +kernel
theorem dX4_digest_36 : decode cX4_digest 36 = .ok (.goto (-25), 3) := by decide +kernel
theorem dX4_digest_39 : decode cX4_digest 39 = .ok (.iconst 0, 1) := by decide +kernel
theorem dX4_digest_40 : decode cX4_digest 40 = .ok (.istore_n 3, 1) := by decide +kernel
theorem dX4_digest_41 : decode cX4_digest 41 = .ok (.iload_n 3, 1) := by decide +kernel
theorem dX4_digest_42 : decode cX4_digest 42 = .ok (.bipush 8, 2) := by decide +kernel
theorem dX4_digest_44 : decode cX4_digest 44 = .ok (.if_icmp .ge 23, 3) := by decide +kernel
theorem dX4_digest_47 : decode cX4_digest 47 = .ok (.lload_n 1, 1) := by decide +kernel
theorem dX4_digest_48 : decode cX4_digest 48 = .ok (.ldc2_w 119, 3) := by decide +kernel
theorem dX4_digest_51 : decode cX4_digest 51 = .ok (.lmul, 1) := by decide +kernel
theorem dX4_digest_52 : decode cX4_digest 52 = .ok (.aload_n 0, 1) := by decide +kernel
theorem dX4_digest_53 : decode cX4_digest 53 = .ok (.getfield 19, 3) := by decide +kernel
theorem dX4_digest_56 : decode cX4_digest 56 = .ok (.iload_n 3, 1) := by decide +kernel
theorem dX4_digest_57 : decode cX4_digest 57 = .ok (.iaload, 1) := by decide +kernel
theorem dX4_digest_58 : decode cX4_digest 58 = .ok (.i2l, 1) := by decide +kernel
theorem dX4_digest_59 : decode cX4_digest 59 = .ok (.ladd, 1) := by decide +kernel
theorem dX4_digest_60 : decode cX4_digest 60 = .ok (.lstore_n 1, 1) := by decide +kernel
theorem dX4_digest_61 : decode cX4_digest 61 = .ok (.iinc 3 1, 3) := by decide +kernel
theorem dX4_digest_64 : decode cX4_digest 64 = .ok (.goto (-23), 3) := by decide +kernel
theorem dX4_digest_67 : decode cX4_digest 67 = .ok (.iconst 0, 1) := by decide +kernel
theorem dX4_digest_68 : decode cX4_digest 68 = .ok (.istore_n 3, 1) := by decide +kernel
theorem dX4_digest_69 : decode cX4_digest 69 = .ok (.iload_n 3, 1) := by decide +kernel
theorem dX4_digest_70 : decode cX4_digest 70 = .ok (.aload_n 0, 1) := by decide +kernel
theorem dX4_digest_71 : decode cX4_digest 71 = .ok (.getfield 38, 3) := by decide +kernel
theorem dX4_digest_74 : decode cX4_digest 74 = .ok (.if_icmp .ge 40, 3) := by decide +kernel
theorem dX4_digest_77 : decode cX4_digest 77 = .ok (.iconst 0, 1) := by decide +kernel
theorem dX4_digest_78 : decode cX4_digest 78 = .ok (.istore 4, 2) := by decide +kernel
theorem dX4_digest_80 : decode cX4_digest 80 = .ok (.iload 4, 2) := by decide +kernel
theorem dX4_digest_82 : decode cX4_digest 82 = .ok (.bipush 6, 2) := by decide +kernel
theorem dX4_digest_84 : decode cX4_digest 84 = .ok (.if_icmp .gt 24, 3) := by decide +kernel
theorem dX4_digest_87 : decode cX4_digest 87 = .ok (.lload_n 1, 1) := by decide +kernel
theorem dX4_digest_88 : decode cX4_digest 88 = .ok (.ldc2_w 119, 3) := by decide +kernel
theorem dX4_digest_91 : decode cX4_digest 91 = .ok (.lmul, 1) := by decide +kernel
theorem dX4_digest_92 : decode cX4_digest 92 = .ok (.aload_n 0, 1) := by decide +kernel
theorem dX4_digest_93 : decode cX4_digest 93 = .ok (.iload_n 3, 1) := by decide +kernel
theorem dX4_digest_94 : decode cX4_digest 94 = .ok (.iload 4, 2) := by decide +kernel
theorem dX4_digest_96 : decode cX4_digest 96 = .ok (.invokevirtual 86, 3) := by decide +kernel
theorem dX4_digest_99 : decode cX4_digest 99 = .ok (.i2l, 1) := by decide +kernel
theorem dX4_digest_100 : decode cX4_digest 100 = .ok (.ladd, 1) := by decide +kernel
theorem dX4_digest_101 : decode cX4_digest 101 = .ok (.lstore_n 1, 1) := by decide +kernel
theorem dX4_digest_102 : decode cX4_digest 102 = .ok (.iinc 4 1, 3) := by decide +kernel
theorem dX4_digest_105 : decode cX4_digest 105 = .ok (.goto (-25), 3) := by decide +kernel
theorem dX4_digest_108 : decode cX4_digest 108 = .ok (.iinc 3 1, 3) := by decide +kernel
theorem dX4_digest_111 : decode cX4_digest 111 = .ok (.goto (-42), 3) := by decide +kernel
theorem dX4_digest_114 : decode cX4_digest 114 = .ok (.lload_n 1, 1) := by decide +kernel
theorem dX4_digest_115 : decode cX4_digest 115 = .ok (.lreturn, 1) := by decide +kernel
theorem dJ9_floorMod_7cf53_0 : decode cJ9_floorMod_7cf53 0 = .ok (.iload_n 0, 1) := by decide +kernel
theorem dJ9_floorMod_7cf53_1 : decode cJ9_floorMod_7cf53 1 = .ok (.iload_n 1, 1) := by decide +kernel
theorem dJ9_floorMod_7cf53_2 : decode cJ9_floorMod_7cf53 2 = .ok (.irem, 1) := by decide +kernel
theorem dJ9_floorMod_7cf53_3 : decode cJ9_floorMod_7cf53 3 = .ok (.istore_n 2, 1) := by decide +kernel
theorem dJ9_floorMod_7cf53_4 : decode cJ9_floorMod_7cf53 4 = .ok (.iload_n 0, 1) := by decide +kernel
theorem dJ9_floorMod_7cf53_5 : decode cJ9_floorMod_7cf53 5 = .ok (.iload_n 1, 1) := by decide +kernel
theorem dJ9_floorMod_7cf53_6 : decode cJ9_floorMod_7cf53 6 = .ok (.ixor, 1) := by decide +kernel
theorem dJ9_floorMod_7cf53_7 : decode cJ9_floorMod_7cf53 7 = .ok (.ifCond .ge 11, 3) := by decide +kernel
theorem dJ9_floorMod_7cf53_10 : decode cJ9_floorMod_7cf53 10 = .ok (.iload_n 2, 1) := by decide +kernel
theorem dJ9_floorMod_7cf53_11 : decode cJ9_floorMod_7cf53 11 = .ok (.ifCond .eq 7, 3) := by decide +kernel
theorem dJ9_floorMod_7cf53_14 : decode cJ9_floorMod_7cf53 14 = .ok (.iload_n 2, 1) := by decide +kernel
theorem dJ9_floorMod_7cf53_15 : decode cJ9_floorMod_7cf53 15 = .ok (.iload_n 1, 1) := by decide +kernel
theorem dJ9_floorMod_7cf53_16 : decode cJ9_floorMod_7cf53 16 = .ok (.iadd, 1) := by decide +kernel
theorem dJ9_floorMod_7cf53_17 : decode cJ9_floorMod_7cf53 17 = .ok (.ireturn, 1) := by decide +kernel
theorem dJ9_floorMod_7cf53_18 : decode cJ9_floorMod_7cf53 18 = .ok (.iload_n 2, 1) := by decide +kernel
theorem dJ9_floorMod_7cf53_19 : decode cJ9_floorMod_7cf53 19 = .ok (.ireturn, 1) := by decide +kernel
theorem dJ9_max_7cf53_0 : decode cJ9_max_7cf53 0 = .ok (.iload_n 0, 1) := by decide +kernel
theorem dJ9_max_7cf53_1 : decode cJ9_max_7cf53 1 = .ok (.iload_n 1, 1) := by decide +kernel
theorem dJ9_max_7cf53_2 : decode cJ9_max_7cf53 2 = .ok (.if_icmp .lt 7, 3) := by decide +kernel
theorem dJ9_max_7cf53_5 : decode cJ9_max_7cf53 5 = .ok (.iload_n 0, 1) := by decide +kernel
theorem dJ9_max_7cf53_6 : decode cJ9_max_7cf53 6 = .ok (.goto 4, 3) := by decide +kernel
theorem dJ9_max_7cf53_9 : decode cJ9_max_7cf53 9 = .ok (.iload_n 1, 1) := by decide +kernel
theorem dJ9_max_7cf53_10 : decode cJ9_max_7cf53 10 = .ok (.ireturn, 1) := by decide +kernel
theorem dJ9_min_7cf53_0 : decode cJ9_min_7cf53 0 = .ok (.iload_n 0, 1) := by decide +kernel
theorem dJ9_min_7cf53_1 : decode cJ9_min_7cf53 1 = .ok (.iload_n 1, 1) := by decide +kernel
theorem dJ9_min_7cf53_2 : decode cJ9_min_7cf53 2 = .ok (.if_icmp .gt 7, 3) := by decide +kernel
theorem dJ9_min_7cf53_5 : decode cJ9_min_7cf53 5 = .ok (.iload_n 0, 1) := by decide +kernel
theorem dJ9_min_7cf53_6 : decode cJ9_min_7cf53 6 = .ok (.goto 4, 3) := by decide +kernel
theorem dJ9_min_7cf53_9 : decode cJ9_min_7cf53 9 = .ok (.iload_n 1, 1) := by decide +kernel
theorem dJ9_min_7cf53_10 : decode cJ9_min_7cf53 10 = .ok (.ireturn, 1) := by decide +kernel
set_option maxRecDepth 20000 in
theorem ggL_come_X2_come : GoodIn wsL_come wsX2_come := goodIn_ca (goodIn_ca (goodIn_r _ [7, 8, 9, 10, 11, 12, 13, 14, 15, 16, 17, 18, 19, 20, 21, 22, 23, 24, 25, 26, 27, 28, 29, 30, 31, 32, 33, 34, 35, 36, 37, 38, 39, 40, 41, 42, 43, 44, 45, 46, 47, 48, 49, 50, 51, 52, 53, 54, 55, 56, 57, 58, 59] (by decide +kernel) (by decide +kernel)) (goodIn_sub (fun _ h => List.mem_cons_of_mem _ (List.mem_append_left _ (List.mem_append_right _ h))) (by decide +kernel))) (goodIn_sub (fun _ h => List.mem_cons_of_mem _ (List.mem_append_right _ h)) (by decide +kernel))
set_option maxRecDepth 20000 in
theorem gL_come_X2_come : GoodIn wsL_come (wsV RL 7 RX2 yX2_come wsX2_come) := goodIn_app (goodIn_of _ (by decide +kernel)) ggL_come_X2_come
theorem dL_come_0 : decode cL_come 0 = .ok (.aload_n 3, 1) := by decide +kernel
theorem dL_come_1 : decode cL_come 1 = .ok (.iconst 0, 1) := by decide +kernel
theorem dL_come_2 : decode cL_come 2 = .ok (.aload_n 0, 1) := by decide +kernel
theorem dL_come_3 : decode cL_come 3 = .ok (.iload_n 1, 1) := by decide +kernel
theorem dL_come_4 : decode cL_come 4 = .ok (.iload_n 2, 1) := by decide +kernel
theorem dL_come_5 : decode cL_come 5 = .ok (.invokevirtual 7, 3) := by decide +kernel
theorem dL_come_8 : decode cL_come 8 = .ok (.i2l, 1) := by decide +kernel
theorem dL_come_9 : decode cL_come 9 = .ok (.lastore, 1) := by decide +kernel
theorem dL_come_10 : decode cL_come 10 = .ok (.goto 11, 3) := by decide +kernel
theorem dL_come_13 : decode cL_come 13 = .ok (.astore 4, 2) := by decide +kernel
theorem dL_come_15 : decode cL_come 15 = .ok (.iconst 1, 1) := by decide +kernel
theorem dL_come_16 : decode cL_come 16 = .ok (.ireturn, 1) := by decide +kernel
theorem dL_come_17 : decode cL_come 17 = .ok (.astore 4, 2) := by decide +kernel
theorem dL_come_19 : decode cL_come 19 = .ok (.iconst 2, 1) := by decide +kernel
theorem dL_come_20 : decode cL_come 20 = .ok (.ireturn, 1) := by decide +kernel
theorem dL_come_21 : decode cL_come 21 = .ok (.iconst 0, 1) := by decide +kernel
theorem dL_come_22 : decode cL_come 22 = .ok (.ireturn, 1) := by decide +kernel
set_option maxRecDepth 20000 in
theorem ggL_leave_X2_leave : GoodIn wsL_leave wsX2_leave := goodIn_ca (goodIn_ca (goodIn_r _ [7, 8, 9, 10, 11, 12, 13, 14, 15, 16, 17, 18, 19, 20, 21, 22, 23, 24, 25, 26, 27, 28, 29, 30, 31, 32, 33, 34, 35, 36, 37, 38, 39, 40, 41, 42, 43, 44, 45, 46, 47, 48, 49, 50, 51, 52, 53, 54, 55, 56, 57, 58, 59, 60, 61, 62, 63, 64, 65, 66] (by decide +kernel) (by decide +kernel)) (goodIn_sub (fun _ h => List.mem_cons_of_mem _ (List.mem_append_left _ (List.mem_append_right _ h))) (by decide +kernel))) (goodIn_sub (fun _ h => List.mem_cons_of_mem _ (List.mem_append_right _ h)) (by decide +kernel))
set_option maxRecDepth 20000 in
theorem gL_leave_X2_leave : GoodIn wsL_leave (wsV RL 17 RX2 yX2_leave wsX2_leave) := goodIn_app (goodIn_of _ (by decide +kernel)) ggL_leave_X2_leave
theorem dL_leave_0 : decode cL_leave 0 = .ok (.aload_n 2, 1) := by decide +kernel
theorem dL_leave_1 : decode cL_leave 1 = .ok (.iconst 0, 1) := by decide +kernel
theorem dL_leave_2 : decode cL_leave 2 = .ok (.aload_n 0, 1) := by decide +kernel
theorem dL_leave_3 : decode cL_leave 3 = .ok (.iload_n 1, 1) := by decide +kernel
theorem dL_leave_4 : decode cL_leave 4 = .ok (.invokevirtual 17, 3) := by decide +kernel
theorem dL_leave_7 : decode cL_leave 7 = .ok (.i2l, 1) := by decide +kernel
theorem dL_leave_8 : decode cL_leave 8 = .ok (.lastore, 1) := by decide +kernel
theorem dL_leave_9 : decode cL_leave 9 = .ok (.goto 9, 3) := by decide +kernel
theorem dL_leave_12 : decode cL_leave 12 = .ok (.astore_n 3, 1) := by decide +kernel
theorem dL_leave_13 : decode cL_leave 13 = .ok (.iconst 1, 1) := by decide +kernel
theorem dL_leave_14 : decode cL_leave 14 = .ok (.ireturn, 1) := by decide +kernel
theorem dL_leave_15 : decode cL_leave 15 = .ok (.astore_n 3, 1) := by decide +kernel
theorem dL_leave_16 : decode cL_leave 16 = .ok (.iconst 2, 1) := by decide +kernel
theorem dL_leave_17 : decode cL_leave 17 = .ok (.ireturn, 1) := by decide +kernel
theorem dL_leave_18 : decode cL_leave 18 = .ok (.iconst 0, 1) := by decide +kernel
theorem dL_leave_19 : decode cL_leave 19 = .ok (.ireturn, 1) := by decide +kernel
set_option maxRecDepth 20000 in
theorem ggL_ring_X2_ring : GoodIn wsL_ring wsX2_ring := goodIn_ca (goodIn_r _ [6, 7, 8, 9, 10, 11, 12, 13, 14, 15, 16, 17, 18, 19, 20, 21, 22, 23] (by decide +kernel) (by decide +kernel)) (goodIn_sub (fun _ h => List.mem_cons_of_mem _ (List.mem_append_right _ h)) (by decide +kernel))
set_option maxRecDepth 20000 in
theorem gL_ring_X2_ring : GoodIn wsL_ring (wsV RL 23 RX2 yX2_ring wsX2_ring) := goodIn_app (goodIn_of _ (by decide +kernel)) ggL_ring_X2_ring
theorem dL_ring_0 : decode cL_ring 0 = .ok (.aload_n 2, 1) := by decide +kernel
theorem dL_ring_1 : decode cL_ring 1 = .ok (.iconst 0, 1) := by decide +kernel
theorem dL_ring_2 : decode cL_ring 2 = .ok (.aload_n 0, 1) := by decide +kernel
theorem dL_ring_3 : decode cL_ring 3 = .ok (.iload_n 1, 1) := by decide +kernel
theorem dL_ring_4 : decode cL_ring 4 = .ok (.invokevirtual 23, 3) := by decide +kernel
theorem dL_ring_7 : decode cL_ring 7 = .ok (.i2l, 1) := by decide +kernel
theorem dL_ring_8 : decode cL_ring 8 = .ok (.lastore, 1) := by decide +kernel
theorem dL_ring_9 : decode cL_ring 9 = .ok (.goto 6, 3) := by decide +kernel
theorem dL_ring_12 : decode cL_ring 12 = .ok (.astore_n 3, 1) := by decide +kernel
theorem dL_ring_13 : decode cL_ring 13 = .ok (.iconst 1, 1) := by decide +kernel
theorem dL_ring_14 : decode cL_ring 14 = .ok (.ireturn, 1) := by decide +kernel
theorem dL_ring_15 : decode cL_ring 15 = .ok (.iconst 0, 1) := by decide +kernel
theorem dL_ring_16 : decode cL_ring 16 = .ok (.ireturn, 1) := by decide +kernel
set_option maxRecDepth 20000 in
theorem ggL_poise_X2_poise : GoodIn wsL_poise wsX2_poise := goodIn_ca (goodIn_ca (goodIn_r _ [7, 8, 9, 10, 11, 12, 13, 14, 15, 16, 17, 18, 19, 20, 21, 22, 23, 24, 25, 26, 27] (by decide +kernel) (by decide +kernel)) (goodIn_sub (fun _ h => List.mem_cons_of_mem _ (List.mem_append_left _ (List.mem_append_right _ h))) (by decide +kernel))) (goodIn_sub (fun _ h => List.mem_cons_of_mem _ (List.mem_append_right _ h)) (by decide +kernel))
set_option maxRecDepth 20000 in
theorem gL_poise_X2_poise : GoodIn wsL_poise (wsV RL 26 RX2 yX2_poise wsX2_poise) := goodIn_app (goodIn_of _ (by decide +kernel)) ggL_poise_X2_poise
theorem dL_poise_0 : decode cL_poise 0 = .ok (.aload_n 2, 1) := by decide +kernel
theorem dL_poise_1 : decode cL_poise 1 = .ok (.iconst 0, 1) := by decide +kernel
theorem dL_poise_2 : decode cL_poise 2 = .ok (.aload_n 0, 1) := by decide +kernel
theorem dL_poise_3 : decode cL_poise 3 = .ok (.iload_n 1, 1) := by decide +kernel
theorem dL_poise_4 : decode cL_poise 4 = .ok (.invokevirtual 26, 3) := by decide +kernel
theorem dL_poise_7 : decode cL_poise 7 = .ok (.i2l, 1) := by decide +kernel
theorem dL_poise_8 : decode cL_poise 8 = .ok (.lastore, 1) := by decide +kernel
theorem dL_poise_9 : decode cL_poise 9 = .ok (.goto 9, 3) := by decide +kernel
theorem dL_poise_12 : decode cL_poise 12 = .ok (.astore_n 3, 1) := by decide +kernel
theorem dL_poise_13 : decode cL_poise 13 = .ok (.iconst 1, 1) := by decide +kernel
theorem dL_poise_14 : decode cL_poise 14 = .ok (.ireturn, 1) := by decide +kernel
theorem dL_poise_15 : decode cL_poise 15 = .ok (.astore_n 3, 1) := by decide +kernel
theorem dL_poise_16 : decode cL_poise 16 = .ok (.iconst 2, 1) := by decide +kernel
theorem dL_poise_17 : decode cL_poise 17 = .ok (.ireturn, 1) := by decide +kernel
theorem dL_poise_18 : decode cL_poise 18 = .ok (.iconst 0, 1) := by decide +kernel
theorem dL_poise_19 : decode cL_poise 19 = .ok (.ireturn, 1) := by decide +kernel
set_option maxRecDepth 20000 in
theorem ggL_setCold_X2_setCold : GoodIn wsL_setCold wsX2_setCold := goodIn_ca (goodIn_ca (goodIn_r _ [7, 8, 9, 10, 11, 12, 13, 14, 15, 16, 17, 18, 19, 20, 21, 22, 23, 24, 25, 26] (by decide +kernel) (by decide +kernel)) (goodIn_sub (fun _ h => List.mem_cons_of_mem _ (List.mem_append_left _ (List.mem_append_right _ h))) (by decide +kernel))) (goodIn_sub (fun _ h => List.mem_cons_of_mem _ (List.mem_append_right _ h)) (by decide +kernel))
set_option maxRecDepth 20000 in
theorem gL_setCold_X2_setCold : GoodIn wsL_setCold (wsV RL 29 RX2 yX2_setCold wsX2_setCold) := goodIn_app (goodIn_of _ (by decide +kernel)) ggL_setCold_X2_setCold
theorem dL_setCold_0 : decode cL_setCold 0 = .ok (.aload_n 3, 1) := by decide +kernel
theorem dL_setCold_1 : decode cL_setCold 1 = .ok (.iconst 0, 1) := by decide +kernel
theorem dL_setCold_2 : decode cL_setCold 2 = .ok (.aload_n 0, 1) := by decide +kernel
theorem dL_setCold_3 : decode cL_setCold 3 = .ok (.iload_n 1, 1) := by decide +kernel
theorem dL_setCold_4 : decode cL_setCold 4 = .ok (.iload_n 2, 1) := by decide +kernel
theorem dL_setCold_5 : decode cL_setCold 5 = .ok (.invokevirtual 29, 3) := by decide +kernel
theorem dL_setCold_8 : decode cL_setCold 8 = .ok (.i2l, 1) := by decide +kernel
theorem dL_setCold_9 : decode cL_setCold 9 = .ok (.lastore, 1) := by decide +kernel
theorem dL_setCold_10 : decode cL_setCold 10 = .ok (.goto 11, 3) := by decide +kernel
theorem dL_setCold_13 : decode cL_setCold 13 = .ok (.astore 4, 2) := by decide +kernel
theorem dL_setCold_15 : decode cL_setCold 15 = .ok (.iconst 1, 1) := by decide +kernel
theorem dL_setCold_16 : decode cL_setCold 16 = .ok (.ireturn, 1) := by decide +kernel
theorem dL_setCold_17 : decode cL_setCold 17 = .ok (.astore 4, 2) := by decide +kernel
theorem dL_setCold_19 : decode cL_setCold 19 = .ok (.iconst 2, 1) := by decide +kernel
theorem dL_setCold_20 : decode cL_setCold 20 = .ok (.ireturn, 1) := by decide +kernel
theorem dL_setCold_21 : decode cL_setCold 21 = .ok (.iconst 0, 1) := by decide +kernel
theorem dL_setCold_22 : decode cL_setCold 22 = .ok (.ireturn, 1) := by decide +kernel
set_option maxRecDepth 20000 in
theorem ggL_traveller_X2_traveller : GoodIn wsL_traveller wsX2_traveller := goodIn_ca (goodIn_r _ [6, 7, 8, 9, 10, 11, 12, 13, 14, 15, 16, 17, 18, 19, 20, 21, 22, 23, 24, 25, 26, 27, 28, 29, 30, 31, 32, 33, 34, 35, 36, 37, 38, 39, 40, 41, 42, 43, 44, 45, 46, 47, 48, 49, 50, 51, 52, 53, 54, 55, 56, 57, 58, 59, 60, 61, 62] (by decide +kernel) (by decide +kernel)) (goodIn_sub (fun _ h => List.mem_cons_of_mem _ (List.mem_append_right _ h)) (by decide +kernel))
set_option maxRecDepth 20000 in
theorem gL_traveller_X2_traveller : GoodIn wsL_traveller (wsV RL 33 RX2 yX2_traveller wsX2_traveller) := goodIn_app (goodIn_of _ (by decide +kernel)) ggL_traveller_X2_traveller
theorem dL_traveller_0 : decode cL_traveller 0 = .ok (.aload_n 3, 1) := by decide +kernel
theorem dL_traveller_1 : decode cL_traveller 1 = .ok (.iconst 0, 1) := by decide +kernel
theorem dL_traveller_2 : decode cL_traveller 2 = .ok (.aload_n 0, 1) := by decide +kernel
theorem dL_traveller_3 : decode cL_traveller 3 = .ok (.iload_n 1, 1) := by decide +kernel
theorem dL_traveller_4 : decode cL_traveller 4 = .ok (.iload_n 2, 1) := by decide +kernel
theorem dL_traveller_5 : decode cL_traveller 5 = .ok (.invokevirtual 33, 3) := by decide +kernel
theorem dL_traveller_8 : decode cL_traveller 8 = .ok (.i2l, 1) := by decide +kernel
theorem dL_traveller_9 : decode cL_traveller 9 = .ok (.lastore, 1) := by decide +kernel
theorem dL_traveller_10 : decode cL_traveller 10 = .ok (.goto 7, 3) := by decide +kernel
theorem dL_traveller_13 : decode cL_traveller 13 = .ok (.astore 4, 2) := by decide +kernel
theorem dL_traveller_15 : decode cL_traveller 15 = .ok (.iconst 1, 1) := by decide +kernel
theorem dL_traveller_16 : decode cL_traveller 16 = .ok (.ireturn, 1) := by decide +kernel
theorem dL_traveller_17 : decode cL_traveller 17 = .ok (.iconst 0, 1) := by decide +kernel
theorem dL_traveller_18 : decode cL_traveller 18 = .ok (.ireturn, 1) := by decide +kernel
set_option maxRecDepth 20000 in
theorem ggL_count_X2_count : GoodIn wsL_count wsX2_count := goodIn_ca (goodIn_r _ [6, 7, 8, 9, 10, 11, 12, 13, 14, 15, 16, 17, 18, 19, 20, 21, 22, 23, 24, 25, 26, 27, 28, 29, 30, 31, 32, 33, 34, 35, 36, 37, 38, 39, 40, 41, 42, 43, 44, 45, 46, 47, 48, 49, 50, 51, 52, 53, 54, 55, 56, 57, 58, 59, 60, 61, 62, 63, 64, 65, 66, 67, 68, 69, 70, 71, 72, 73, 74, 75] (by decide +kernel) (by decide +kernel)) (goodIn_sub (fun _ h => List.mem_cons_of_mem _ (List.mem_append_right _ h)) (by decide +kernel))
set_option maxRecDepth 20000 in
theorem gL_count_X2_count : GoodIn wsL_count (wsV RL 36 RX2 yX2_count wsX2_count) := goodIn_app (goodIn_of _ (by decide +kernel)) ggL_count_X2_count
theorem dL_count_0 : decode cL_count 0 = .ok (.aload_n 2, 1) := by decide +kernel
theorem dL_count_1 : decode cL_count 1 = .ok (.iconst 0, 1) := by decide +kernel
theorem dL_count_2 : decode cL_count 2 = .ok (.aload_n 0, 1) := by decide +kernel
theorem dL_count_3 : decode cL_count 3 = .ok (.iload_n 1, 1) := by decide +kernel
theorem dL_count_4 : decode cL_count 4 = .ok (.invokevirtual 36, 3) := by decide +kernel
theorem dL_count_7 : decode cL_count 7 = .ok (.i2l, 1) := by decide +kernel
theorem dL_count_8 : decode cL_count 8 = .ok (.lastore, 1) := by decide +kernel
theorem dL_count_9 : decode cL_count 9 = .ok (.goto 6, 3) := by decide +kernel
theorem dL_count_12 : decode cL_count 12 = .ok (.astore_n 3, 1) := by decide +kernel
theorem dL_count_13 : decode cL_count 13 = .ok (.iconst 1, 1) := by decide +kernel
theorem dL_count_14 : decode cL_count 14 = .ok (.ireturn, 1) := by decide +kernel
theorem dL_count_15 : decode cL_count 15 = .ok (.iconst 0, 1) := by decide +kernel
theorem dL_count_16 : decode cL_count 16 = .ok (.ireturn, 1) := by decide +kernel
set_option maxRecDepth 20000 in
theorem ggL_pass_X2_pass : GoodIn wsL_pass wsX2_pass := goodIn_ca (goodIn_r _ [6, 7, 8, 9, 10, 11, 12, 13, 5, 14, 15, 16, 17, 18, 19, 20, 21, 22, 23, 24, 25, 26, 27, 28, 29, 30, 31, 32, 33, 34, 35, 36, 37, 38, 39, 40, 41, 42, 43, 44, 45, 46, 47, 48, 49, 50, 51, 52, 53, 54, 55, 56, 57, 58, 59, 60, 61, 62, 63, 64, 65, 66, 67, 68, 69, 70, 71, 72, 73, 74, 75, 76, 77, 78, 79, 80, 81, 82, 83, 84, 85, 86, 87, 88, 89, 90, 91, 92, 93, 94, 95, 96, 97, 98, 99, 100, 101, 102, 103, 104, 105, 106, 107, 108, 109, 110, 111, 112, 113, 114, 115, 116, 117, 118, 119, 120, 121, 122, 123, 124, 125, 126, 127, 128, 129, 130, 131, 132, 133, 134] (by decide +kernel) (by decide +kernel)) (goodIn_sub (fun _ h => List.mem_cons_of_mem _ (List.mem_append_right _ h)) (by decide +kernel))
set_option maxRecDepth 20000 in
theorem gL_pass_X2_pass : GoodIn wsL_pass (wsV RL 39 RX2 yX2_pass wsX2_pass) := goodIn_app (goodIn_of _ (by decide +kernel)) ggL_pass_X2_pass
theorem dL_pass_0 : decode cL_pass 0 = .ok (.aload_n 2, 1) := by decide +kernel
theorem dL_pass_1 : decode cL_pass 1 = .ok (.iconst 0, 1) := by decide +kernel
theorem dL_pass_2 : decode cL_pass 2 = .ok (.aload_n 0, 1) := by decide +kernel
theorem dL_pass_3 : decode cL_pass 3 = .ok (.iload_n 1, 1) := by decide +kernel
theorem dL_pass_4 : decode cL_pass 4 = .ok (.invokevirtual 39, 3) := by decide +kernel
theorem dL_pass_7 : decode cL_pass 7 = .ok (.i2l, 1) := by decide +kernel
theorem dL_pass_8 : decode cL_pass 8 = .ok (.lastore, 1) := by decide +kernel
theorem dL_pass_9 : decode cL_pass 9 = .ok (.goto 6, 3) := by decide +kernel
theorem dL_pass_12 : decode cL_pass 12 = .ok (.astore_n 3, 1) := by decide +kernel
theorem dL_pass_13 : decode cL_pass 13 = .ok (.iconst 1, 1) := by decide +kernel
theorem dL_pass_14 : decode cL_pass 14 = .ok (.ireturn, 1) := by decide +kernel
theorem dL_pass_15 : decode cL_pass 15 = .ok (.iconst 0, 1) := by decide +kernel
theorem dL_pass_16 : decode cL_pass 16 = .ok (.ireturn, 1) := by decide +kernel
set_option maxRecDepth 20000 in
theorem ggL_when_X2_when : GoodIn wsL_when wsX2_when := goodIn_ca (goodIn_r _ [6, 7, 8, 9, 10, 11, 12, 13, 14, 15, 16, 17, 18, 19, 20, 21, 22, 23, 24, 25, 26, 27, 28, 29, 30, 31, 32, 33, 34, 35, 36, 37, 38, 39, 40, 41, 42, 43, 44, 45, 46, 47, 48, 49, 50, 51, 52, 53, 54, 55, 56, 57, 58, 59, 60, 61, 62, 63, 64, 65, 66, 67, 68, 69, 70, 71, 72, 73, 74, 75, 76, 77, 78, 79, 80, 81, 82, 83, 84, 85, 86, 87, 88, 89, 90, 91, 92, 93, 94, 95, 96, 97, 98, 99, 100, 101, 102, 103, 104, 105, 106, 107, 108, 109, 110, 111, 112, 113, 114, 115, 116, 117, 118, 119, 120, 121, 122, 123, 124, 125, 126, 127, 128, 129, 130, 131, 132, 133, 134, 135, 136, 137, 138, 139, 140, 141, 142, 143, 144] (by decide +kernel) (by decide +kernel)) (goodIn_sub (fun _ h => List.mem_cons_of_mem _ (List.mem_append_right _ h)) (by decide +kernel))
set_option maxRecDepth 20000 in
theorem gL_when_X2_when : GoodIn wsL_when (wsV RL 42 RX2 yX2_when wsX2_when) := goodIn_app (goodIn_of _ (by decide +kernel)) ggL_when_X2_when
theorem dL_when_0 : decode cL_when 0 = .ok (.aload_n 2, 1) := by decide +kernel
theorem dL_when_1 : decode cL_when 1 = .ok (.iconst 0, 1) := by decide +kernel
theorem dL_when_2 : decode cL_when 2 = .ok (.aload_n 0, 1) := by decide +kernel
theorem dL_when_3 : decode cL_when 3 = .ok (.iload_n 1, 1) := by decide +kernel
theorem dL_when_4 : decode cL_when 4 = .ok (.invokevirtual 42, 3) := by decide +kernel
theorem dL_when_7 : decode cL_when 7 = .ok (.i2l, 1) := by decide +kernel
theorem dL_when_8 : decode cL_when 8 = .ok (.lastore, 1) := by decide +kernel
theorem dL_when_9 : decode cL_when 9 = .ok (.goto 6, 3) := by decide +kernel
theorem dL_when_12 : decode cL_when 12 = .ok (.astore_n 3, 1) := by decide +kernel
theorem dL_when_13 : decode cL_when 13 = .ok (.iconst 1, 1) := by decide +kernel
theorem dL_when_14 : decode cL_when 14 = .ok (.ireturn, 1) := by decide +kernel
theorem dL_when_15 : decode cL_when 15 = .ok (.iconst 0, 1) := by decide +kernel
theorem dL_when_16 : decode cL_when 16 = .ok (.ireturn, 1) := by decide +kernel
set_option maxRecDepth 20000 in
theorem ggL_foresee_X2_foresee : GoodIn wsL_foresee wsX2_foresee := goodIn_ca (goodIn_ca (goodIn_r _ [7, 8, 9, 10, 11, 12, 13, 14, 15, 16, 17, 18, 19, 20, 6, 21, 22, 23, 24, 25, 26, 27, 28, 29, 30, 31, 32, 33, 34, 35, 36, 37, 38, 39, 40, 41, 42, 43, 44, 45, 46, 47, 48, 49, 50, 51, 52, 53, 54, 55, 56, 57, 58, 59, 60, 61, 62, 63, 64, 65, 66, 67, 68, 69, 70, 71, 72, 73, 74, 75, 76, 77, 78, 79, 80, 81, 82, 83, 84, 85, 86, 87, 88, 89, 90, 91, 92, 93, 94, 95, 96, 97, 98, 99, 100, 101, 102, 103, 104, 105, 106, 107, 108, 109, 110, 111, 112, 113, 114, 115, 116, 117, 118, 119, 120, 121, 122, 123, 124, 125, 126, 127, 128, 129, 130, 131, 132, 133, 134, 135, 136, 137, 138, 139, 140, 141, 142, 143, 144, 145, 146, 147, 148, 149, 150, 151, 152, 153, 154, 155, 156] (by decide +kernel) (by decide +kernel)) (goodIn_sub (fun _ h => List.mem_cons_of_mem _ (List.mem_append_left _ (List.mem_append_right _ h))) (by decide +kernel))) (goodIn_sub (fun _ h => List.mem_cons_of_mem _ (List.mem_append_right _ h)) (by decide +kernel))
set_option maxRecDepth 20000 in
theorem gL_foresee_X2_foresee : GoodIn wsL_foresee (wsV RL 45 RX2 yX2_foresee wsX2_foresee) := goodIn_app (goodIn_of _ (by decide +kernel)) ggL_foresee_X2_foresee
theorem dL_foresee_0 : decode cL_foresee 0 = .ok (.aload_n 3, 1) := by decide +kernel
theorem dL_foresee_1 : decode cL_foresee 1 = .ok (.iconst 0, 1) := by decide +kernel
theorem dL_foresee_2 : decode cL_foresee 2 = .ok (.aload_n 0, 1) := by decide +kernel
theorem dL_foresee_3 : decode cL_foresee 3 = .ok (.iload_n 1, 1) := by decide +kernel
theorem dL_foresee_4 : decode cL_foresee 4 = .ok (.iload_n 2, 1) := by decide +kernel
theorem dL_foresee_5 : decode cL_foresee 5 = .ok (.invokevirtual 45, 3) := by decide +kernel
theorem dL_foresee_8 : decode cL_foresee 8 = .ok (.i2l, 1) := by decide +kernel
theorem dL_foresee_9 : decode cL_foresee 9 = .ok (.lastore, 1) := by decide +kernel
theorem dL_foresee_10 : decode cL_foresee 10 = .ok (.goto 11, 3) := by decide +kernel
theorem dL_foresee_13 : decode cL_foresee 13 = .ok (.astore 4, 2) := by decide +kernel
theorem dL_foresee_15 : decode cL_foresee 15 = .ok (.iconst 1, 1) := by decide +kernel
theorem dL_foresee_16 : decode cL_foresee 16 = .ok (.ireturn, 1) := by decide +kernel
theorem dL_foresee_17 : decode cL_foresee 17 = .ok (.astore 4, 2) := by decide +kernel
theorem dL_foresee_19 : decode cL_foresee 19 = .ok (.iconst 2, 1) := by decide +kernel
theorem dL_foresee_20 : decode cL_foresee 20 = .ok (.ireturn, 1) := by decide +kernel
theorem dL_foresee_21 : decode cL_foresee 21 = .ok (.iconst 0, 1) := by decide +kernel
theorem dL_foresee_22 : decode cL_foresee 22 = .ok (.ireturn, 1) := by decide +kernel
set_option maxRecDepth 20000 in
theorem ggL_bestCode_X2_bestCode : GoodIn wsL_bestCode wsX2_bestCode := goodIn_ca (goodIn_r _ [6, 7, 8, 9, 10, 11, 12, 5, 13, 14, 15, 16, 17, 18, 19, 20, 21, 22, 23, 24, 25, 26, 27, 28, 29, 30, 31, 32, 33, 34, 35, 36, 37, 38, 39, 40, 41, 42, 43, 44, 45, 46, 47, 48, 49, 50, 51, 52, 53, 54, 55, 56, 57, 58, 59, 60, 61, 62, 63, 64, 65, 66, 67, 68, 69, 70, 71, 72, 73, 74, 75, 76, 77, 78, 79, 80, 81, 82, 83, 84, 85, 86, 87, 88, 89, 90, 91, 92, 93, 94, 95, 96, 97, 98, 99, 100, 101, 102, 103, 104, 105, 106, 107, 108, 109, 110, 111, 112, 113, 114, 115, 116, 117, 118, 119, 120, 121, 122, 123, 124, 125, 126, 127, 128, 129, 130, 131, 132, 133, 134, 135, 136, 137, 138, 139, 140, 141, 142, 143, 144, 145, 146, 147, 148, 149, 150, 151, 152, 153, 154, 155] (by decide +kernel) (by decide +kernel)) (goodIn_sub (fun _ h => List.mem_cons_of_mem _ (List.mem_append_right _ h)) (by decide +kernel))
set_option maxRecDepth 20000 in
theorem gL_bestCode_X2_bestCode : GoodIn wsL_bestCode (wsV RL 48 RX2 yX2_bestCode wsX2_bestCode) := goodIn_app (goodIn_of _ (by decide +kernel)) ggL_bestCode_X2_bestCode
theorem dL_bestCode_0 : decode cL_bestCode 0 = .ok (.aload_n 2, 1) := by decide +kernel
theorem dL_bestCode_1 : decode cL_bestCode 1 = .ok (.iconst 0, 1) := by decide +kernel
theorem dL_bestCode_2 : decode cL_bestCode 2 = .ok (.aload_n 0, 1) := by decide +kernel
theorem dL_bestCode_3 : decode cL_bestCode 3 = .ok (.iload_n 1, 1) := by decide +kernel
theorem dL_bestCode_4 : decode cL_bestCode 4 = .ok (.invokevirtual 48, 3) := by decide +kernel
theorem dL_bestCode_7 : decode cL_bestCode 7 = .ok (.i2l, 1) := by decide +kernel
theorem dL_bestCode_8 : decode cL_bestCode 8 = .ok (.lastore, 1) := by decide +kernel
theorem dL_bestCode_9 : decode cL_bestCode 9 = .ok (.goto 6, 3) := by decide +kernel
theorem dL_bestCode_12 : decode cL_bestCode 12 = .ok (.astore_n 3, 1) := by decide +kernel
theorem dL_bestCode_13 : decode cL_bestCode 13 = .ok (.iconst 1, 1) := by decide +kernel
theorem dL_bestCode_14 : decode cL_bestCode 14 = .ok (.ireturn, 1) := by decide +kernel
theorem dL_bestCode_15 : decode cL_bestCode 15 = .ok (.iconst 0, 1) := by decide +kernel
theorem dL_bestCode_16 : decode cL_bestCode 16 = .ok (.ireturn, 1) := by decide +kernel
set_option maxRecDepth 20000 in
theorem ggL_bestPoise_X2_bestPoise : GoodIn wsL_bestPoise wsX2_bestPoise := goodIn_ca (goodIn_r _ [6, 7, 8, 9, 10, 11, 12, 5, 13, 14, 15, 16, 17, 18, 19, 20, 21, 22, 23, 24, 25, 26, 27, 28, 29, 30, 31, 32, 33, 34, 35, 36, 37, 38, 39, 40, 41, 42, 43, 44, 45, 46, 47, 48, 49, 50, 51, 52, 53, 54, 55, 56, 57, 58, 59, 60, 61, 62, 63, 64, 65, 66, 67, 68, 69, 70, 71, 72, 73, 74, 75, 76, 77, 78, 79, 80, 81, 82, 83, 84, 85, 86, 87, 88, 89, 90, 91, 92, 93, 94, 95, 96, 97, 98, 99, 100, 101, 102, 103, 104, 105, 106, 107, 108, 109, 110, 111, 112, 113, 114, 115, 116, 117, 118, 119, 120, 121, 122, 123, 124, 125, 126, 127, 128, 129, 130, 131, 132, 133, 134, 135, 136, 137, 138, 139, 140, 141, 142, 143, 144, 145, 146, 147, 148, 149, 150, 151, 152, 153, 154, 155] (by decide +kernel) (by decide +kernel)) (goodIn_sub (fun _ h => List.mem_cons_of_mem _ (List.mem_append_right _ h)) (by decide +kernel))
set_option maxRecDepth 20000 in
theorem gL_bestPoise_X2_bestPoise : GoodIn wsL_bestPoise (wsV RL 51 RX2 yX2_bestPoise wsX2_bestPoise) := goodIn_app (goodIn_of _ (by decide +kernel)) ggL_bestPoise_X2_bestPoise
theorem dL_bestPoise_0 : decode cL_bestPoise 0 = .ok (.aload_n 2, 1) := by decide +kernel
theorem dL_bestPoise_1 : decode cL_bestPoise 1 = .ok (.iconst 0, 1) := by decide +kernel
theorem dL_bestPoise_2 : decode cL_bestPoise 2 = .ok (.aload_n 0, 1) := by decide +kernel
theorem dL_bestPoise_3 : decode cL_bestPoise 3 = .ok (.iload_n 1, 1) := by decide +kernel
theorem dL_bestPoise_4 : decode cL_bestPoise 4 = .ok (.invokevirtual 51, 3) := by decide +kernel
theorem dL_bestPoise_7 : decode cL_bestPoise 7 = .ok (.i2l, 1) := by decide +kernel
theorem dL_bestPoise_8 : decode cL_bestPoise 8 = .ok (.lastore, 1) := by decide +kernel
theorem dL_bestPoise_9 : decode cL_bestPoise 9 = .ok (.goto 6, 3) := by decide +kernel
theorem dL_bestPoise_12 : decode cL_bestPoise 12 = .ok (.astore_n 3, 1) := by decide +kernel
theorem dL_bestPoise_13 : decode cL_bestPoise 13 = .ok (.iconst 1, 1) := by decide +kernel
theorem dL_bestPoise_14 : decode cL_bestPoise 14 = .ok (.ireturn, 1) := by decide +kernel
theorem dL_bestPoise_15 : decode cL_bestPoise 15 = .ok (.iconst 0, 1) := by decide +kernel
theorem dL_bestPoise_16 : decode cL_bestPoise 16 = .ok (.ireturn, 1) := by decide +kernel
set_option maxRecDepth 20000 in
theorem ggL_law_X2_init : GoodIn wsL_law wsX2_init := goodIn_r _ [9, 10, 11, 12, 13, 14, 15, 16, 17, 18, 19, 20, 21, 22, 23, 24, 25, 26, 27, 28, 29, 30, 31, 32, 33, 34, 35, 36, 37, 38, 39, 40, 41, 42, 43, 44, 45, 46, 47, 48, 49, 50, 474, 475, 476, 477, 478, 479, 480, 481, 482, 483, 484, 464, 465, 485, 486, 487, 488, 489, 490, 491, 492, 493, 494, 495, 496] (by decide +kernel) (by decide +kernel)
set_option maxRecDepth 20000 in
theorem gL_law_X2_init : GoodIn wsL_law (wsX2_init) := ggL_law_X2_init
set_option maxRecDepth 20000 in
theorem ggL_law_X4_init : GoodIn wsL_law wsX4_init := goodIn_r _ [53, 54, 11, 12, 27, 55, 56, 57, 58, 59, 60, 61, 62, 63, 64, 65, 66, 67, 68, 69, 70, 71, 72, 73, 466, 467, 468, 469, 470, 471, 472, 473, 497, 498, 499, 500, 501, 502, 503, 504, 505, 506, 507, 508] (by decide +kernel) (by decide +kernel)
set_option maxRecDepth 20000 in
theorem gL_law_X4_init : GoodIn wsL_law (wsX4_init) := ggL_law_X4_init
set_option maxRecDepth 20000 in
theorem ggL_law_L_come : GoodIn wsL_law wsL_come := goodIn_ca (goodIn_ca (goodIn_r _ [77, 78, 79, 80, 81, 82, 2, 83, 84, 85, 86, 87, 16, 88, 89, 90, 91, 92, 93, 31, 94, 39, 43, 44, 45, 46, 47, 95, 96, 97, 98, 41, 42, 49, 50, 464, 465, 474, 475, 476, 477, 478, 479, 480, 481, 482, 483, 484, 485, 486, 487, 488, 489, 490, 491, 492, 493, 494, 495, 496] (by decide +kernel) (by decide +kernel)) (goodIn_sub (fun _ h => List.mem_append_left _ (List.mem_append_left _ (List.mem_append_right _ h))) (by decide +kernel))) (goodIn_sub (fun _ h => List.mem_append_left _ (List.mem_append_right _ h)) (by decide +kernel))
set_option maxRecDepth 20000 in
theorem gL_law_L_come : GoodIn wsL_law (va_wsS RL 58 yL_come wsL_come) := goodIn_app (goodIn_of _ (by decide +kernel)) ggL_law_L_come
set_option maxRecDepth 20000 in
theorem ggL_law_X4_come : GoodIn wsL_law wsX4_come := goodIn_r _ [102, 103, 104, 55, 56, 57, 62, 105, 106, 5, 107, 108, 109, 110, 111, 466, 467, 468, 469, 470, 471, 472, 473, 497, 498, 499, 500, 501, 502, 503, 504, 505, 506, 507, 508] (by decide +kernel) (by decide +kernel)
set_option maxRecDepth 20000 in
theorem gL_law_X4_come : GoodIn wsL_law (wsV RL 63 RX4 yX4_come wsX4_come) := goodIn_app (goodIn_of _ (by decide +kernel)) ggL_law_X4_come
set_option maxRecDepth 20000 in
theorem ggL_law_X4_thrown : GoodIn wsL_law wsX4_thrown := goodIn_r _ [115, 103, 466, 467, 468, 469, 470, 471, 472, 473] (by decide +kernel) (by decide +kernel)
set_option maxRecDepth 20000 in
theorem gL_law_X4_thrown : GoodIn wsL_law (wsV RL 64 RX4 yX4_thrown wsX4_thrown) := goodIn_app (goodIn_of _ (by decide +kernel)) ggL_law_X4_thrown
set_option maxRecDepth 20000 in
theorem ggL_law_L_leave : GoodIn wsL_law wsL_leave := goodIn_ca (goodIn_ca (goodIn_r _ [118, 119, 79, 120, 121, 122, 2, 123, 124, 125, 86, 87, 16, 88, 126, 90, 127, 128, 129, 31, 130, 39, 131, 132, 133, 134, 45, 48, 95, 96, 97, 98, 41, 42, 49, 50, 43, 135, 136, 137, 138, 46, 464, 465, 474, 475, 476, 477, 478, 479, 480, 481, 482, 483, 484, 485, 486, 487, 488, 489, 490, 491, 492, 493, 494, 495, 496] (by decide +kernel) (by decide +kernel)) (goodIn_sub (fun _ h => List.mem_append_right _ h) (by decide +kernel))) (goodIn_sub (fun _ h => List.mem_append_left _ (List.mem_append_right _ h)) (by decide +kernel))
set_option maxRecDepth 20000 in
theorem gL_law_L_leave : GoodIn wsL_law (va_wsS RL 68 yL_leave wsL_leave) := goodIn_app (goodIn_of _ (by decide +kernel)) ggL_law_L_leave
set_option maxRecDepth 20000 in
theorem ggL_law_X4_leave : GoodIn wsL_law wsX4_leave := goodIn_r _ [142, 103, 62, 143, 144, 145, 5, 146, 104, 105, 106, 107, 108, 109, 110, 111, 466, 467, 468, 469, 470, 471, 472, 473, 497, 498, 499, 500, 501, 502, 503, 504, 505, 506, 507, 508] (by decide +kernel) (by decide +kernel)
set_option maxRecDepth 20000 in
theorem gL_law_X4_leave : GoodIn wsL_law (wsV RL 71 RX4 yX4_leave wsX4_leave) := goodIn_app (goodIn_of _ (by decide +kernel)) ggL_law_X4_leave
set_option maxRecDepth 20000 in
theorem ggL_law_L_ring : GoodIn wsL_law wsL_ring := goodIn_ca (goodIn_r _ [149, 78, 150, 151, 152, 2, 153, 84, 85, 16, 154, 464, 465, 474, 475, 476, 477, 478, 479, 480, 481, 482, 483, 484] (by decide +kernel) (by decide +kernel)) (goodIn_sub (fun _ h => List.mem_append_left _ (List.mem_append_left _ (List.mem_append_right _ h))) (by decide +kernel))
set_option maxRecDepth 20000 in
theorem gL_law_L_ring : GoodIn wsL_law (va_wsS RL 72 yL_ring wsL_ring) := goodIn_app (goodIn_of _ (by decide +kernel)) ggL_law_L_ring
set_option maxRecDepth 20000 in
theorem ggL_law_X4_ring : GoodIn wsL_law wsX4_ring := goodIn_r _ [158, 103, 62, 105, 106, 5, 107, 108, 109, 110, 111, 466, 467, 468, 469, 470, 471, 472, 473, 497, 498, 499, 500, 501, 502, 503, 504, 505, 506, 507, 508] (by decide +kernel) (by decide +kernel)
set_option maxRecDepth 20000 in
theorem gL_law_X4_ring : GoodIn wsL_law (wsV RL 74 RX4 yX4_ring wsX4_ring) := goodIn_app (goodIn_of _ (by decide +kernel)) ggL_law_X4_ring
set_option maxRecDepth 20000 in
theorem ggL_law_L_poise : GoodIn wsL_law wsL_poise := goodIn_ca (goodIn_ca (goodIn_r _ [161, 78, 79, 162, 163, 164, 2, 165, 84, 85, 86, 87, 16, 166, 167, 464, 465, 474, 475, 476, 477, 478, 479, 480, 481, 482, 483, 484] (by decide +kernel) (by decide +kernel)) (goodIn_sub (fun _ h => List.mem_append_left _ (List.mem_append_left _ (List.mem_append_right _ h))) (by decide +kernel))) (goodIn_sub (fun _ h => List.mem_append_left _ (List.mem_append_right _ h)) (by decide +kernel))
set_option maxRecDepth 20000 in
theorem gL_law_L_poise : GoodIn wsL_law (va_wsS RL 75 yL_poise wsL_poise) := goodIn_app (goodIn_of _ (by decide +kernel)) ggL_law_L_poise
set_option maxRecDepth 20000 in
theorem ggL_law_X4_poise : GoodIn wsL_law wsX4_poise := goodIn_r _ [171, 103, 62, 105, 106, 5, 107, 108, 109, 110, 111, 466, 467, 468, 469, 470, 471, 472, 473, 497, 498, 499, 500, 501, 502, 503, 504, 505, 506, 507, 508] (by decide +kernel) (by decide +kernel)
set_option maxRecDepth 20000 in
theorem gL_law_X4_poise : GoodIn wsL_law (wsV RL 77 RX4 yX4_poise wsX4_poise) := goodIn_app (goodIn_of _ (by decide +kernel)) ggL_law_X4_poise
set_option maxRecDepth 20000 in
theorem ggL_law_L_setCold : GoodIn wsL_law wsL_setCold := goodIn_ca (goodIn_ca (goodIn_r _ [174, 119, 78, 175, 176, 177, 2, 178, 124, 125, 84, 85, 16, 179, 464, 465, 474, 475, 476, 477, 478, 479, 480, 481, 482, 483, 484] (by decide +kernel) (by decide +kernel)) (goodIn_sub (fun _ h => List.mem_append_right _ h) (by decide +kernel))) (goodIn_sub (fun _ h => List.mem_append_left _ (List.mem_append_left _ (List.mem_append_right _ h))) (by decide +kernel))
set_option maxRecDepth 20000 in
theorem gL_law_L_setCold : GoodIn wsL_law (va_wsS RL 78 yL_setCold wsL_setCold) := goodIn_app (goodIn_of _ (by decide +kernel)) ggL_law_L_setCold
set_option maxRecDepth 20000 in
theorem ggL_law_X4_setCold : GoodIn wsL_law wsX4_setCold := goodIn_r _ [183, 103, 58, 105, 106, 5, 107, 108, 109, 110, 111, 466, 467, 468, 469, 470, 471, 472, 473] (by decide +kernel) (by decide +kernel)
set_option maxRecDepth 20000 in
theorem gL_law_X4_setCold : GoodIn wsL_law (wsV RL 81 RX4 yX4_setCold wsX4_setCold) := goodIn_app (goodIn_of _ (by decide +kernel)) ggL_law_X4_setCold
set_option maxRecDepth 20000 in
theorem ggL_law_X2_crack : GoodIn wsL_law wsX2_crack := goodIn_r _ [187, 16, 188, 189, 190, 191, 192, 464, 465, 474, 475, 476, 477, 478, 479, 480, 481, 482, 483, 484] (by decide +kernel) (by decide +kernel)
set_option maxRecDepth 20000 in
theorem gL_law_X2_crack : GoodIn wsL_law (wsV RL 82 RX2 yX2_crack wsX2_crack) := goodIn_app (goodIn_of _ (by decide +kernel)) ggL_law_X2_crack
set_option maxRecDepth 20000 in
theorem ggL_law_X4_crack : GoodIn wsL_law wsX4_crack := goodIn_r _ [196, 103, 62, 197, 190, 191, 192, 466, 467, 468, 469, 470, 471, 472, 473, 497, 498, 499, 500, 501, 502, 503, 504, 505, 506, 507, 508] (by decide +kernel) (by decide +kernel)
set_option maxRecDepth 20000 in
theorem gL_law_X4_crack : GoodIn wsL_law (wsV RL 85 RX4 yX4_crack wsX4_crack) := goodIn_app (goodIn_of _ (by decide +kernel)) ggL_law_X4_crack
set_option maxRecDepth 20000 in
theorem ggL_law_L_traveller : GoodIn wsL_law wsL_traveller := goodIn_ca (goodIn_r _ [200, 119, 201, 202, 203, 2, 204, 124, 125, 16, 88, 127, 128, 129, 31, 130, 39, 205, 206, 207, 15, 208, 32, 209, 210, 211, 212, 21, 33, 34, 213, 214, 136, 137, 138, 45, 48, 46, 464, 465, 474, 475, 476, 477, 478, 479, 480, 481, 482, 483, 484, 485, 486, 487, 488, 489, 490, 491, 492, 493, 494, 495, 496] (by decide +kernel) (by decide +kernel)) (goodIn_sub (fun _ h => List.mem_append_right _ h) (by decide +kernel))
set_option maxRecDepth 20000 in
theorem gL_law_L_traveller : GoodIn wsL_law (va_wsS RL 86 yL_traveller wsL_traveller) := goodIn_app (goodIn_of _ (by decide +kernel)) ggL_law_L_traveller
set_option maxRecDepth 20000 in
theorem ggL_law_X4_traveller : GoodIn wsL_law wsX4_traveller := goodIn_r _ [218, 103, 143, 144, 145, 5, 146, 104, 105, 106, 107, 219, 220, 221, 222, 27, 55, 56, 62, 57, 108, 109, 110, 111, 466, 467, 468, 469, 470, 471, 472, 473, 497, 498, 499, 500, 501, 502, 503, 504, 505, 506, 507, 508] (by decide +kernel) (by decide +kernel)
set_option maxRecDepth 20000 in
theorem gL_law_X4_traveller : GoodIn wsL_law (wsV RL 88 RX4 yX4_traveller wsX4_traveller) := goodIn_app (goodIn_of _ (by decide +kernel)) ggL_law_X4_traveller
set_option maxRecDepth 20000 in
theorem ggL_law_L_count : GoodIn wsL_law wsL_count := goodIn_ca (goodIn_r _ [225, 119, 226, 227, 228, 2, 229, 124, 125, 16, 230, 231, 232, 15, 233, 21, 22, 23, 24, 25, 32, 234, 235, 236, 237, 26, 33, 238, 239, 240, 241, 35, 242, 243, 244, 31, 245, 49, 50, 246, 247, 191, 248, 249, 250, 251, 252, 253, 254, 255, 256, 464, 465, 474, 475, 476, 477, 478, 479, 480, 481, 482, 483, 484, 485, 486, 487, 488, 489, 490, 491, 492, 493, 494, 495, 496] (by decide +kernel) (by decide +kernel)) (goodIn_sub (fun _ h => List.mem_append_right _ h) (by decide +kernel))
set_option maxRecDepth 20000 in
theorem gL_law_L_count : GoodIn wsL_law (va_wsS RL 89 yL_count wsL_count) := goodIn_app (goodIn_of _ (by decide +kernel)) ggL_law_L_count
set_option maxRecDepth 20000 in
theorem ggL_law_X4_count : GoodIn wsL_law wsX4_count := goodIn_r _ [260, 103, 62, 105, 106, 5, 107, 261, 262, 263, 61, 264, 265, 266, 68, 267, 268, 66, 69, 269, 270, 271, 272, 70, 273, 274, 275, 276, 71, 277, 278, 279, 280, 281, 282, 283, 284, 285, 108, 109, 110, 111, 466, 467, 468, 469, 470, 471, 472, 473, 497, 498, 499, 500, 501, 502, 503, 504, 505, 506, 507, 508] (by decide +kernel) (by decide +kernel)
set_option maxRecDepth 20000 in
theorem gL_law_X4_count : GoodIn wsL_law (wsV RL 91 RX4 yX4_count wsX4_count) := goodIn_app (goodIn_of _ (by decide +kernel)) ggL_law_X4_count
set_option maxRecDepth 20000 in
theorem ggL_law_X2_speed : GoodIn wsL_law wsX2_speed := goodIn_r _ [289, 16, 290, 291, 292, 15, 293, 23, 24, 294, 190, 191, 192, 464, 465, 474, 475, 476, 477, 478, 479, 480, 481, 482, 483, 484] (by decide +kernel) (by decide +kernel)
set_option maxRecDepth 20000 in
theorem gL_law_X2_speed : GoodIn wsL_law (wsV RL 92 RX2 yX2_speed wsX2_speed) := goodIn_app (goodIn_of _ (by decide +kernel)) ggL_law_X2_speed
set_option maxRecDepth 20000 in
theorem ggL_law_X4_speed : GoodIn wsL_law wsX4_speed := goodIn_r _ [298, 103, 62, 299, 300, 301, 61, 302, 68, 267, 303, 190, 191, 192, 466, 467, 468, 469, 470, 471, 472, 473, 497, 498, 499, 500, 501, 502, 503, 504, 505, 506, 507, 508] (by decide +kernel) (by decide +kernel)
set_option maxRecDepth 20000 in
theorem gL_law_X4_speed : GoodIn wsL_law (wsV RL 96 RX4 yX4_speed wsX4_speed) := goodIn_app (goodIn_of _ (by decide +kernel)) ggL_law_X4_speed
set_option maxRecDepth 20000 in
theorem ggL_law_L_pass : GoodIn wsL_law wsL_pass := goodIn_ca (goodIn_r _ [306, 78, 307, 308, 309, 2, 310, 84, 85, 16, 88, 311, 312, 313, 314, 315, 316, 317, 15, 318, 319, 320, 321, 322, 26, 32, 235, 236, 21, 238, 239, 240, 241, 33, 25, 35, 242, 243, 244, 31, 245, 49, 50, 246, 247, 191, 248, 249, 250, 251, 252, 253, 254, 255, 256, 323, 324, 325, 326, 209, 22, 210, 34, 327, 294, 190, 192, 328, 128, 129, 130, 39, 329, 132, 133, 134, 45, 48, 95, 96, 97, 98, 41, 42, 43, 330, 291, 292, 293, 23, 24, 331, 332, 333, 334, 335, 336, 337, 338, 47, 40, 339, 340, 341, 342, 28, 343, 344, 345, 346, 464, 465, 474, 475, 476, 477, 478, 479, 480, 481, 482, 483, 484, 485, 486, 487, 488, 489, 490, 491, 492, 493, 494, 495, 496] (by decide +kernel) (by decide +kernel)) (goodIn_sub (fun _ h => List.mem_append_left _ (List.mem_append_left _ (List.mem_append_right _ h))) (by decide +kernel))
set_option maxRecDepth 20000 in
theorem gL_law_L_pass : GoodIn wsL_law (va_wsS RL 97 yL_pass wsL_pass) := goodIn_app (goodIn_of _ (by decide +kernel)) ggL_law_L_pass
set_option maxRecDepth 20000 in
theorem ggL_law_X4_pass : GoodIn wsL_law wsX4_pass := goodIn_r _ [350, 103, 62, 105, 106, 5, 107, 108, 109, 110, 111, 351, 270, 271, 61, 272, 66, 70, 352, 353, 354, 355, 356, 357, 358, 359, 69, 72, 73, 265, 71, 267, 360, 247, 191, 248, 303, 190, 192, 277, 278, 279, 280, 268, 281, 282, 283, 284, 285, 361, 362, 363, 364, 266, 365, 300, 301, 302, 68, 466, 467, 468, 469, 470, 471, 472, 473, 497, 498, 499, 500, 501, 502, 503, 504, 505, 506, 507, 508] (by decide +kernel) (by decide +kernel)
set_option maxRecDepth 20000 in
theorem gL_law_X4_pass : GoodIn wsL_law (wsV RL 99 RX4 yX4_pass wsX4_pass) := goodIn_app (goodIn_of _ (by decide +kernel)) ggL_law_X4_pass
set_option maxRecDepth 20000 in
theorem ggL_law_L_when : GoodIn wsL_law wsL_when := goodIn_ca (goodIn_r _ [368, 119, 369, 370, 371, 2, 372, 124, 125, 16, 88, 17, 126, 127, 128, 129, 31, 130, 39, 373, 374, 375, 15, 376, 21, 22, 23, 24, 25, 26, 28, 377, 378, 379, 380, 32, 33, 34, 35, 381, 382, 383, 384, 40, 41, 42, 43, 385, 44, 45, 46, 47, 48, 49, 50, 386, 320, 321, 322, 235, 236, 238, 239, 240, 241, 242, 243, 244, 245, 246, 247, 191, 248, 249, 250, 251, 252, 253, 254, 255, 256, 323, 324, 325, 326, 209, 210, 327, 294, 190, 192, 328, 329, 132, 133, 134, 95, 96, 97, 98, 330, 291, 292, 293, 331, 332, 333, 334, 335, 336, 337, 338, 339, 340, 341, 342, 343, 344, 345, 346, 464, 465, 474, 475, 476, 477, 478, 479, 480, 481, 482, 483, 484, 485, 486, 487, 488, 489, 490, 491, 492, 493, 494, 495, 496] (by decide +kernel) (by decide +kernel)) (goodIn_sub (fun _ h => List.mem_append_right _ h) (by decide +kernel))
set_option maxRecDepth 20000 in
theorem gL_law_L_when : GoodIn wsL_law (va_wsS RL 100 yL_when wsL_when) := goodIn_app (goodIn_of _ (by decide +kernel)) ggL_law_L_when
set_option maxRecDepth 20000 in
theorem ggL_law_X4_when : GoodIn wsL_law wsX4_when := goodIn_r _ [390, 103, 63, 62, 143, 144, 145, 5, 146, 104, 105, 106, 107, 108, 109, 110, 111, 391, 392, 393, 61, 394, 265, 266, 68, 267, 268, 69, 281, 70, 71, 72, 73, 395, 396, 397, 398, 399, 378, 379, 380, 400, 357, 358, 359, 66, 360, 247, 191, 248, 303, 190, 192, 277, 278, 279, 280, 282, 283, 284, 285, 361, 362, 363, 364, 365, 300, 301, 302, 466, 467, 468, 469, 470, 471, 472, 473, 497, 498, 499, 500, 501, 502, 503, 504, 505, 506, 507, 508] (by decide +kernel) (by decide +kernel)
set_option maxRecDepth 20000 in
theorem gL_law_X4_when : GoodIn wsL_law (wsV RL 102 RX4 yX4_when wsX4_when) := goodIn_app (goodIn_of _ (by decide +kernel)) ggL_law_X4_when
set_option maxRecDepth 20000 in
theorem ggL_law_L_foresee : GoodIn wsL_law wsL_foresee := goodIn_ca (goodIn_ca (goodIn_r _ [403, 78, 119, 404, 405, 406, 2, 407, 84, 85, 124, 125, 17, 16, 88, 311, 408, 166, 188, 312, 313, 314, 373, 374, 375, 15, 376, 21, 22, 23, 24, 25, 26, 28, 377, 378, 379, 380, 32, 33, 34, 35, 381, 382, 383, 31, 384, 39, 40, 41, 42, 43, 385, 44, 45, 46, 47, 48, 49, 50, 315, 316, 317, 318, 319, 320, 321, 322, 235, 236, 238, 239, 240, 241, 242, 243, 244, 245, 246, 247, 191, 248, 249, 250, 251, 252, 253, 254, 255, 256, 323, 324, 325, 326, 209, 210, 327, 294, 190, 192, 328, 128, 129, 130, 329, 132, 133, 134, 95, 96, 97, 98, 330, 291, 292, 293, 331, 332, 333, 334, 335, 336, 337, 338, 339, 340, 341, 342, 343, 344, 345, 346, 464, 465, 474, 475, 476, 477, 478, 479, 480, 481, 482, 483, 484, 485, 486, 487, 488, 489, 490, 491, 492, 493, 494, 495, 496] (by decide +kernel) (by decide +kernel)) (goodIn_sub (fun _ h => List.mem_append_left _ (List.mem_append_left _ (List.mem_append_right _ h))) (by decide +kernel))) (goodIn_sub (fun _ h => List.mem_append_right _ h) (by decide +kernel))
set_option maxRecDepth 20000 in
theorem gL_law_L_foresee : GoodIn wsL_law (va_wsS RL 103 yL_foresee wsL_foresee) := goodIn_app (goodIn_of _ (by decide +kernel)) ggL_law_L_foresee
set_option maxRecDepth 20000 in
theorem ggL_law_X4_foresee : GoodIn wsL_law wsX4_foresee := goodIn_r _ [412, 103, 63, 62, 105, 106, 5, 107, 108, 109, 110, 111, 391, 392, 393, 61, 394, 265, 266, 68, 267, 268, 69, 281, 70, 71, 72, 73, 395, 396, 397, 398, 399, 378, 379, 380, 352, 353, 354, 355, 356, 357, 358, 359, 66, 360, 247, 191, 248, 303, 190, 192, 277, 278, 279, 280, 282, 283, 284, 285, 361, 362, 363, 364, 365, 300, 301, 302, 351, 270, 271, 272, 413, 274, 275, 276, 466, 467, 468, 469, 470, 471, 472, 473, 497, 498, 499, 500, 501, 502, 503, 504, 505, 506, 507, 508] (by decide +kernel) (by decide +kernel)
set_option maxRecDepth 20000 in
theorem gL_law_X4_foresee : GoodIn wsL_law (wsV RL 105 RX4 yX4_foresee wsX4_foresee) := goodIn_app (goodIn_of _ (by decide +kernel)) ggL_law_X4_foresee
set_option maxRecDepth 20000 in
theorem ggL_law_L_bestCode : GoodIn wsL_law wsL_bestCode := goodIn_ca (goodIn_r _ [416, 78, 417, 418, 419, 2, 420, 84, 85, 16, 167, 312, 313, 314, 421, 422, 423, 424, 17, 154, 408, 373, 374, 375, 15, 376, 21, 22, 23, 24, 25, 26, 28, 377, 378, 379, 380, 32, 33, 34, 35, 381, 382, 383, 31, 384, 39, 40, 41, 42, 43, 385, 44, 45, 46, 47, 48, 49, 50, 315, 316, 317, 318, 319, 320, 321, 322, 235, 236, 238, 239, 240, 241, 242, 243, 244, 245, 246, 247, 191, 248, 249, 250, 251, 252, 253, 254, 255, 256, 323, 324, 325, 326, 209, 210, 327, 294, 190, 192, 328, 128, 129, 130, 329, 132, 133, 134, 95, 96, 97, 98, 330, 291, 292, 293, 331, 332, 333, 334, 335, 336, 337, 338, 339, 340, 341, 342, 343, 344, 345, 346, 464, 465, 474, 475, 476, 477, 478, 479, 480, 481, 482, 483, 484, 485, 486, 487, 488, 489, 490, 491, 492, 493, 494, 495, 496] (by decide +kernel) (by decide +kernel)) (goodIn_sub (fun _ h => List.mem_append_left _ (List.mem_append_left _ (List.mem_append_right _ h))) (by decide +kernel))
set_option maxRecDepth 20000 in
theorem gL_law_L_bestCode : GoodIn wsL_law (va_wsS RL 106 yL_bestCode wsL_bestCode) := goodIn_app (goodIn_of _ (by decide +kernel)) ggL_law_L_bestCode
set_option maxRecDepth 20000 in
theorem ggL_law_X4_bestCode : GoodIn wsL_law wsX4_bestCode := goodIn_r _ [428, 103, 105, 106, 5, 107, 429, 430, 431, 432, 63, 62, 391, 392, 393, 61, 394, 265, 266, 68, 267, 268, 69, 281, 70, 71, 72, 73, 395, 396, 397, 398, 399, 378, 379, 380, 352, 353, 354, 355, 356, 357, 358, 359, 66, 360, 247, 191, 248, 303, 190, 192, 277, 278, 279, 280, 282, 283, 284, 285, 361, 362, 363, 364, 365, 300, 301, 302, 413, 274, 275, 276, 108, 109, 110, 111, 466, 467, 468, 469, 470, 471, 472, 473, 497, 498, 499, 500, 501, 502, 503, 504, 505, 506, 507, 508] (by decide +kernel) (by decide +kernel)
set_option maxRecDepth 20000 in
theorem gL_law_X4_bestCode : GoodIn wsL_law (wsV RL 108 RX4 yX4_bestCode wsX4_bestCode) := goodIn_app (goodIn_of _ (by decide +kernel)) ggL_law_X4_bestCode
set_option maxRecDepth 20000 in
theorem ggL_law_L_bestPoise : GoodIn wsL_law wsL_bestPoise := goodIn_ca (goodIn_r _ [435, 78, 436, 437, 438, 2, 439, 84, 85, 16, 154, 312, 313, 314, 421, 422, 423, 424, 17, 167, 408, 373, 374, 375, 15, 376, 21, 22, 23, 24, 25, 26, 28, 377, 378, 379, 380, 32, 33, 34, 35, 381, 382, 383, 31, 384, 39, 40, 41, 42, 43, 385, 44, 45, 46, 47, 48, 49, 50, 315, 316, 317, 318, 319, 320, 321, 322, 235, 236, 238, 239, 240, 241, 242, 243, 244, 245, 246, 247, 191, 248, 249, 250, 251, 252, 253, 254, 255, 256, 323, 324, 325, 326, 209, 210, 327, 294, 190, 192, 328, 128, 129, 130, 329, 132, 133, 134, 95, 96, 97, 98, 330, 291, 292, 293, 331, 332, 333, 334, 335, 336, 337, 338, 339, 340, 341, 342, 343, 344, 345, 346, 464, 465, 474, 475, 476, 477, 478, 479, 480, 481, 482, 483, 484, 485, 486, 487, 488, 489, 490, 491, 492, 493, 494, 495, 496] (by decide +kernel) (by decide +kernel)) (goodIn_sub (fun _ h => List.mem_append_left _ (List.mem_append_left _ (List.mem_append_right _ h))) (by decide +kernel))
set_option maxRecDepth 20000 in
theorem gL_law_L_bestPoise : GoodIn wsL_law (va_wsS RL 109 yL_bestPoise wsL_bestPoise) := goodIn_app (goodIn_of _ (by decide +kernel)) ggL_law_L_bestPoise
set_option maxRecDepth 20000 in
theorem ggL_law_X4_bestPoise : GoodIn wsL_law wsX4_bestPoise := goodIn_r _ [443, 103, 105, 106, 5, 107, 429, 430, 431, 432, 63, 62, 391, 392, 393, 61, 394, 265, 266, 68, 267, 268, 69, 281, 70, 71, 72, 73, 395, 396, 397, 398, 399, 378, 379, 380, 352, 353, 354, 355, 356, 357, 358, 359, 66, 360, 247, 191, 248, 303, 190, 192, 277, 278, 279, 280, 282, 283, 284, 285, 361, 362, 363, 364, 365, 300, 301, 302, 413, 274, 275, 276, 108, 109, 110, 111, 466, 467, 468, 469, 470, 471, 472, 473, 497, 498, 499, 500, 501, 502, 503, 504, 505, 506, 507, 508] (by decide +kernel) (by decide +kernel)
set_option maxRecDepth 20000 in
theorem gL_law_X4_bestPoise : GoodIn wsL_law (wsV RL 111 RX4 yX4_bestPoise wsX4_bestPoise) := goodIn_app (goodIn_of _ (by decide +kernel)) ggL_law_X4_bestPoise
set_option maxRecDepth 20000 in
theorem ggL_law_X2_mean : GoodIn wsL_law wsX2_mean := goodIn_r _ [447, 16, 88, 89, 408, 464, 465, 474, 475, 476, 477, 478, 479, 480, 481, 482, 483, 484, 485, 486, 487, 488, 489, 490, 491, 492, 493, 494, 495, 496] (by decide +kernel) (by decide +kernel)
set_option maxRecDepth 20000 in
theorem gL_law_X2_mean : GoodIn wsL_law (wsV RL 112 RX2 yX2_mean wsX2_mean) := goodIn_app (goodIn_of _ (by decide +kernel)) ggL_law_X2_mean
set_option maxRecDepth 20000 in
theorem ggL_law_X4_mean : GoodIn wsL_law wsX4_mean := goodIn_r _ [451, 103, 104, 62, 413, 274, 275, 61, 276, 66, 71, 466, 467, 468, 469, 470, 471, 472, 473, 497, 498, 499, 500, 501, 502, 503, 504, 505, 506, 507, 508] (by decide +kernel) (by decide +kernel)
set_option maxRecDepth 20000 in
theorem gL_law_X4_mean : GoodIn wsL_law (wsV RL 116 RX4 yX4_mean wsX4_mean) := goodIn_app (goodIn_of _ (by decide +kernel)) ggL_law_X4_mean
set_option maxRecDepth 20000 in
theorem ggL_law_X2_digest : GoodIn wsL_law wsX2_digest := goodIn_r _ [455, 456, 457, 16, 179, 88, 89, 230, 231, 232, 15, 233, 21, 22, 23, 24, 25, 32, 234, 235, 236, 237, 26, 33, 238, 239, 240, 241, 35, 242, 243, 244, 31, 245, 49, 50, 246, 247, 191, 248, 249, 250, 251, 252, 253, 254, 255, 256, 205, 206, 207, 208, 209, 210, 211, 212, 34, 213, 214, 136, 137, 138, 45, 48, 46, 464, 465, 474, 475, 476, 477, 478, 479, 480, 481, 482, 483, 484, 485, 486, 487, 488, 489, 490, 491, 492, 493, 494, 495, 496] (by decide +kernel) (by decide +kernel)
set_option maxRecDepth 20000 in
theorem gL_law_X2_digest : GoodIn wsL_law (wsV RL 117 RX2 yX2_digest wsX2_digest) := goodIn_app (goodIn_of _ (by decide +kernel)) ggL_law_X2_digest
set_option maxRecDepth 20000 in
theorem ggL_law_X4_digest : GoodIn wsL_law wsX4_digest := goodIn_r _ [461, 103, 462, 463, 62, 58, 104, 261, 262, 263, 61, 264, 265, 266, 68, 267, 268, 66, 69, 269, 270, 271, 272, 70, 273, 274, 275, 276, 71, 277, 278, 279, 280, 281, 282, 283, 284, 285, 219, 220, 221, 5, 222, 27, 55, 56, 57, 466, 467, 468, 469, 470, 471, 472, 473, 497, 498, 499, 500, 501, 502, 503, 504, 505, 506, 507, 508] (by decide +kernel) (by decide +kernel)
set_option maxRecDepth 20000 in
theorem gL_law_X4_digest : GoodIn wsL_law (wsV RL 121 RX4 yX4_digest wsX4_digest) := goodIn_app (goodIn_of _ (by decide +kernel)) ggL_law_X4_digest
theorem dL_law_0 : decode cL_law 0 = .ok (.new 8, 3) := by decide +kernel
theorem dL_law_3 : decode cL_law 3 = .ok (.dup, 1) := by decide +kernel
theorem dL_law_4 : decode cL_law 4 = .ok (.invokespecial 54, 3) := by decide +kernel
theorem dL_law_7 : decode cL_law 7 = .ok (.astore_n 1, 1) := by decide +kernel
theorem dL_law_8 : decode cL_law 8 = .ok (.new 55, 3) := by decide +kernel
theorem dL_law_11 : decode cL_law 11 = .ok (.dup, 1) := by decide +kernel
theorem dL_law_12 : decode cL_law 12 = .ok (.invokespecial 57, 3) := by decide +kernel
theorem dL_law_15 : decode cL_law 15 = .ok (.astore_n 2, 1) := by decide +kernel
theorem dL_law_16 : decode cL_law 16 = .ok (.iconst 1, 1) := by decide +kernel
theorem dL_law_17 : decode cL_law 17 = .ok (.newarray .long, 2) := by decide +kernel
theorem dL_law_19 : decode cL_law 19 = .ok (.astore_n 3, 1) := by decide +kernel
theorem dL_law_20 : decode cL_law 20 = .ok (.iconst 0, 1) := by decide +kernel
theorem dL_law_21 : decode cL_law 21 = .ok (.istore 4, 2) := by decide +kernel
theorem dL_law_23 : decode cL_law 23 = .ok (.iload 4, 2) := by decide +kernel
theorem dL_law_25 : decode cL_law 25 = .ok (.aload_n 0, 1) := by decide +kernel
theorem dL_law_26 : decode cL_law 26 = .ok (.arraylength, 1) := by decide +kernel
theorem dL_law_27 : decode cL_law 27 = .ok (.iconst 3, 1) := by decide +kernel
theorem dL_law_28 : decode cL_law 28 = .ok (.isub, 1) := by decide +kernel
theorem dL_law_29 : decode cL_law 29 = .ok (.if_icmp .gt 938, 3) := by decide +kernel
theorem dL_law_32 : decode cL_law 32 = .ok (.aload_n 0, 1) := by decide +kernel
theorem dL_law_33 : decode cL_law 33 = .ok (.iload 4, 2) := by decide +kernel
theorem dL_law_35 : decode cL_law 35 = .ok (.iaload, 1) := by decide +kernel
theorem dL_law_36 : decode cL_law 36 = .ok (.bipush 15, 2) := by decide +kernel
theorem dL_law_38 : decode cL_law 38 = .ok (.iand, 1) := by decide +kernel
theorem dL_law_39 : decode cL_law 39 = .ok (.tableswitch 922 0 15 #[77, 161, 217, 273, 329, 397, 410, 478, 534, 575, 631, 687, 755, 811, 867, 908], 77) := by decide +kernel
theorem dL_law_116 : decode cL_law 116 = .ok (.aload_n 1, 1) := by decide +kernel
theorem dL_law_117 : decode cL_law 117 = .ok (.aload_n 0, 1) := by decide +kernel
theorem dL_law_118 : decode cL_law 118 = .ok (.iload 4, 2) := by decide +kernel
theorem dL_law_120 : decode cL_law 120 = .ok (.iconst 1, 1) := by decide +kernel
theorem dL_law_121 : decode cL_law 121 = .ok (.iadd, 1) := by decide +kernel
theorem dL_law_122 : decode cL_law 122 = .ok (.iaload, 1) := by decide +kernel
theorem dL_law_123 : decode cL_law 123 = .ok (.ifCond .eq 7, 3) := by decide +kernel
theorem dL_law_126 : decode cL_law 126 = .ok (.iconst 1, 1) := by decide +kernel
theorem dL_law_127 : decode cL_law 127 = .ok (.goto 4, 3) := by decide +kernel
theorem dL_law_130 : decode cL_law 130 = .ok (.iconst 0, 1) := by decide +kernel
theorem dL_law_131 : decode cL_law 131 = .ok (.aload_n 0, 1) := by decide +kernel
theorem dL_law_132 : decode cL_law 132 = .ok (.iload 4, 2) := by decide +kernel
theorem dL_law_134 : decode cL_law 134 = .ok (.iconst 2, 1) := by decide +kernel
theorem dL_law_135 : decode cL_law 135 = .ok (.iadd, 1) := by decide +kernel
theorem dL_law_136 : decode cL_law 136 = .ok (.iaload, 1) := by decide +kernel
theorem dL_law_137 : decode cL_law 137 = .ok (.aload_n 3, 1) := by decide +kernel
theorem dL_law_138 : decode cL_law 138 = .ok (.invokestatic 58, 3) := by decide +kernel
theorem dL_law_141 : decode cL_law 141 = .ok (.istore 5, 2) := by decide +kernel
theorem dL_law_143 : decode cL_law 143 = .ok (.aload_n 2, 1) := by decide +kernel
theorem dL_law_144 : decode cL_law 144 = .ok (.aload_n 0, 1) := by decide +kernel
theorem dL_law_145 : decode cL_law 145 = .ok (.iload 4, 2) := by decide +kernel
theorem dL_law_147 : decode cL_law 147 = .ok (.iconst 1, 1) := by decide +kernel
theorem dL_law_148 : decode cL_law 148 = .ok (.iadd, 1) := by decide +kernel
theorem dL_law_149 : decode cL_law 149 = .ok (.iaload, 1) := by decide +kernel
theorem dL_law_150 : decode cL_law 150 = .ok (.ifCond .eq 7, 3) := by decide +kernel
theorem dL_law_153 : decode cL_law 153 = .ok (.iconst 1, 1) := by decide +kernel
theorem dL_law_154 : decode cL_law 154 = .ok (.goto 4, 3) := by decide +kernel
theorem dL_law_157 : decode cL_law 157 = .ok (.iconst 0, 1) := by decide +kernel
theorem dL_law_158 : decode cL_law 158 = .ok (.aload_n 0, 1) := by decide +kernel
theorem dL_law_159 : decode cL_law 159 = .ok (.iload 4, 2) := by decide +kernel
theorem dL_law_161 : decode cL_law 161 = .ok (.iconst 2, 1) := by decide +kernel
theorem dL_law_162 : decode cL_law 162 = .ok (.iadd, 1) := by decide +kernel
theorem dL_law_163 : decode cL_law 163 = .ok (.iaload, 1) := by decide +kernel
theorem dL_law_164 : decode cL_law 164 = .ok (.invokevirtual 63, 3) := by decide +kernel
theorem dL_law_167 : decode cL_law 167 = .ok (.istore 6, 2) := by decide +kernel
theorem dL_law_169 : decode cL_law 169 = .ok (.aload_n 2, 1) := by decide +kernel
theorem dL_law_170 : decode cL_law 170 = .ok (.invokevirtual 64, 3) := by decide +kernel
theorem dL_law_173 : decode cL_law 173 = .ok (.iload 5, 2) := by decide +kernel
theorem dL_law_175 : decode cL_law 175 = .ok (.if_icmp .eq 5, 3) := by decide +kernel
theorem dL_law_178 : decode cL_law 178 = .ok (.iconst 0, 1) := by decide +kernel
theorem dL_law_179 : decode cL_law 179 = .ok (.ireturn, 1) := by decide +kernel
theorem dL_law_180 : decode cL_law 180 = .ok (.iload 5, 2) := by decide +kernel
theorem dL_law_182 : decode cL_law 182 = .ok (.ifCond .ne 15, 3) := by decide +kernel
theorem dL_law_185 : decode cL_law 185 = .ok (.aload_n 3, 1) := by decide +kernel
theorem dL_law_186 : decode cL_law 186 = .ok (.iconst 0, 1) := by decide +kernel
theorem dL_law_187 : decode cL_law 187 = .ok (.laload, 1) := by decide +kernel
theorem dL_law_188 : decode cL_law 188 = .ok (.iload 6, 2) := by decide +kernel
theorem dL_law_190 : decode cL_law 190 = .ok (.i2l, 1) := by decide +kernel
theorem dL_law_191 : decode cL_law 191 = .ok (.lcmp, 1) := by decide +kernel
theorem dL_law_192 : decode cL_law 192 = .ok (.ifCond .eq 5, 3) := by decide +kernel
theorem dL_law_195 : decode cL_law 195 = .ok (.iconst 0, 1) := by decide +kernel
theorem dL_law_196 : decode cL_law 196 = .ok (.ireturn, 1) := by decide +kernel
theorem dL_law_197 : decode cL_law 197 = .ok (.goto 764, 3) := by decide +kernel
theorem dL_law_200 : decode cL_law 200 = .ok (.aload_n 1, 1) := by decide +kernel
theorem dL_law_201 : decode cL_law 201 = .ok (.aload_n 0, 1) := by decide +kernel
theorem dL_law_202 : decode cL_law 202 = .ok (.iload 4, 2) := by decide +kernel
theorem dL_law_204 : decode cL_law 204 = .ok (.iconst 1, 1) := by decide +kernel
theorem dL_law_205 : decode cL_law 205 = .ok (.iadd, 1) := by decide +kernel
theorem dL_law_206 : decode cL_law 206 = .ok (.iaload, 1) := by decide +kernel
theorem dL_law_207 : decode cL_law 207 = .ok (.aload_n 3, 1) := by decide +kernel
theorem dL_law_208 : decode cL_law 208 = .ok (.invokestatic 68, 3) := by decide +kernel
theorem dL_law_211 : decode cL_law 211 = .ok (.istore 5, 2) := by decide +kernel
theorem dL_law_213 : decode cL_law 213 = .ok (.aload_n 2, 1) := by decide +kernel
theorem dL_law_214 : decode cL_law 214 = .ok (.aload_n 0, 1) := by decide +kernel
theorem dL_law_215 : decode cL_law 215 = .ok (.iload 4, 2) := by decide +kernel
theorem dL_law_217 : decode cL_law 217 = .ok (.iconst 1, 1) := by decide +kernel
theorem dL_law_218 : decode cL_law 218 = .ok (.iadd, 1) := by decide +kernel
theorem dL_law_219 : decode cL_law 219 = .ok (.iaload, 1) := by decide +kernel
theorem dL_law_220 : decode cL_law 220 = .ok (.invokevirtual 71, 3) := by decide +kernel
theorem dL_law_223 : decode cL_law 223 = .ok (.istore 6, 2) := by decide +kernel
theorem dL_law_225 : decode cL_law 225 = .ok (.aload_n 2, 1) := by decide +kernel
theorem dL_law_226 : decode cL_law 226 = .ok (.invokevirtual 64, 3) := by decide +kernel
theorem dL_law_229 : decode cL_law 229 = .ok (.iload 5, 2) := by decide +kernel
theorem dL_law_231 : decode cL_law 231 = .ok (.if_icmp .eq 5, 3) := by decide +kernel
theorem dL_law_234 : decode cL_law 234 = .ok (.iconst 0, 1) := by decide +kernel
theorem dL_law_235 : decode cL_law 235 = .ok (.ireturn, 1) := by decide +kernel
theorem dL_law_236 : decode cL_law 236 = .ok (.iload 5, 2) := by decide +kernel
theorem dL_law_238 : decode cL_law 238 = .ok (.ifCond .ne 15, 3) := by decide +kernel
theorem dL_law_241 : decode cL_law 241 = .ok (.aload_n 3, 1) := by decide +kernel
theorem dL_law_242 : decode cL_law 242 = .ok (.iconst 0, 1) := by decide +kernel
theorem dL_law_243 : decode cL_law 243 = .ok (.laload, 1) := by decide +kernel
theorem dL_law_244 : decode cL_law 244 = .ok (.iload 6, 2) := by decide +kernel
theorem dL_law_246 : decode cL_law 246 = .ok (.i2l, 1) := by decide +kernel
theorem dL_law_247 : decode cL_law 247 = .ok (.lcmp, 1) := by decide +kernel
theorem dL_law_248 : decode cL_law 248 = .ok (.ifCond .eq 5, 3) := by decide +kernel
theorem dL_law_251 : decode cL_law 251 = .ok (.iconst 0, 1) := by decide +kernel
theorem dL_law_252 : decode cL_law 252 = .ok (.ireturn, 1) := by decide +kernel
theorem dL_law_253 : decode cL_law 253 = .ok (.goto 708, 3) := by decide +kernel
theorem dL_law_256 : decode cL_law 256 = .ok (.aload_n 1, 1) := by decide +kernel
theorem dL_law_257 : decode cL_law 257 = .ok (.aload_n 0, 1) := by decide +kernel
theorem dL_law_258 : decode cL_law 258 = .ok (.iload 4, 2) := by decide +kernel
theorem dL_law_260 : decode cL_law 260 = .ok (.iconst 1, 1) := by decide +kernel
theorem dL_law_261 : decode cL_law 261 = .ok (.iadd, 1) := by decide +kernel
theorem dL_law_262 : decode cL_law 262 = .ok (.iaload, 1) := by decide +kernel
theorem dL_law_263 : decode cL_law 263 = .ok (.aload_n 3, 1) := by decide +kernel
theorem dL_law_264 : decode cL_law 264 = .ok (.invokestatic 72, 3) := by decide +kernel
theorem dL_law_267 : decode cL_law 267 = .ok (.istore 5, 2) := by decide +kernel
theorem dL_law_269 : decode cL_law 269 = .ok (.aload_n 2, 1) := by decide +kernel
theorem dL_law_270 : decode cL_law 270 = .ok (.aload_n 0, 1) := by decide +kernel
theorem dL_law_271 : decode cL_law 271 = .ok (.iload 4, 2) := by decide +kernel
theorem dL_law_273 : decode cL_law 273 = .ok (.iconst 1, 1) := by decide +kernel
theorem dL_law_274 : decode cL_law 274 = .ok (.iadd, 1) := by decide +kernel
theorem dL_law_275 : decode cL_law 275 = .ok (.iaload, 1) := by decide +kernel
theorem dL_law_276 : decode cL_law 276 = .ok (.invokevirtual 74, 3) := by decide +kernel
theorem dL_law_279 : decode cL_law 279 = .ok (.istore 6, 2) := by decide +kernel
theorem dL_law_281 : decode cL_law 281 = .ok (.aload_n 2, 1) := by decide +kernel
theorem dL_law_282 : decode cL_law 282 = .ok (.invokevirtual 64, 3) := by decide +kernel
theorem dL_law_285 : decode cL_law 285 = .ok (.iload 5, 2) := by decide +kernel
theorem dL_law_287 : decode cL_law 287 = .ok (.if_icmp .eq 5, 3) := by decide +kernel
theorem dL_law_290 : decode cL_law 290 = .ok (.iconst 0, 1) := by decide +kernel
theorem dL_law_291 : decode cL_law 291 = .ok (.ireturn, 1) := by decide +kernel
theorem dL_law_292 : decode cL_law 292 = .ok (.iload 5, 2) := by decide +kernel
theorem dL_law_294 : decode cL_law 294 = .ok (.ifCond .ne 15, 3) := by decide +kernel
theorem dL_law_297 : decode cL_law 297 = .ok (.aload_n 3, 1) := by decide +kernel
theorem dL_law_298 : decode cL_law 298 = .ok (.iconst 0, 1) := by decide +kernel
theorem dL_law_299 : decode cL_law 299 = .ok (.laload, 1) := by decide +kernel
theorem dL_law_300 : decode cL_law 300 = .ok (.iload 6, 2) := by decide +kernel
theorem dL_law_302 : decode cL_law 302 = .ok (.i2l, 1) := by decide +kernel
theorem dL_law_303 : decode cL_law 303 = .ok (.lcmp, 1) := by decide +kernel
theorem dL_law_304 : decode cL_law 304 = .ok (.ifCond .eq 5, 3) := by decide +kernel
theorem dL_law_307 : decode cL_law 307 = .ok (.iconst 0, 1) := by decide +kernel
theorem dL_law_308 : decode cL_law 308 = .ok (.ireturn, 1) := by decide +kernel
theorem dL_law_309 : decode cL_law 309 = .ok (.goto 652, 3) := by decide +kernel
theorem dL_law_312 : decode cL_law 312 = .ok (.aload_n 1, 1) := by decide +kernel
theorem dL_law_313 : decode cL_law 313 = .ok (.aload_n 0, 1) := by decide +kernel
theorem dL_law_314 : decode cL_law 314 = .ok (.iload 4, 2) := by decide +kernel
theorem dL_law_316 : decode cL_law 316 = .ok (.iconst 1, 1) := by decide +kernel
theorem dL_law_317 : decode cL_law 317 = .ok (.iadd, 1) := by decide +kernel
theorem dL_law_318 : decode cL_law 318 = .ok (.iaload, 1) := by decide +kernel
theorem dL_law_319 : decode cL_law 319 = .ok (.aload_n 3, 1) := by decide +kernel
theorem dL_law_320 : decode cL_law 320 = .ok (.invokestatic 75, 3) := by decide +kernel
theorem dL_law_323 : decode cL_law 323 = .ok (.istore 5, 2) := by decide +kernel
theorem dL_law_325 : decode cL_law 325 = .ok (.aload_n 2, 1) := by decide +kernel
theorem dL_law_326 : decode cL_law 326 = .ok (.aload_n 0, 1) := by decide +kernel
theorem dL_law_327 : decode cL_law 327 = .ok (.iload 4, 2) := by decide +kernel
theorem dL_law_329 : decode cL_law 329 = .ok (.iconst 1, 1) := by decide +kernel
theorem dL_law_330 : decode cL_law 330 = .ok (.iadd, 1) := by decide +kernel
theorem dL_law_331 : decode cL_law 331 = .ok (.iaload, 1) := by decide +kernel
theorem dL_law_332 : decode cL_law 332 = .ok (.invokevirtual 77, 3) := by decide +kernel
theorem dL_law_335 : decode cL_law 335 = .ok (.istore 6, 2) := by decide +kernel
theorem dL_law_337 : decode cL_law 337 = .ok (.aload_n 2, 1) := by decide +kernel
theorem dL_law_338 : decode cL_law 338 = .ok (.invokevirtual 64, 3) := by decide +kernel
theorem dL_law_341 : decode cL_law 341 = .ok (.iload 5, 2) := by decide +kernel
theorem dL_law_343 : decode cL_law 343 = .ok (.if_icmp .eq 5, 3) := by decide +kernel
theorem dL_law_346 : decode cL_law 346 = .ok (.iconst 0, 1) := by decide +kernel
theorem dL_law_347 : decode cL_law 347 = .ok (.ireturn, 1) := by decide +kernel
theorem dL_law_348 : decode cL_law 348 = .ok (.iload 5, 2) := by decide +kernel
theorem dL_law_350 : decode cL_law 350 = .ok (.ifCond .ne 15, 3) := by decide +kernel
theorem dL_law_353 : decode cL_law 353 = .ok (.aload_n 3, 1) := by decide +kernel
theorem dL_law_354 : decode cL_law 354 = .ok (.iconst 0, 1) := by decide +kernel
theorem dL_law_355 : decode cL_law 355 = .ok (.laload, 1) := by decide +kernel
theorem dL_law_356 : decode cL_law 356 = .ok (.iload 6, 2) := by decide +kernel
theorem dL_law_358 : decode cL_law 358 = .ok (.i2l, 1) := by decide +kernel
theorem dL_law_359 : decode cL_law 359 = .ok (.lcmp, 1) := by decide +kernel
theorem dL_law_360 : decode cL_law 360 = .ok (.ifCond .eq 5, 3) := by decide +kernel
theorem dL_law_363 : decode cL_law 363 = .ok (.iconst 0, 1) := by decide +kernel
theorem dL_law_364 : decode cL_law 364 = .ok (.ireturn, 1) := by decide +kernel
theorem dL_law_365 : decode cL_law 365 = .ok (.goto 596, 3) := by decide +kernel
theorem dL_law_368 : decode cL_law 368 = .ok (.aload_n 1, 1) := by decide +kernel
theorem dL_law_369 : decode cL_law 369 = .ok (.aload_n 0, 1) := by decide +kernel
theorem dL_law_370 : decode cL_law 370 = .ok (.iload 4, 2) := by decide +kernel
theorem dL_law_372 : decode cL_law 372 = .ok (.iconst 1, 1) := by decide +kernel
theorem dL_law_373 : decode cL_law 373 = .ok (.iadd, 1) := by decide +kernel
theorem dL_law_374 : decode cL_law 374 = .ok (.iaload, 1) := by decide +kernel
theorem dL_law_375 : decode cL_law 375 = .ok (.aload_n 0, 1) := by decide +kernel
theorem dL_law_376 : decode cL_law 376 = .ok (.iload 4, 2) := by decide +kernel
theorem dL_law_378 : decode cL_law 378 = .ok (.iconst 2, 1) := by decide +kernel
theorem dL_law_379 : decode cL_law 379 = .ok (.iadd, 1) := by decide +kernel
theorem dL_law_380 : decode cL_law 380 = .ok (.iaload, 1) := by decide +kernel
theorem dL_law_381 : decode cL_law 381 = .ok (.aload_n 3, 1) := by decide +kernel
theorem dL_law_382 : decode cL_law 382 = .ok (.invokestatic 78, 3) := by decide +kernel
theorem dL_law_385 : decode cL_law 385 = .ok (.istore 5, 2) := by decide +kernel
theorem dL_law_387 : decode cL_law 387 = .ok (.aload_n 2, 1) := by decide +kernel
theorem dL_law_388 : decode cL_law 388 = .ok (.aload_n 0, 1) := by decide +kernel
theorem dL_law_389 : decode cL_law 389 = .ok (.iload 4, 2) := by decide +kernel
theorem dL_law_391 : decode cL_law 391 = .ok (.iconst 1, 1) := by decide +kernel
theorem dL_law_392 : decode cL_law 392 = .ok (.iadd, 1) := by decide +kernel
theorem dL_law_393 : decode cL_law 393 = .ok (.iaload, 1) := by decide +kernel
theorem dL_law_394 : decode cL_law 394 = .ok (.aload_n 0, 1) := by decide +kernel
theorem dL_law_395 : decode cL_law 395 = .ok (.iload 4, 2) := by decide +kernel
theorem dL_law_397 : decode cL_law 397 = .ok (.iconst 2, 1) := by decide +kernel
theorem dL_law_398 : decode cL_law 398 = .ok (.iadd, 1) := by decide +kernel
theorem dL_law_399 : decode cL_law 399 = .ok (.iaload, 1) := by decide +kernel
theorem dL_law_400 : decode cL_law 400 = .ok (.invokevirtual 81, 3) := by decide +kernel
theorem dL_law_403 : decode cL_law 403 = .ok (.istore 6, 2) := by decide +kernel
theorem dL_law_405 : decode cL_law 405 = .ok (.aload_n 2, 1) := by decide +kernel
theorem dL_law_406 : decode cL_law 406 = .ok (.invokevirtual 64, 3) := by decide +kernel
theorem dL_law_409 : decode cL_law 409 = .ok (.iload 5, 2) := by decide +kernel
theorem dL_law_411 : decode cL_law 411 = .ok (.if_icmp .eq 5, 3) := by decide +kernel
theorem dL_law_414 : decode cL_law 414 = .ok (.iconst 0, 1) := by decide +kernel
theorem dL_law_415 : decode cL_law 415 = .ok (.ireturn, 1) := by decide +kernel
theorem dL_law_416 : decode cL_law 416 = .ok (.iload 5, 2) := by decide +kernel
theorem dL_law_418 : decode cL_law 418 = .ok (.ifCond .ne 15, 3) := by decide +kernel
theorem dL_law_421 : decode cL_law 421 = .ok (.aload_n 3, 1) := by decide +kernel
theorem dL_law_422 : decode cL_law 422 = .ok (.iconst 0, 1) := by decide +kernel
theorem dL_law_423 : decode cL_law 423 = .ok (.laload, 1) := by decide +kernel
theorem dL_law_424 : decode cL_law 424 = .ok (.iload 6, 2) := by decide +kernel
theorem dL_law_426 : decode cL_law 426 = .ok (.i2l, 1) := by decide +kernel
theorem dL_law_427 : decode cL_law 427 = .ok (.lcmp, 1) := by decide +kernel
theorem dL_law_428 : decode cL_law 428 = .ok (.ifCond .eq 5, 3) := by decide +kernel
theorem dL_law_431 : decode cL_law 431 = .ok (.iconst 0, 1) := by decide +kernel
theorem dL_law_432 : decode cL_law 432 = .ok (.ireturn, 1) := by decide +kernel
theorem dL_law_433 : decode cL_law 433 = .ok (.goto 528, 3) := by decide +kernel
theorem dL_law_436 : decode cL_law 436 = .ok (.aload_n 1, 1) := by decide +kernel
theorem dL_law_437 : decode cL_law 437 = .ok (.invokevirtual 82, 3) := by decide +kernel
theorem dL_law_440 : decode cL_law 440 = .ok (.aload_n 2, 1) := by decide +kernel
theorem dL_law_441 : decode cL_law 441 = .ok (.invokevirtual 85, 3) := by decide +kernel
theorem dL_law_444 : decode cL_law 444 = .ok (.if_icmp .eq 517, 3) := by decide +kernel
theorem dL_law_447 : decode cL_law 447 = .ok (.iconst 0, 1) := by decide +kernel
theorem dL_law_448 : decode cL_law 448 = .ok (.ireturn, 1) := by decide +kernel
theorem dL_law_449 : decode cL_law 449 = .ok (.aload_n 1, 1) := by decide +kernel
theorem dL_law_450 : decode cL_law 450 = .ok (.aload_n 0, 1) := by decide +kernel
theorem dL_law_451 : decode cL_law 451 = .ok (.iload 4, 2) := by decide +kernel
theorem dL_law_453 : decode cL_law 453 = .ok (.iconst 1, 1) := by decide +kernel
theorem dL_law_454 : decode cL_law 454 = .ok (.iadd, 1) := by decide +kernel
theorem dL_law_455 : decode cL_law 455 = .ok (.iaload, 1) := by decide +kernel
theorem dL_law_456 : decode cL_law 456 = .ok (.aload_n 0, 1) := by decide +kernel
theorem dL_law_457 : decode cL_law 457 = .ok (.iload 4, 2) := by decide +kernel
theorem dL_law_459 : decode cL_law 459 = .ok (.iconst 2, 1) := by decide +kernel
theorem dL_law_460 : decode cL_law 460 = .ok (.iadd, 1) := by decide +kernel
theorem dL_law_461 : decode cL_law 461 = .ok (.iaload, 1) := by decide +kernel
theorem dL_law_462 : decode cL_law 462 = .ok (.aload_n 3, 1) := by decide +kernel
theorem dL_law_463 : decode cL_law 463 = .ok (.invokestatic 86, 3) := by decide +kernel
theorem dL_law_466 : decode cL_law 466 = .ok (.istore 5, 2) := by decide +kernel
theorem dL_law_468 : decode cL_law 468 = .ok (.aload_n 2, 1) := by decide +kernel
theorem dL_law_469 : decode cL_law 469 = .ok (.aload_n 0, 1) := by decide +kernel
theorem dL_law_470 : decode cL_law 470 = .ok (.iload 4, 2) := by decide +kernel
theorem dL_law_472 : decode cL_law 472 = .ok (.iconst 1, 1) := by decide +kernel
theorem dL_law_473 : decode cL_law 473 = .ok (.iadd, 1) := by decide +kernel
theorem dL_law_474 : decode cL_law 474 = .ok (.iaload, 1) := by decide +kernel
theorem dL_law_475 : decode cL_law 475 = .ok (.aload_n 0, 1) := by decide +kernel
theorem dL_law_476 : decode cL_law 476 = .ok (.iload 4, 2) := by decide +kernel
theorem dL_law_478 : decode cL_law 478 = .ok (.iconst 2, 1) := by decide +kernel
theorem dL_law_479 : decode cL_law 479 = .ok (.iadd, 1) := by decide +kernel
theorem dL_law_480 : decode cL_law 480 = .ok (.iaload, 1) := by decide +kernel
theorem dL_law_481 : decode cL_law 481 = .ok (.invokevirtual 88, 3) := by decide +kernel
theorem dL_law_484 : decode cL_law 484 = .ok (.istore 6, 2) := by decide +kernel
theorem dL_law_486 : decode cL_law 486 = .ok (.aload_n 2, 1) := by decide +kernel
theorem dL_law_487 : decode cL_law 487 = .ok (.invokevirtual 64, 3) := by decide +kernel
theorem dL_law_490 : decode cL_law 490 = .ok (.iload 5, 2) := by decide +kernel
theorem dL_law_492 : decode cL_law 492 = .ok (.if_icmp .eq 5, 3) := by decide +kernel
theorem dL_law_495 : decode cL_law 495 = .ok (.iconst 0, 1) := by decide +kernel
theorem dL_law_496 : decode cL_law 496 = .ok (.ireturn, 1) := by decide +kernel
theorem dL_law_497 : decode cL_law 497 = .ok (.iload 5, 2) := by decide +kernel
theorem dL_law_499 : decode cL_law 499 = .ok (.ifCond .ne 15, 3) := by decide +kernel
theorem dL_law_502 : decode cL_law 502 = .ok (.aload_n 3, 1) := by decide +kernel
theorem dL_law_503 : decode cL_law 503 = .ok (.iconst 0, 1) := by decide +kernel
theorem dL_law_504 : decode cL_law 504 = .ok (.laload, 1) := by decide +kernel
theorem dL_law_505 : decode cL_law 505 = .ok (.iload 6, 2) := by decide +kernel
theorem dL_law_507 : decode cL_law 507 = .ok (.i2l, 1) := by decide +kernel
theorem dL_law_508 : decode cL_law 508 = .ok (.lcmp, 1) := by decide +kernel
theorem dL_law_509 : decode cL_law 509 = .ok (.ifCond .eq 5, 3) := by decide +kernel
theorem dL_law_512 : decode cL_law 512 = .ok (.iconst 0, 1) := by decide +kernel
theorem dL_law_513 : decode cL_law 513 = .ok (.ireturn, 1) := by decide +kernel
theorem dL_law_514 : decode cL_law 514 = .ok (.goto 447, 3) := by decide +kernel
theorem dL_law_517 : decode cL_law 517 = .ok (.aload_n 1, 1) := by decide +kernel
theorem dL_law_518 : decode cL_law 518 = .ok (.aload_n 0, 1) := by decide +kernel
theorem dL_law_519 : decode cL_law 519 = .ok (.iload 4, 2) := by decide +kernel
theorem dL_law_521 : decode cL_law 521 = .ok (.iconst 1, 1) := by decide +kernel
theorem dL_law_522 : decode cL_law 522 = .ok (.iadd, 1) := by decide +kernel
theorem dL_law_523 : decode cL_law 523 = .ok (.iaload, 1) := by decide +kernel
theorem dL_law_524 : decode cL_law 524 = .ok (.aload_n 3, 1) := by decide +kernel
theorem dL_law_525 : decode cL_law 525 = .ok (.invokestatic 89, 3) := by decide +kernel
theorem dL_law_528 : decode cL_law 528 = .ok (.istore 5, 2) := by decide +kernel
theorem dL_law_530 : decode cL_law 530 = .ok (.aload_n 2, 1) := by decide +kernel
theorem dL_law_531 : decode cL_law 531 = .ok (.aload_n 0, 1) := by decide +kernel
theorem dL_law_532 : decode cL_law 532 = .ok (.iload 4, 2) := by decide +kernel
theorem dL_law_534 : decode cL_law 534 = .ok (.iconst 1, 1) := by decide +kernel
theorem dL_law_535 : decode cL_law 535 = .ok (.iadd, 1) := by decide +kernel
theorem dL_law_536 : decode cL_law 536 = .ok (.iaload, 1) := by decide +kernel
theorem dL_law_537 : decode cL_law 537 = .ok (.invokevirtual 91, 3) := by decide +kernel
theorem dL_law_540 : decode cL_law 540 = .ok (.istore 6, 2) := by decide +kernel
theorem dL_law_542 : decode cL_law 542 = .ok (.aload_n 2, 1) := by decide +kernel
theorem dL_law_543 : decode cL_law 543 = .ok (.invokevirtual 64, 3) := by decide +kernel
theorem dL_law_546 : decode cL_law 546 = .ok (.iload 5, 2) := by decide +kernel
theorem dL_law_548 : decode cL_law 548 = .ok (.if_icmp .eq 5, 3) := by decide +kernel
theorem dL_law_551 : decode cL_law 551 = .ok (.iconst 0, 1) := by decide +kernel
theorem dL_law_552 : decode cL_law 552 = .ok (.ireturn, 1) := by decide +kernel
theorem dL_law_553 : decode cL_law 553 = .ok (.iload 5, 2) := by decide +kernel
theorem dL_law_555 : decode cL_law 555 = .ok (.ifCond .ne 15, 3) := by decide +kernel
theorem dL_law_558 : decode cL_law 558 = .ok (.aload_n 3, 1) := by decide +kernel
theorem dL_law_559 : decode cL_law 559 = .ok (.iconst 0, 1) := by decide +kernel
theorem dL_law_560 : decode cL_law 560 = .ok (.laload, 1) := by decide +kernel
theorem dL_law_561 : decode cL_law 561 = .ok (.iload 6, 2) := by decide +kernel
theorem dL_law_563 : decode cL_law 563 = .ok (.i2l, 1) := by decide +kernel
theorem dL_law_564 : decode cL_law 564 = .ok (.lcmp, 1) := by decide +kernel
theorem dL_law_565 : decode cL_law 565 = .ok (.ifCond .eq 5, 3) := by decide +kernel
theorem dL_law_568 : decode cL_law 568 = .ok (.iconst 0, 1) := by decide +kernel
theorem dL_law_569 : decode cL_law 569 = .ok (.ireturn, 1) := by decide +kernel
theorem dL_law_570 : decode cL_law 570 = .ok (.goto 391, 3) := by decide +kernel
theorem dL_law_573 : decode cL_law 573 = .ok (.aload_n 1, 1) := by decide +kernel
theorem dL_law_574 : decode cL_law 574 = .ok (.aload_n 0, 1) := by decide +kernel
theorem dL_law_575 : decode cL_law 575 = .ok (.iload 4, 2) := by decide +kernel
theorem dL_law_577 : decode cL_law 577 = .ok (.iconst 1, 1) := by decide +kernel
theorem dL_law_578 : decode cL_law 578 = .ok (.iadd, 1) := by decide +kernel
theorem dL_law_579 : decode cL_law 579 = .ok (.iaload, 1) := by decide +kernel
theorem dL_law_580 : decode cL_law 580 = .ok (.ifCond .eq 7, 3) := by decide +kernel
theorem dL_law_583 : decode cL_law 583 = .ok (.iconst 1, 1) := by decide +kernel
theorem dL_law_584 : decode cL_law 584 = .ok (.goto 4, 3) := by decide +kernel
theorem dL_law_587 : decode cL_law 587 = .ok (.iconst 0, 1) := by decide +kernel
theorem dL_law_588 : decode cL_law 588 = .ok (.invokevirtual 92, 3) := by decide +kernel
theorem dL_law_591 : decode cL_law 591 = .ok (.aload_n 2, 1) := by decide +kernel
theorem dL_law_592 : decode cL_law 592 = .ok (.aload_n 0, 1) := by decide +kernel
theorem dL_law_593 : decode cL_law 593 = .ok (.iload 4, 2) := by decide +kernel
theorem dL_law_595 : decode cL_law 595 = .ok (.iconst 1, 1) := by decide +kernel
theorem dL_law_596 : decode cL_law 596 = .ok (.iadd, 1) := by decide +kernel
theorem dL_law_597 : decode cL_law 597 = .ok (.iaload, 1) := by decide +kernel
theorem dL_law_598 : decode cL_law 598 = .ok (.ifCond .eq 7, 3) := by decide +kernel
theorem dL_law_601 : decode cL_law 601 = .ok (.iconst 1, 1) := by decide +kernel
theorem dL_law_602 : decode cL_law 602 = .ok (.goto 4, 3) := by decide +kernel
theorem dL_law_605 : decode cL_law 605 = .ok (.iconst 0, 1) := by decide +kernel
theorem dL_law_606 : decode cL_law 606 = .ok (.invokevirtual 96, 3) := by decide +kernel
theorem dL_law_609 : decode cL_law 609 = .ok (.if_icmp .eq 352, 3) := by decide +kernel
theorem dL_law_612 : decode cL_law 612 = .ok (.iconst 0, 1) := by decide +kernel
theorem dL_law_613 : decode cL_law 613 = .ok (.ireturn, 1) := by decide +kernel
theorem dL_law_614 : decode cL_law 614 = .ok (.aload_n 1, 1) := by decide +kernel
theorem dL_law_615 : decode cL_law 615 = .ok (.aload_n 0, 1) := by decide +kernel
theorem dL_law_616 : decode cL_law 616 = .ok (.iload 4, 2) := by decide +kernel
theorem dL_law_618 : decode cL_law 618 = .ok (.iconst 1, 1) := by decide +kernel
theorem dL_law_619 : decode cL_law 619 = .ok (.iadd, 1) := by decide +kernel
theorem dL_law_620 : decode cL_law 620 = .ok (.iaload, 1) := by decide +kernel
theorem dL_law_621 : decode cL_law 621 = .ok (.aload_n 3, 1) := by decide +kernel
theorem dL_law_622 : decode cL_law 622 = .ok (.invokestatic 97, 3) := by decide +kernel
theorem dL_law_625 : decode cL_law 625 = .ok (.istore 5, 2) := by decide +kernel
theorem dL_law_627 : decode cL_law 627 = .ok (.aload_n 2, 1) := by decide +kernel
theorem dL_law_628 : decode cL_law 628 = .ok (.aload_n 0, 1) := by decide +kernel
theorem dL_law_629 : decode cL_law 629 = .ok (.iload 4, 2) := by decide +kernel
theorem dL_law_631 : decode cL_law 631 = .ok (.iconst 1, 1) := by decide +kernel
theorem dL_law_632 : decode cL_law 632 = .ok (.iadd, 1) := by decide +kernel
theorem dL_law_633 : decode cL_law 633 = .ok (.iaload, 1) := by decide +kernel
theorem dL_law_634 : decode cL_law 634 = .ok (.invokevirtual 99, 3) := by decide +kernel
theorem dL_law_637 : decode cL_law 637 = .ok (.istore 6, 2) := by decide +kernel
theorem dL_law_639 : decode cL_law 639 = .ok (.aload_n 2, 1) := by decide +kernel
theorem dL_law_640 : decode cL_law 640 = .ok (.invokevirtual 64, 3) := by decide +kernel
theorem dL_law_643 : decode cL_law 643 = .ok (.iload 5, 2) := by decide +kernel
theorem dL_law_645 : decode cL_law 645 = .ok (.if_icmp .eq 5, 3) := by decide +kernel
theorem dL_law_648 : decode cL_law 648 = .ok (.iconst 0, 1) := by decide +kernel
theorem dL_law_649 : decode cL_law 649 = .ok (.ireturn, 1) := by decide +kernel
theorem dL_law_650 : decode cL_law 650 = .ok (.iload 5, 2) := by decide +kernel
theorem dL_law_652 : decode cL_law 652 = .ok (.ifCond .ne 15, 3) := by decide +kernel
theorem dL_law_655 : decode cL_law 655 = .ok (.aload_n 3, 1) := by decide +kernel
theorem dL_law_656 : decode cL_law 656 = .ok (.iconst 0, 1) := by decide +kernel
theorem dL_law_657 : decode cL_law 657 = .ok (.laload, 1) := by decide +kernel
theorem dL_law_658 : decode cL_law 658 = .ok (.iload 6, 2) := by decide +kernel
theorem dL_law_660 : decode cL_law 660 = .ok (.i2l, 1) := by decide +kernel
theorem dL_law_661 : decode cL_law 661 = .ok (.lcmp, 1) := by decide +kernel
theorem dL_law_662 : decode cL_law 662 = .ok (.ifCond .eq 5, 3) := by decide +kernel
theorem dL_law_665 : decode cL_law 665 = .ok (.iconst 0, 1) := by decide +kernel
theorem dL_law_666 : decode cL_law 666 = .ok (.ireturn, 1) := by decide +kernel
theorem dL_law_667 : decode cL_law 667 = .ok (.goto 294, 3) := by decide +kernel
theorem dL_law_670 : decode cL_law 670 = .ok (.aload_n 1, 1) := by decide +kernel
theorem dL_law_671 : decode cL_law 671 = .ok (.aload_n 0, 1) := by decide +kernel
theorem dL_law_672 : decode cL_law 672 = .ok (.iload 4, 2) := by decide +kernel
theorem dL_law_674 : decode cL_law 674 = .ok (.iconst 1, 1) := by decide +kernel
theorem dL_law_675 : decode cL_law 675 = .ok (.iadd, 1) := by decide +kernel
theorem dL_law_676 : decode cL_law 676 = .ok (.iaload, 1) := by decide +kernel
theorem dL_law_677 : decode cL_law 677 = .ok (.aload_n 3, 1) := by decide +kernel
theorem dL_law_678 : decode cL_law 678 = .ok (.invokestatic 100, 3) := by decide +kernel
theorem dL_law_681 : decode cL_law 681 = .ok (.istore 5, 2) := by decide +kernel
theorem dL_law_683 : decode cL_law 683 = .ok (.aload_n 2, 1) := by decide +kernel
theorem dL_law_684 : decode cL_law 684 = .ok (.aload_n 0, 1) := by decide +kernel
theorem dL_law_685 : decode cL_law 685 = .ok (.iload 4, 2) := by decide +kernel
theorem dL_law_687 : decode cL_law 687 = .ok (.iconst 1, 1) := by decide +kernel
theorem dL_law_688 : decode cL_law 688 = .ok (.iadd, 1) := by decide +kernel
theorem dL_law_689 : decode cL_law 689 = .ok (.iaload, 1) := by decide +kernel
theorem dL_law_690 : decode cL_law 690 = .ok (.invokevirtual 102, 3) := by decide +kernel
theorem dL_law_693 : decode cL_law 693 = .ok (.istore 6, 2) := by decide +kernel
theorem dL_law_695 : decode cL_law 695 = .ok (.aload_n 2, 1) := by decide +kernel
theorem dL_law_696 : decode cL_law 696 = .ok (.invokevirtual 64, 3) := by decide +kernel
theorem dL_law_699 : decode cL_law 699 = .ok (.iload 5, 2) := by decide +kernel
theorem dL_law_701 : decode cL_law 701 = .ok (.if_icmp .eq 5, 3) := by decide +kernel
theorem dL_law_704 : decode cL_law 704 = .ok (.iconst 0, 1) := by decide +kernel
theorem dL_law_705 : decode cL_law 705 = .ok (.ireturn, 1) := by decide +kernel
theorem dL_law_706 : decode cL_law 706 = .ok (.iload 5, 2) := by decide +kernel
theorem dL_law_708 : decode cL_law 708 = .ok (.ifCond .ne 15, 3) := by decide +kernel
theorem dL_law_711 : decode cL_law 711 = .ok (.aload_n 3, 1) := by decide +kernel
theorem dL_law_712 : decode cL_law 712 = .ok (.iconst 0, 1) := by decide +kernel
theorem dL_law_713 : decode cL_law 713 = .ok (.laload, 1) := by decide +kernel
theorem dL_law_714 : decode cL_law 714 = .ok (.iload 6, 2) := by decide +kernel
theorem dL_law_716 : decode cL_law 716 = .ok (.i2l, 1) := by decide +kernel
theorem dL_law_717 : decode cL_law 717 = .ok (.lcmp, 1) := by decide +kernel
theorem dL_law_718 : decode cL_law 718 = .ok (.ifCond .eq 5, 3) := by decide +kernel
theorem dL_law_721 : decode cL_law 721 = .ok (.iconst 0, 1) := by decide +kernel
theorem dL_law_722 : decode cL_law 722 = .ok (.ireturn, 1) := by decide +kernel
theorem dL_law_723 : decode cL_law 723 = .ok (.goto 238, 3) := by decide +kernel
theorem dL_law_726 : decode cL_law 726 = .ok (.aload_n 1, 1) := by decide +kernel
theorem dL_law_727 : decode cL_law 727 = .ok (.aload_n 0, 1) := by decide +kernel
theorem dL_law_728 : decode cL_law 728 = .ok (.iload 4, 2) := by decide +kernel
theorem dL_law_730 : decode cL_law 730 = .ok (.iconst 1, 1) := by decide +kernel
theorem dL_law_731 : decode cL_law 731 = .ok (.iadd, 1) := by decide +kernel
theorem dL_law_732 : decode cL_law 732 = .ok (.iaload, 1) := by decide +kernel
theorem dL_law_733 : decode cL_law 733 = .ok (.aload_n 0, 1) := by decide +kernel
theorem dL_law_734 : decode cL_law 734 = .ok (.iload 4, 2) := by decide +kernel
theorem dL_law_736 : decode cL_law 736 = .ok (.iconst 2, 1) := by decide +kernel
theorem dL_law_737 : decode cL_law 737 = .ok (.iadd, 1) := by decide +kernel
theorem dL_law_738 : decode cL_law 738 = .ok (.iaload, 1) := by decide +kernel
theorem dL_law_739 : decode cL_law 739 = .ok (.aload_n 3, 1) := by decide +kernel
theorem dL_law_740 : decode cL_law 740 = .ok (.invokestatic 103, 3) := by decide +kernel
theorem dL_law_743 : decode cL_law 743 = .ok (.istore 5, 2) := by decide +kernel
theorem dL_law_745 : decode cL_law 745 = .ok (.aload_n 2, 1) := by decide +kernel
theorem dL_law_746 : decode cL_law 746 = .ok (.aload_n 0, 1) := by decide +kernel
theorem dL_law_747 : decode cL_law 747 = .ok (.iload 4, 2) := by decide +kernel
theorem dL_law_749 : decode cL_law 749 = .ok (.iconst 1, 1) := by decide +kernel
theorem dL_law_750 : decode cL_law 750 = .ok (.iadd, 1) := by decide +kernel
theorem dL_law_751 : decode cL_law 751 = .ok (.iaload, 1) := by decide +kernel
theorem dL_law_752 : decode cL_law 752 = .ok (.aload_n 0, 1) := by decide +kernel
theorem dL_law_753 : decode cL_law 753 = .ok (.iload 4, 2) := by decide +kernel
theorem dL_law_755 : decode cL_law 755 = .ok (.iconst 2, 1) := by decide +kernel
theorem dL_law_756 : decode cL_law 756 = .ok (.iadd, 1) := by decide +kernel
theorem dL_law_757 : decode cL_law 757 = .ok (.iaload, 1) := by decide +kernel
theorem dL_law_758 : decode cL_law 758 = .ok (.invokevirtual 105, 3) := by decide +kernel
theorem dL_law_761 : decode cL_law 761 = .ok (.istore 6, 2) := by decide +kernel
theorem dL_law_763 : decode cL_law 763 = .ok (.aload_n 2, 1) := by decide +kernel
theorem dL_law_764 : decode cL_law 764 = .ok (.invokevirtual 64, 3) := by decide +kernel
theorem dL_law_767 : decode cL_law 767 = .ok (.iload 5, 2) := by decide +kernel
theorem dL_law_769 : decode cL_law 769 = .ok (.if_icmp .eq 5, 3) := by decide +kernel
theorem dL_law_772 : decode cL_law 772 = .ok (.iconst 0, 1) := by decide +kernel
theorem dL_law_773 : decode cL_law 773 = .ok (.ireturn, 1) := by decide +kernel
theorem dL_law_774 : decode cL_law 774 = .ok (.iload 5, 2) := by decide +kernel
theorem dL_law_776 : decode cL_law 776 = .ok (.ifCond .ne 15, 3) := by decide +kernel
theorem dL_law_779 : decode cL_law 779 = .ok (.aload_n 3, 1) := by decide +kernel
theorem dL_law_780 : decode cL_law 780 = .ok (.iconst 0, 1) := by decide +kernel
theorem dL_law_781 : decode cL_law 781 = .ok (.laload, 1) := by decide +kernel
theorem dL_law_782 : decode cL_law 782 = .ok (.iload 6, 2) := by decide +kernel
theorem dL_law_784 : decode cL_law 784 = .ok (.i2l, 1) := by decide +kernel
theorem dL_law_785 : decode cL_law 785 = .ok (.lcmp, 1) := by decide +kernel
theorem dL_law_786 : decode cL_law 786 = .ok (.ifCond .eq 5, 3) := by decide +kernel
theorem dL_law_789 : decode cL_law 789 = .ok (.iconst 0, 1) := by decide +kernel
theorem dL_law_790 : decode cL_law 790 = .ok (.ireturn, 1) := by decide +kernel
theorem dL_law_791 : decode cL_law 791 = .ok (.goto 170, 3) := by decide +kernel
theorem dL_law_794 : decode cL_law 794 = .ok (.aload_n 1, 1) := by decide +kernel
theorem dL_law_795 : decode cL_law 795 = .ok (.aload_n 0, 1) := by decide +kernel
theorem dL_law_796 : decode cL_law 796 = .ok (.iload 4, 2) := by decide +kernel
theorem dL_law_798 : decode cL_law 798 = .ok (.iconst 1, 1) := by decide +kernel
theorem dL_law_799 : decode cL_law 799 = .ok (.iadd, 1) := by decide +kernel
theorem dL_law_800 : decode cL_law 800 = .ok (.iaload, 1) := by decide +kernel
theorem dL_law_801 : decode cL_law 801 = .ok (.aload_n 3, 1) := by decide +kernel
theorem dL_law_802 : decode cL_law 802 = .ok (.invokestatic 106, 3) := by decide +kernel
theorem dL_law_805 : decode cL_law 805 = .ok (.istore 5, 2) := by decide +kernel
theorem dL_law_807 : decode cL_law 807 = .ok (.aload_n 2, 1) := by decide +kernel
theorem dL_law_808 : decode cL_law 808 = .ok (.aload_n 0, 1) := by decide +kernel
theorem dL_law_809 : decode cL_law 809 = .ok (.iload 4, 2) := by decide +kernel
theorem dL_law_811 : decode cL_law 811 = .ok (.iconst 1, 1) := by decide +kernel
theorem dL_law_812 : decode cL_law 812 = .ok (.iadd, 1) := by decide +kernel
theorem dL_law_813 : decode cL_law 813 = .ok (.iaload, 1) := by decide +kernel
theorem dL_law_814 : decode cL_law 814 = .ok (.invokevirtual 108, 3) := by decide +kernel
theorem dL_law_817 : decode cL_law 817 = .ok (.istore 6, 2) := by decide +kernel
theorem dL_law_819 : decode cL_law 819 = .ok (.aload_n 2, 1) := by decide +kernel
theorem dL_law_820 : decode cL_law 820 = .ok (.invokevirtual 64, 3) := by decide +kernel
theorem dL_law_823 : decode cL_law 823 = .ok (.iload 5, 2) := by decide +kernel
theorem dL_law_825 : decode cL_law 825 = .ok (.if_icmp .eq 5, 3) := by decide +kernel
theorem dL_law_828 : decode cL_law 828 = .ok (.iconst 0, 1) := by decide +kernel
theorem dL_law_829 : decode cL_law 829 = .ok (.ireturn, 1) := by decide +kernel
theorem dL_law_830 : decode cL_law 830 = .ok (.iload 5, 2) := by decide +kernel
theorem dL_law_832 : decode cL_law 832 = .ok (.ifCond .ne 15, 3) := by decide +kernel
theorem dL_law_835 : decode cL_law 835 = .ok (.aload_n 3, 1) := by decide +kernel
theorem dL_law_836 : decode cL_law 836 = .ok (.iconst 0, 1) := by decide +kernel
theorem dL_law_837 : decode cL_law 837 = .ok (.laload, 1) := by decide +kernel
theorem dL_law_838 : decode cL_law 838 = .ok (.iload 6, 2) := by decide +kernel
theorem dL_law_840 : decode cL_law 840 = .ok (.i2l, 1) := by decide +kernel
theorem dL_law_841 : decode cL_law 841 = .ok (.lcmp, 1) := by decide +kernel
theorem dL_law_842 : decode cL_law 842 = .ok (.ifCond .eq 5, 3) := by decide +kernel
theorem dL_law_845 : decode cL_law 845 = .ok (.iconst 0, 1) := by decide +kernel
theorem dL_law_846 : decode cL_law 846 = .ok (.ireturn, 1) := by decide +kernel
theorem dL_law_847 : decode cL_law 847 = .ok (.goto 114, 3) := by decide +kernel
theorem dL_law_850 : decode cL_law 850 = .ok (.aload_n 1, 1) := by decide +kernel
theorem dL_law_851 : decode cL_law 851 = .ok (.aload_n 0, 1) := by decide +kernel
theorem dL_law_852 : decode cL_law 852 = .ok (.iload 4, 2) := by decide +kernel
theorem dL_law_854 : decode cL_law 854 = .ok (.iconst 1, 1) := by decide +kernel
theorem dL_law_855 : decode cL_law 855 = .ok (.iadd, 1) := by decide +kernel
theorem dL_law_856 : decode cL_law 856 = .ok (.iaload, 1) := by decide +kernel
theorem dL_law_857 : decode cL_law 857 = .ok (.aload_n 3, 1) := by decide +kernel
theorem dL_law_858 : decode cL_law 858 = .ok (.invokestatic 109, 3) := by decide +kernel
theorem dL_law_861 : decode cL_law 861 = .ok (.istore 5, 2) := by decide +kernel
theorem dL_law_863 : decode cL_law 863 = .ok (.aload_n 2, 1) := by decide +kernel
theorem dL_law_864 : decode cL_law 864 = .ok (.aload_n 0, 1) := by decide +kernel
theorem dL_law_865 : decode cL_law 865 = .ok (.iload 4, 2) := by decide +kernel
theorem dL_law_867 : decode cL_law 867 = .ok (.iconst 1, 1) := by decide +kernel
theorem dL_law_868 : decode cL_law 868 = .ok (.iadd, 1) := by decide +kernel
theorem dL_law_869 : decode cL_law 869 = .ok (.iaload, 1) := by decide +kernel
theorem dL_law_870 : decode cL_law 870 = .ok (.invokevirtual 111, 3) := by decide +kernel
theorem dL_law_873 : decode cL_law 873 = .ok (.istore 6, 2) := by decide +kernel
theorem dL_law_875 : decode cL_law 875 = .ok (.aload_n 2, 1) := by decide +kernel
theorem dL_law_876 : decode cL_law 876 = .ok (.invokevirtual 64, 3) := by decide +kernel
theorem dL_law_879 : decode cL_law 879 = .ok (.iload 5, 2) := by decide +kernel
theorem dL_law_881 : decode cL_law 881 = .ok (.if_icmp .eq 5, 3) := by decide +kernel
theorem dL_law_884 : decode cL_law 884 = .ok (.iconst 0, 1) := by decide +kernel
theorem dL_law_885 : decode cL_law 885 = .ok (.ireturn, 1) := by decide +kernel
theorem dL_law_886 : decode cL_law 886 = .ok (.iload 5, 2) := by decide +kernel
theorem dL_law_888 : decode cL_law 888 = .ok (.ifCond .ne 15, 3) := by decide +kernel
theorem dL_law_891 : decode cL_law 891 = .ok (.aload_n 3, 1) := by decide +kernel
theorem dL_law_892 : decode cL_law 892 = .ok (.iconst 0, 1) := by decide +kernel
theorem dL_law_893 : decode cL_law 893 = .ok (.laload, 1) := by decide +kernel
theorem dL_law_894 : decode cL_law 894 = .ok (.iload 6, 2) := by decide +kernel
theorem dL_law_896 : decode cL_law 896 = .ok (.i2l, 1) := by decide +kernel
theorem dL_law_897 : decode cL_law 897 = .ok (.lcmp, 1) := by decide +kernel
theorem dL_law_898 : decode cL_law 898 = .ok (.ifCond .eq 5, 3) := by decide +kernel
theorem dL_law_901 : decode cL_law 901 = .ok (.iconst 0, 1) := by decide +kernel
theorem dL_law_902 : decode cL_law 902 = .ok (.ireturn, 1) := by decide +kernel
theorem dL_law_903 : decode cL_law 903 = .ok (.goto 58, 3) := by decide +kernel
theorem dL_law_906 : decode cL_law 906 = .ok (.aload_n 1, 1) := by decide +kernel
theorem dL_law_907 : decode cL_law 907 = .ok (.invokevirtual 112, 3) := by decide +kernel
theorem dL_law_910 : decode cL_law 910 = .ok (.dstore 5, 2) := by decide +kernel
theorem dL_law_912 : decode cL_law 912 = .ok (.aload_n 2, 1) := by decide +kernel
theorem dL_law_913 : decode cL_law 913 = .ok (.invokevirtual 116, 3) := by decide +kernel
theorem dL_law_916 : decode cL_law 916 = .ok (.dstore 7, 2) := by decide +kernel
theorem dL_law_918 : decode cL_law 918 = .ok (.dload 5, 2) := by decide +kernel
theorem dL_law_920 : decode cL_law 920 = .ok (.dload 7, 2) := by decide +kernel
theorem dL_law_922 : decode cL_law 922 = .ok (.dcmp .l, 1) := by decide +kernel
theorem dL_law_923 : decode cL_law 923 = .ok (.ifCond .eq 21, 3) := by decide +kernel
theorem dL_law_926 : decode cL_law 926 = .ok (.dload 5, 2) := by decide +kernel
theorem dL_law_928 : decode cL_law 928 = .ok (.dload 5, 2) := by decide +kernel
theorem dL_law_930 : decode cL_law 930 = .ok (.dcmp .l, 1) := by decide +kernel
theorem dL_law_931 : decode cL_law 931 = .ok (.ifCond .eq 11, 3) := by decide +kernel
theorem dL_law_934 : decode cL_law 934 = .ok (.dload 7, 2) := by decide +kernel
theorem dL_law_936 : decode cL_law 936 = .ok (.dload 7, 2) := by decide +kernel
theorem dL_law_938 : decode cL_law 938 = .ok (.dcmp .l, 1) := by decide +kernel
theorem dL_law_939 : decode cL_law 939 = .ok (.ifCond .ne 5, 3) := by decide +kernel
theorem dL_law_942 : decode cL_law 942 = .ok (.iconst 0, 1) := by decide +kernel
theorem dL_law_943 : decode cL_law 943 = .ok (.ireturn, 1) := by decide +kernel
theorem dL_law_944 : decode cL_law 944 = .ok (.goto 17, 3) := by decide +kernel
theorem dL_law_947 : decode cL_law 947 = .ok (.aload_n 1, 1) := by decide +kernel
theorem dL_law_948 : decode cL_law 948 = .ok (.invokevirtual 117, 3) := by decide +kernel
theorem dL_law_951 : decode cL_law 951 = .ok (.aload_n 2, 1) := by decide +kernel
theorem dL_law_952 : decode cL_law 952 = .ok (.invokevirtual 121, 3) := by decide +kernel
theorem dL_law_955 : decode cL_law 955 = .ok (.lcmp, 1) := by decide +kernel
theorem dL_law_956 : decode cL_law 956 = .ok (.ifCond .eq 5, 3) := by decide +kernel
theorem dL_law_959 : decode cL_law 959 = .ok (.iconst 0, 1) := by decide +kernel
theorem dL_law_960 : decode cL_law 960 = .ok (.ireturn, 1) := by decide +kernel
theorem dL_law_961 : decode cL_law 961 = .ok (.iinc 4 3, 3) := by decide +kernel
theorem dL_law_964 : decode cL_law 964 = .ok (.goto (-941), 3) := by decide +kernel
theorem dL_law_967 : decode cL_law 967 = .ok (.iconst 1, 1) := by decide +kernel
theorem dL_law_968 : decode cL_law 968 = .ok (.ireturn, 1) := by decide +kernel
abbrev vwCl : List vw_C := [(RX0, TX0, 11), (RX1, TX1, 12), (RX2, TX2, 2), (RX3, TX3, 12), (RX4, TX4, 8)]
/-! ===== END printed: names ===== -/
end
section
/-! OWN KIT: contracts whose answer and world are functions; calls and ends in one row each -/
section XK
abbrev nwl : List Cond := [.methodLinkNest RX2 9 yX0_init "BridgeBells", .methodLinkNest RX0 36 yX1_init "BridgeBells", .methodLinkNest RX4 24 yX3_init "BridgeBellsModel", .fieldLinkNest RX4 49 RX3 "minute" "I" "BridgeBellsModel", .fieldLinkNest RX4 68 RX3 "angle" "I" "BridgeBellsModel", .fieldLinkNest RX4 71 RX3 "poise" "I" "BridgeBellsModel", .fieldLinkNest RX4 74 RX3 "ice" "I" "BridgeBellsModel", .fieldLinkNest RX4 65 RX3 "code" "I" "BridgeBellsModel", .fieldLinkNest RX4 59 RX3 "is" "[I" "BridgeBellsModel", .fieldLinkNest RX4 62 RX3 "waited" "[I" "BridgeBellsModel", .fieldLinkNest RX4 83 RX3 "left" "[I" "BridgeBellsModel", .fieldLinkNest RX4 52 RX3 "when" "[I" "BridgeBellsModel", .fieldLinkNest RX3 66 RX4 "travellers" "I" "BridgeBellsModel", .fieldLinkNest RX3 69 RX4 "isBarge" "[I" "BridgeBellsModel", .fieldLinkNest RX3 76 RX4 "needs" "[I" "BridgeBellsModel", .fieldLinkNest RX3 94 RX4 "cold" "[I" "BridgeBellsModel"]
def xNw (U : State) : Prop := ∀ w ∈ nwl, va_Nw w U
theorem xN_on : ∀ w ∈ nwl, w.onTables = true := by decide +kernel
theorem xN_tbl : ∀ w ∈ nwl, w ∈ lw_tbl := by decide +kernel
theorem xNw.same {u U : State} (h : u.vm = U.vm) (hZ : xNw u) : xNw U := fun w hw => va_Nw.same (xN_on w hw) h (hZ w hw)
theorem xNw.warm {s U : State} (hW : s.WarmedH U.vm) (h : xNw s) : xNw U := by
  intro w hw
  have h0 := h w hw
  simp only [nwl, List.mem_cons, List.not_mem_nil, or_false] at hw
  rcases hw with rfl | rfl | rfl | rfl | rfl | rfl | rfl | rfl | rfl | rfl | rfl | rfl | rfl | rfl | rfl | rfl
  all_goals first | exact va_Nw.warmF hW h0 | exact va_Nw.warmM hW h0
theorem xNw.use {s : State} (h : xNw s) (i : Nat) {w : Cond} (hw : nwl[i]? = some w) {a : Array Value} : w.before a s = true := va_Nw.use (xN_on w (List.mem_of_getElem? hw)) (h w (List.mem_of_getElem? hw))
theorem xNw.at {s : State} (h : xNw s) (i : Nat) {w : Cond} (hw : nwl[i]? = some w) : va_Nw w s := h w (List.mem_of_getElem? hw)
/-- a start: the arguments, the cells, the tables -/
def xPc (D : va_G) (tys : List (ClassId × FieldType)) (av : List Value) (sz : Nat) (ws : va_W) : Array Value → State → Prop := va_Pc av (fun U => U.heap.size = sz ∧ va_P D vwCl ws U.heap ∧ va_K D vwCl tys U ∧ va_D (fun _ => True) ws ∧ xNw U)
def xB (D : va_G) (tys : List (ClassId × FieldType)) (A : Nat → Prop) (ws : va_W) (t : State) : Prop := va_P D vwCl ws t.heap ∧ va_K D vwCl tys t ∧ va_D A ws
abbrev xQi (D : va_G) (tys : List (ClassId × FieldType)) (A : Nat → Prop) (R : Int32) (w1 : va_W) := va_Qi (fun (r : Int32) (_ : Unit) => r = R) (fun _ => xB D tys A w1) A
abbrev xQl (D : va_G) (tys : List (ClassId × FieldType)) (A : Nat → Prop) (R : Int64) (w1 : va_W) := va_Ql (fun (r : Int64) (_ : Unit) => r = R) (fun _ => xB D tys A w1) A
abbrev xQd (D : va_G) (tys : List (ClassId × FieldType)) (A : Nat → Prop) (R : UInt64) (w1 : va_W) := va_Qd (fun (r : UInt64) (_ : Unit) => r = R) (fun _ => xB D tys A w1) A
abbrev xQv (D : va_G) (tys : List (ClassId × FieldType)) (A : Nat → Prop) (w1 : va_W) := va_Qv (fun (_ : Unit) => True) (fun _ => xB D tys A w1) A
abbrev xMi (l : Launch) (D : va_G) (tys : List (ClassId × FieldType)) (y : MethodName) (ws : List Cond) (rm : Room) (av : List Value) (sz : Nat) (wc : va_W) (R : Int32) (w1 : va_W) (mc ms : Nat) := Met l y ws rm (xPc D tys av sz wc) (xQi D tys (va_A wc sz) R w1) mc ms (va_A wc sz)
abbrev xMl (l : Launch) (D : va_G) (tys : List (ClassId × FieldType)) (y : MethodName) (ws : List Cond) (rm : Room) (av : List Value) (sz : Nat) (wc : va_W) (R : Int64) (w1 : va_W) (mc ms : Nat) := Met l y ws rm (xPc D tys av sz wc) (xQl D tys (va_A wc sz) R w1) mc ms (va_A wc sz)
abbrev xMd (l : Launch) (D : va_G) (tys : List (ClassId × FieldType)) (y : MethodName) (ws : List Cond) (rm : Room) (av : List Value) (sz : Nat) (wc : va_W) (R : UInt64) (w1 : va_W) (mc ms : Nat) := Met l y ws rm (xPc D tys av sz wc) (xQd D tys (va_A wc sz) R w1) mc ms (va_A wc sz)
abbrev xMv (l : Launch) (D : va_G) (tys : List (ClassId × FieldType)) (y : MethodName) (ws : List Cond) (rm : Room) (av : List Value) (sz : Nat) (wc : va_W) (w1 : va_W) (mc ms : Nat) := Met l y ws rm (xPc D tys av sz wc) (xQv D tys (va_A wc sz) w1) mc ms (va_A wc sz)
/-- what a body has at its start -/
def xSt (p : Program) (s : State) (m : MethodId) (meth : Method) (c : Code) (cc : ByteArray) (ret : Option FieldType) (ws : List Cond) (y : MethodName) (args : Array Value) (maxL : Nat) (D : va_G) (tys : List (ClassId × FieldType)) (wc : va_W) (A : Nat → Prop) (H : Heap) : Prop :=
  p.tables.exec = Jvm.exec ∧ c.code = cc ∧ meth.sig.returnType = ret ∧ (∀ w ∈ ws, w.before args s = true) ∧ s.vm.findClass y.cls = some m.cls ∧ meth.locks = false ∧ c.maxLocals = maxL ∧ meth.name = y.name ∧ xNw s ∧ va_K D vwCl tys s ∧ va_P D vwCl wc H ∧ va_D A wc ∧ (∀ q : Nat, s.heap.size ≤ q → A q) ∧ va_S A s.heap H []
theorem xk_start {l : Launch} {y : MethodName} {ws ws' : List Cond} {rm : Room} {D : va_G} {tys : List (ClassId × FieldType)} {av : List Value} {sz : Nat} {wc : va_W} {Qf : (Nat → Prop) → Array Value → State → Outcome → State → Prop} {mc ms : Nat} {cc : ByteArray} {maxL : Nat} {ret : Option FieldType}
    (hy : plainName y.cls = true) (hw : ws = Cond.code y cc maxL ret :: ws') (hn : (lg_sl av).length ≤ maxL)
    (body : ∀ (p : Program) (e : Env) (s : State) (m : MethodId) (below : List Frame) (meth : Method) (c : Code) (A : Nat → Prop) (H : Heap) (ls : Array Slot), xSt p s m meth c cc ret ws y av.toArray maxL D tys wc A H → va_A wc s.heap.size = A → s.heap.size = sz → lv_has ls maxL (lv_args 0 av) → W p l e rm s m av.toArray below meth c H [] 0 0 (MQ below (Qf A) av.toArray s mc ms A) (F0 m 0 ls [])) :
    Met l y ws rm (xPc D tys av sz wc) (Qf (va_A wc sz)) mc ms (va_A wc sz) := by
  refine Met.ofW (cc := cc) (maxL := maxL) (ret := ret) hy hw ?_
  intro p e s m args below meth c s₁ B hml hv
  obtain ⟨rfl, hsz, hP, hK, hD0, hN⟩ := hv
  subst hsz
  have hl := lv_entry av (n := maxL) hn
  rw [lg_entry_eq]
  exact body p e s m below meth c (va_A wc s.heap.size) s.heap _ ⟨B.exec, B.bytes, B.returns, atoms_spec (ws := ws) B.pre, findClass_of_methodNamed B.named, B.notSynchronized, hml, (name_of_methodNamed B.named B.method).1, hN, hK, hP, hD0.self, fun q h => Or.inr h, va_S.rf⟩ rfl rfl hl
variable {p : Program} {l : Launch} {e : Env} {R : Room} {s : State} {m : MethodId} {args : Array Value} {below : List Frame} {meth : Method} {c : Code} {H : Heap} {locs : List Loc} {cells slots : Nat} {Q : State → Prop}
variable {cc : ByteArray} {pc : Nat} {ls : Array Slot} {rest st0 : List Value} {D : va_G} {tys : List (ClassId × FieldType)} {A : Nat → Prop} {H0 : Heap}
theorem xfm {α β : Type} {f : α → Option β} : ∀ {is : List α} {w : List β}, is.map f = w.map some → is.filterMap f = w
  | [], w, h => by
    cases w with
    | nil => rfl
    | cons => simp at h
  | i :: is, w, h => by
    cases w with
    | nil => simp at h
    | cons b w =>
      simp only [List.map_cons, List.cons.injEq] at h
      rw [List.filterMap_cons, h.1]
      exact congrArg (b :: ·) (xfm h.2)
theorem xk_iret {V : Type} {wf : V → va_W} {u u1 : V} {v Rv : Int32} {ty : FieldType} (hx : p.tables.exec = Jvm.exec) (hb : c.code = cc) (hr : meth.sig.returnType = some ty) (hn : narrow ty (.int v) = .int v) (hlocks : meth.locks = false) (hP : va_P D vwCl (wf u) H) (hK : va_K D vwCl tys s) (hD : va_D A (wf u)) (hS : va_S A s.heap H locs) (hv : v = Rv) (hu : u = u1) (hdg : decode cc pc = .ok (.ireturn, 1)) :
    W p l e R s m args below meth c H locs cells slots (MQ below (xQi D tys A Rv (wf u1)) args s cells slots A) (F0 m pc ls [.int v]) := by
  subst hu
  exact W.zret hx hb hr hn (fun t ht hW => ⟨⟨v, (), rfl, hv, by rw [ht]; exact hP, va_K.moved hW.alike hK, hD⟩, hS.F ht⟩) hS.2.2 hdg hlocks
theorem xk_lret {V : Type} {wf : V → va_W} {u u1 : V} {v Rv : Int64} (hx : p.tables.exec = Jvm.exec) (hb : c.code = cc) (hr : meth.sig.returnType = some .long) (hlocks : meth.locks = false) (hP : va_P D vwCl (wf u) H) (hK : va_K D vwCl tys s) (hD : va_D A (wf u)) (hS : va_S A s.heap H locs) (hv : v = Rv) (hu : u = u1) (hdg : decode cc pc = .ok (.lreturn, 1)) :
    W p l e R s m args below meth c H locs cells slots (MQ below (xQl D tys A Rv (wf u1)) args s cells slots A) (F0 m pc ls [.long v]) := by
  subst hu
  exact W.lret hx hb hr (fun t ht hW => ⟨⟨v, (), rfl, hv, by rw [ht]; exact hP, va_K.moved hW.alike hK, hD⟩, hS.F ht⟩) hS.2.2 hdg hlocks
theorem xk_dret {V : Type} {wf : V → va_W} {u u1 : V} {v Rv : UInt64} (hx : p.tables.exec = Jvm.exec) (hb : c.code = cc) (hr : meth.sig.returnType = some .double) (hlocks : meth.locks = false) (hP : va_P D vwCl (wf u) H) (hK : va_K D vwCl tys s) (hD : va_D A (wf u)) (hS : va_S A s.heap H locs) (hv : v = Rv) (hu : u = u1) (hdg : decode cc pc = .ok (.dreturn, 1)) :
    W p l e R s m args below meth c H locs cells slots (MQ below (xQd D tys A Rv (wf u1)) args s cells slots A) (F0 m pc ls [.double v]) := by
  subst hu
  exact W.dret hx hb hr (fun t ht hW => ⟨⟨v, (), rfl, hv, by rw [ht]; exact hP, va_K.moved hW.alike hK, hD⟩, hS.F ht⟩) hS.2.2 hdg hlocks
theorem xk_vret {V : Type} {wf : V → va_W} {u u1 : V} (hx : p.tables.exec = Jvm.exec) (hb : c.code = cc) (hr : meth.sig.returnType = none) (hlocks : meth.locks = false) (hP : va_P D vwCl (wf u) H) (hK : va_K D vwCl tys s) (hD : va_D A (wf u)) (hS : va_S A s.heap H locs) (hu : u = u1) (hdg : decode cc pc = .ok (.return_, 1)) :
    W p l e R s m args below meth c H locs cells slots (MQ below (xQv D tys A (wf u1)) args s cells slots A) (F0 m pc ls []) := by
  subst hu
  exact W.vret hx hb hr (fun t ht hW => ⟨⟨(), rfl, trivial, by rw [ht]; exact hP, va_K.moved hW.alike hK, hD⟩, hS.F ht⟩) hS.2.2 hdg hlocks
/-- a callee's start, over the cells that it gets -/
theorem xk_pre {av : List Value} {wsA wc : va_W} (hN : xNw s) (hP : va_P D vwCl wsA H) (hK : va_K D vwCl tys s) (hD : va_D A wsA) (isC : List Nat) (hn : va_nd isC = true) (hC : isC.map (fun i => wsA[i]?) = wc.map some) : PreS s H (xPc D tys av H.size wc) av :=
  ⟨fun a U g mk q => by
    obtain ⟨q0, q1, qP, qK, qD, qN⟩ := q
    exact ⟨q0, q1, qP, va_K.moved (u := U) (U := U.calling g mk a) (Vm.Alike.refl U.vm) qK, qD, xNw.same (u := U) (U := U.calling g mk a) rfl qN⟩,
   fun U hU hW => ⟨rfl, by rw [hU], by rw [hU]; exact hP.sub isC (xfm hC), va_K.moved hW.alike hK, (hD.sub isC hn hC).weaken (fun _ _ _ _ => trivial), hN.warm hW⟩⟩
theorem xk_preV {av : List Value} {wsA wc : va_W} {a q0 ci : Nat} {q : vw_C} {fs : List Value} (hN : xNw s) (hP : va_P D vwCl wsA H) (hK : va_K D vwCl tys s) (hD : va_D A wsA) (isC : List Nat) (hn : va_nd isC = true) (hC : isC.map (fun i => wsA[i]?) = wc.map some) (he : wsA[q0]? = some (a, .inr (ci, fs))) (hc : vwCl[ci]? = some q) : PreV s H q.1 a (xPc D tys (.ref a :: av) H.size wc) av :=
  have h := xk_pre (av := .ref a :: av) hN hP hK hD isC hn hC
  ⟨h.1, va_recv hK hP hc he, h.2⟩
/-- behind a call: the caller's cells in their old order -/
theorem xk_joined {wsA wc wr w1 w2 : va_W} {H1 : Heap} {t : State} (hP : va_P D vwCl wsA H) (hD : va_D A wsA) (hS : va_S A H0 H locs) (hA : ∀ q, H0.size ≤ q → A q) (isC isR perm : List Nat) (hC : isC.map (fun i => wsA[i]?) = wc.map some) (hR : isR.map (fun i => wsA[i]?) = wr.map some) (hn : va_nd isR = true) (hdis : ∀ i ∈ isR, i ∉ isC) (hpn : va_nd perm = true) (hp : perm.map (fun i => (wr ++ w1)[i]?) = w2.map some)
    (ht : t.heap = H1) (hB : xB D tys (va_A wc H.size) w1 t) (hk : ∀ q : Nat, q < H.size → ¬ va_A wc H.size q → H1[q]? = H[q]?) : va_P D vwCl w2 H1 ∧ va_D A w2 := by
  obtain ⟨hP1, hK1, hD1⟩ := hB
  rw [ht] at hP1
  obtain ⟨h1, h2⟩ := va_join (wr := wr) (w1 := w1) hP hD isC isR hC hR hn hdis hk (va_free (wc := wc) hD hS hA isC hC) hP1 hD1
  exact ⟨h1.sub perm (xfm hp), h2.sub perm hpn hp⟩
theorem xk_calli {mc ms : Nat} {a9 : Array Value} {Rv : Int32} {wsA wc w1 : va_W} (wr w2 : va_W) (isC isR perm : List Nat) (hP : va_P D vwCl wsA H) (hD : va_D A wsA) (hS : va_S A H0 H locs) (hA : ∀ q, H0.size ≤ q → A q)
    (hr : va_Run p l e R s m args below meth c H locs cells slots mc ms (F0 m pc ls st0) rest (xQi D tys (va_A wc H.size) Rv w1 a9) (va_A wc H.size))
    (hC : isC.map (fun i => wsA[i]?) = wc.map some) (hR : isR.map (fun i => wsA[i]?) = wr.map some) (hn : va_nd isR = true) (hdis : ∀ i ∈ isR, i ∉ isC) (hpn : va_nd perm = true) (hp : perm.map (fun i => (wr ++ w1)[i]?) = w2.map some)
    (kk : ∀ (H1 : Heap) (locs1 : List Loc), va_P D vwCl w2 H1 → va_D A w2 → va_S A H0 H1 locs1 → W p l e R s m args below meth c H1 locs1 (cells + mc) (slots + ms) Q (F0 m (pc + 3) ls (.int Rv :: rest))) : W p l e R s m args below meth c H locs cells slots Q (F0 m pc ls st0) := by
  have hF := va_free (wc := wc) hD hS hA isC hC
  refine va_calli hr hS (fun q _ h => hF q h) hF (fun r u t H1 locs1 ht hvm hw hB hz1 hk1 hS1 => ?_)
  have hw : r = Rv := hw
  subst hw
  obtain ⟨h1, h2⟩ := xk_joined hP hD hS hA isC isR perm hC hR hn hdis hpn hp ht hB hk1
  exact kk H1 locs1 h1 h2 hS1
theorem xk_calll {mc ms : Nat} {a9 : Array Value} {Rv : Int64} {wsA wc w1 : va_W} (wr w2 : va_W) (isC isR perm : List Nat) (hP : va_P D vwCl wsA H) (hD : va_D A wsA) (hS : va_S A H0 H locs) (hA : ∀ q, H0.size ≤ q → A q)
    (hr : va_Run p l e R s m args below meth c H locs cells slots mc ms (F0 m pc ls st0) rest (xQl D tys (va_A wc H.size) Rv w1 a9) (va_A wc H.size))
    (hC : isC.map (fun i => wsA[i]?) = wc.map some) (hR : isR.map (fun i => wsA[i]?) = wr.map some) (hn : va_nd isR = true) (hdis : ∀ i ∈ isR, i ∉ isC) (hpn : va_nd perm = true) (hp : perm.map (fun i => (wr ++ w1)[i]?) = w2.map some)
    (kk : ∀ (H1 : Heap) (locs1 : List Loc), va_P D vwCl w2 H1 → va_D A w2 → va_S A H0 H1 locs1 → W p l e R s m args below meth c H1 locs1 (cells + mc) (slots + ms) Q (F0 m (pc + 3) ls (.long Rv :: rest))) : W p l e R s m args below meth c H locs cells slots Q (F0 m pc ls st0) := by
  have hF := va_free (wc := wc) hD hS hA isC hC
  refine va_calll hr hS (fun q _ h => hF q h) hF (fun r u t H1 locs1 ht hvm hw hB hz1 hk1 hS1 => ?_)
  have hw : r = Rv := hw
  subst hw
  obtain ⟨h1, h2⟩ := xk_joined hP hD hS hA isC isR perm hC hR hn hdis hpn hp ht hB hk1
  exact kk H1 locs1 h1 h2 hS1
theorem xk_calld {mc ms : Nat} {a9 : Array Value} {Rv : UInt64} {wsA wc w1 : va_W} (wr w2 : va_W) (isC isR perm : List Nat) (hP : va_P D vwCl wsA H) (hD : va_D A wsA) (hS : va_S A H0 H locs) (hA : ∀ q, H0.size ≤ q → A q)
    (hr : va_Run p l e R s m args below meth c H locs cells slots mc ms (F0 m pc ls st0) rest (xQd D tys (va_A wc H.size) Rv w1 a9) (va_A wc H.size))
    (hC : isC.map (fun i => wsA[i]?) = wc.map some) (hR : isR.map (fun i => wsA[i]?) = wr.map some) (hn : va_nd isR = true) (hdis : ∀ i ∈ isR, i ∉ isC) (hpn : va_nd perm = true) (hp : perm.map (fun i => (wr ++ w1)[i]?) = w2.map some)
    (kk : ∀ (H1 : Heap) (locs1 : List Loc), va_P D vwCl w2 H1 → va_D A w2 → va_S A H0 H1 locs1 → W p l e R s m args below meth c H1 locs1 (cells + mc) (slots + ms) Q (F0 m (pc + 3) ls (.double Rv :: rest))) : W p l e R s m args below meth c H locs cells slots Q (F0 m pc ls st0) := by
  have hF := va_free (wc := wc) hD hS hA isC hC
  refine va_calld hr hS (fun q _ h => hF q h) hF (fun r u t H1 locs1 ht hvm hw hB hz1 hk1 hS1 => ?_)
  have hw : r = Rv := hw
  subst hw
  obtain ⟨h1, h2⟩ := xk_joined hP hD hS hA isC isR perm hC hR hn hdis hpn hp ht hB hk1
  exact kk H1 locs1 h1 h2 hS1
theorem xk_callv {mc ms : Nat} {a9 : Array Value} {wsA wc w1 : va_W} (wr w2 : va_W) (isC isR perm : List Nat) (hP : va_P D vwCl wsA H) (hD : va_D A wsA) (hS : va_S A H0 H locs) (hA : ∀ q, H0.size ≤ q → A q)
    (hr : va_Run p l e R s m args below meth c H locs cells slots mc ms (F0 m pc ls st0) rest (xQv D tys (va_A wc H.size) w1 a9) (va_A wc H.size))
    (hC : isC.map (fun i => wsA[i]?) = wc.map some) (hR : isR.map (fun i => wsA[i]?) = wr.map some) (hn : va_nd isR = true) (hdis : ∀ i ∈ isR, i ∉ isC) (hpn : va_nd perm = true) (hp : perm.map (fun i => (wr ++ w1)[i]?) = w2.map some)
    (kk : ∀ (H1 : Heap) (locs1 : List Loc), va_P D vwCl w2 H1 → va_D A w2 → va_S A H0 H1 locs1 → W p l e R s m args below meth c H1 locs1 (cells + mc) (slots + ms) Q (F0 m (pc + 3) ls rest)) : W p l e R s m args below meth c H locs cells slots Q (F0 m pc ls st0) := by
  have hF := va_free (wc := wc) hD hS hA isC hC
  refine va_callv hr hS (fun q _ h => hF q h) hF (fun u t H1 locs1 ht hvm hw hB hz1 hk1 hS1 => ?_)
  obtain ⟨h1, h2⟩ := xk_joined hP hD hS hA isC isR perm hC hR hn hdis hpn hp ht hB hk1
  exact kk H1 locs1 h1 h2 hS1
/-- an array's cell by its contents alone -/
theorem xk_arr {cA : ClassId} {n : Nat} {f g : Nat → Int32} (h : ∀ j, j < n → f j = g j) : vp_cell cA (n, .inl f) = vp_cell cA (n, .inl g) := by
  show arrV cA n (fun j => .int (f j)) = arrV cA n (fun j => .int (g j))
  unfold arrV
  congr 1
  congr 1
  funext j
  exact congrArg Value.int (h j.val j.isLt)
theorem xk_arrP {cA : ClassId} {a n : Nat} {f g : Nat → Int32} {ws : va_W} (k : Nat) (hP : va_P D vwCl ws H) (hk : ws[k]? = some (a, .inl (cA, n, .inl f))) (h : ∀ j, j < n → f j = g j) : va_P D vwCl (ws.set k (a, .inl (cA, n, .inl g))) H := by
  have hl := (List.getElem?_eq_some_iff.mp hk).1
  intro i q hi
  by_cases hik : i = k
  · subst hik
    rw [List.getElem?_set_self hl] at hi
    cases hi
    have h0 := hP _ _ hk
    show H[a]? = some (vp_cell cA (n, .inl g))
    rw [← xk_arr h]
    exact h0
  · rw [List.getElem?_set_ne (Ne.symm hik)] at hi
    exact hP i q hi
theorem xk_arrD {cA : ClassId} {a n : Nat} {f g : Nat → Int32} {ws : va_W} (k : Nat) (hD : va_D A ws) (hk : ws[k]? = some (a, .inl (cA, n, .inl f))) : va_D A (ws.set k (a, .inl (cA, n, .inl g))) := hD.set hk
theorem cpy_all {f g : Nat → Int32} {n : Int32} {m : Nat} (h : n.toNatClampNeg = m) : ∀ j, j < m → va_cpy f g (0 : Int32).toNatClampNeg (0 : Int32).toNatClampNeg n.toNatClampNeg j = f j := by
  intro j hj
  have h0 : (0 : Int32).toNatClampNeg = 0 := by decide
  unfold va_cpy
  rw [h0, h, if_pos ⟨Nat.zero_le _, by omega⟩]
  congr 1
  omega
/-- scalars and rows of arrays: a place set -/
def xs (f : Nat → Int32) (k : Nat) (v : Int32) : Nat → Int32 := fun j => if j = k then v else f j
def xa (g : Nat → Nat → Int32) (k : Nat) (f : Nat → Int32) : Nat → Nat → Int32 := fun j => if j = k then f else g j
theorem xs_eq (f : Nat → Int32) (k : Nat) (v : Int32) : xs f k v k = v := if_pos rfl
theorem xs_ne {f : Nat → Int32} {k j : Nat} {v : Int32} (h : j ≠ k) : xs f k v j = f j := if_neg h
theorem xa_eq (g : Nat → Nat → Int32) (k : Nat) (f : Nat → Int32) : xa g k f k = f := if_pos rfl
theorem xa_ne {g : Nat → Nat → Int32} {k j : Nat} {f : Nat → Int32} (h : j ≠ k) : xa g k f j = g j := if_neg h
/-- the travellers: number, passed, bargesWaiting, cartsWaiting, firstBarge, firstCart; barge, needs, state, came, passedIn, waitEnd -/
abbrev XT : Type := (Nat → Int32) × (Nat → Nat → Int32)
/-- the bridge: minute, angle, counterpoise, ice, code, waitedInAll, passing, toGo, latestWasBarge; cold; the travellers -/
abbrev XBr : Type := (Nat → Int32) × (Nat → Int32) × XT
/-- the model's outer part: thrown, travellers; isBarge, needs, came, cold -/
abbrev MO : Type := (Nat → Int32) × (Nat → Nat → Int32)
/-- the model's state: minute, angle, poise, ice, code, passer, latest; is, waited, left, when -/
abbrev MS : Type := (Nat → Int32) × (Nat → Nat → Int32)
abbrev cA (I : ClassId) (a n : Nat) (f : Nat → Int32) : Nat × va_E := (a, .inl (I, n, .inl f))
abbrev cXT (q : Nat → Nat) (t : Nat → Int32) : Nat × va_E := (q 2, .inr (1, [.int (t 0), .int (t 1), .int (t 2), .int (t 3), .ref (q 3), .ref (q 4), .ref (q 5), .ref (q 6), .ref (q 7), .ref (q 8), .int (t 4), .int (t 5)]))
abbrev cXB (q : Nat → Nat) (b : Nat → Int32) : Nat × va_E := (q 0, .inr (0, [.int (b 0), .int (b 1), .int (b 2), .int (b 3), .int (b 4), .int (b 5), .ref (q 1), .ref (q 2), .int (b 6), .int (b 7), .int (b 8)]))
abbrev cMO (qo : Nat → Nat) (o : Nat → Int32) : Nat × va_E := (qo 0, .inr (4, [.int (o 0), .int (o 1), .ref (qo 1), .ref (qo 2), .ref (qo 3), .ref (qo 4), .ref (qo 5), .ref (qo 6)]))
abbrev cMS (qo qs : Nat → Nat) (b : Nat → Int32) : Nat × va_E := (qs 0, .inr (3, [.int (b 0), .int (b 1), .int (b 2), .int (b 3), .int (b 4), .int (b 5), .int (b 6), .ref (qs 1), .ref (qs 2), .ref (qs 3), .ref (qs 4), .ref (qo 0)]))
abbrev cX (h : Nat) (qb qt : Nat → Nat) : Nat × va_E := (h, .inr (2, [.ref (qb 0), .ref (qt 0)]))
abbrev wT (I : ClassId) (q : Nat → Nat) (t : XT) : va_W := [cXT q t.1, cA I (q 3) 40 (t.2 0), cA I (q 4) 40 (t.2 1), cA I (q 5) 40 (t.2 2), cA I (q 6) 40 (t.2 3), cA I (q 7) 40 (t.2 4), cA I (q 8) 40 (t.2 5)]
abbrev wB (I : ClassId) (q : Nat → Nat) (b : XBr) : va_W := [cXB q b.1, cA I (q 1) 8 b.2.1, cXT q b.2.2.1, cA I (q 3) 40 (b.2.2.2 0), cA I (q 4) 40 (b.2.2.2 1), cA I (q 5) 40 (b.2.2.2 2), cA I (q 6) 40 (b.2.2.2 3), cA I (q 7) 40 (b.2.2.2 4), cA I (q 8) 40 (b.2.2.2 5)]
abbrev wO (I : ClassId) (qo : Nat → Nat) (o : MO) : va_W := [cMO qo o.1, cA I (qo 1) 40 (o.2 0), cA I (qo 2) 40 (o.2 1), cA I (qo 3) 40 (o.2 2), cA I (qo 4) 8 (o.2 3)]
abbrev wS (I : ClassId) (qo qs : Nat → Nat) (b : MS) : va_W := [cMS qo qs b.1, cA I (qs 1) 40 (b.2 0), cA I (qs 2) 40 (b.2 1), cA I (qs 3) 40 (b.2 2), cA I (qs 4) 40 (b.2 3)]
/-- the outer part and one state -/
abbrev wOS (I : ClassId) (qo qs : Nat → Nat) (u : MO × MS) : va_W := [cMO qo u.1.1, cA I (qo 1) 40 (u.1.2 0), cA I (qo 2) 40 (u.1.2 1), cA I (qo 3) 40 (u.1.2 2), cA I (qo 4) 8 (u.1.2 3), cMS qo qs u.2.1, cA I (qs 1) 40 (u.2.2 0), cA I (qs 2) 40 (u.2.2 1), cA I (qs 3) 40 (u.2.2 2), cA I (qs 4) 40 (u.2.2 3)]
end XK
end
section
/-! pure rows: small numbers -/
def nOk (x : Int32) : Prop := 0 ≤ x.toInt ∧ x.toInt ≤ 40
abbrev imx (x y : Int32) : Int32 := if x < y then y else x
abbrev imn (x y : Int32) : Int32 := if y < x then y else x
theorem clampInt (x : Int32) : x.toNatClampNeg = x.toInt.toNat := rfl
theorem vinN {x : Int32} {n : Nat} (h0 : 0 ≤ x.toInt) (h1 : x.toInt < (n : Int)) : vp_in x n := by
  intro h
  rcases h with h | h
  · have h2 := Int32.lt_iff_toInt_lt.mp h
    have h3 : (0 : Int32).toInt = 0 := by decide
    omega
  · rw [clampInt] at h
    omega
theorem vin40 {x : Int32} (h0 : 0 ≤ x.toInt) (h1 : x.toInt < 40) : vp_in x 40 := vinN h0 h1
theorem nOk_le {x : Int32} (h : nOk x) : x.toNatClampNeg ≤ 40 := by
  rw [clampInt]
  have := h.1
  have := h.2
  omega
theorem i_bm {a : Int} (h1 : -2147483648 ≤ a) (h2 : a < 2147483648) : a.bmod 4294967296 = a := by
  rw [Int.bmod_def]
  split <;> omega
theorem i_m1 {k : Int} (h : 0 ≤ k ∧ k < 100) : (k + (-1 : Int32).toInt).bmod (2 ^ 32) = k - 1 := by
  have h3 : (-1 : Int32).toInt = -1 := by decide
  rw [h3]
  exact i_bm (by omega) (by omega)
theorem toInt_addS {x y : Int32} (h1 : -2147483648 ≤ x.toInt + y.toInt) (h2 : x.toInt + y.toInt < 2147483648) : (x + y).toInt = x.toInt + y.toInt := by
  rw [Int32.toInt_add]
  exact i_bm h1 h2
theorem toInt_subS {x y : Int32} (h1 : -2147483648 ≤ x.toInt - y.toInt) (h2 : x.toInt - y.toInt < 2147483648) : (x - y).toInt = x.toInt - y.toInt := by
  rw [Int32.toInt_sub]
  exact i_bm h1 h2
theorem nOk_m1 {x : Int32} (h : nOk x) : (x - 1).toInt = (x.toNatClampNeg : Int) - 1 := by
  have h3 : (1 : Int32).toInt = 1 := by decide
  have h1 := h.1
  have h2 := h.2
  rw [toInt_subS (by omega) (by omega), clampInt, h3]
  omega
theorem nOk_p1 {x : Int32} (h : nOk x) (h2 : x.toInt < 40) : nOk (x + 1) := by
  have h3 : (1 : Int32).toInt = 1 := by decide
  have h1 := h.1
  unfold nOk
  rw [toInt_addS (by omega) (by omega), h3]
  omega
def mOk (x : Int32) : Prop := 0 ≤ x.toInt ∧ x.toInt < 2000000000
theorem d60 {x : Int32} (h : 0 ≤ x.toInt) : (x / (60 : Int32)).toInt = x.toInt / 60 := by
  have h3 : (60 : Int32).toInt = 60 := by decide
  rw [Int32.toInt_div_of_ne_right _ _ (by decide), h3, Int.tdiv_eq_ediv_of_nonneg h]
theorem d8 {x : Int32} (h : 0 ≤ x.toInt) : (x / (8 : Int32)).toInt = x.toInt / 8 := by
  have h3 : (8 : Int32).toInt = 8 := by decide
  rw [Int32.toInt_div_of_ne_right _ _ (by decide), h3, Int.tdiv_eq_ediv_of_nonneg h]
theorem r8 {y : Int32} (h : 0 ≤ y.toInt) (h2 : y.toInt < 2000000000) : (y - y / (8 : Int32) * (8 : Int32)).toInt = y.toInt - y.toInt / 8 * 8 := by
  have h3 : (8 : Int32).toInt = 8 := by decide
  have h4 : (y / (8 : Int32) * (8 : Int32)).toInt = y.toInt / 8 * 8 := by
    rw [Int32.toInt_mul, d8 h, h3]
    exact i_bm (by omega) (by omega)
  rw [toInt_subS (by rw [h4]; omega) (by rw [h4]; omega), h4]
theorem hr_in {x : Int32} (h : mOk x) : vp_in ((x / (60 : Int32)) - (x / (60 : Int32)) / (8 : Int32) * (8 : Int32)) 8 := by
  have h0 := h.1
  have h1 := h.2
  have h2 := d60 h0
  have h3 := r8 (y := x / (60 : Int32)) (by rw [h2]; omega) (by rw [h2]; omega)
  exact vinN (by rw [h3]; omega) (by rw [h3]; omega)
theorem xor8 {y : Int32} (h : 0 ≤ y.toInt) : 0 ≤ y ^^^ (8 : Int32) := by
  have h' : 0 ≤ y.toBitVec.toInt := h
  have h1 : y.toBitVec.msb = false := by
    rw [BitVec.msb_eq_toInt]
    exact decide_eq_false (by omega)
  have h2 : (y ^^^ (8 : Int32)).toBitVec.msb = false := by
    rw [Int32.toBitVec_xor, BitVec.msb_xor, h1]
    decide
  rw [BitVec.msb_eq_toInt] at h2
  have h3 := of_decide_eq_false h2
  rw [Int32.le_iff_toInt_le]
  have h4 : (0 : Int32).toInt = 0 := by decide
  rw [h4]
  show 0 ≤ (y ^^^ (8 : Int32)).toBitVec.toInt
  omega
end
section
def r_X1_has (t : XT) (k : Int32) : Int32 :=
  if k < 0 then
    (0 : Int32)
  else
    if (t.1 0) ≤ k then
      (0 : Int32)
    else
      (1 : Int32)
set_option maxHeartbeats 4000000 in
set_option maxRecDepth 100000 in
theorem c_X1_has (l : Launch) (D : va_G) (I : ClassId) (q : Nat → Nat) (sz : Nat) (t : XT) (k : Int32)  : xMi l D [(I, .int)] yX1_has wsX1_has { frames := 0, cells := 0, slots := 0, locals := 0 } [.ref (q 2), .int k] sz (wT I q t) (r_X1_has t k) (wT I q t) 0 0 := by
  refine xk_start (cc := cX1_has) (maxL := 2) (ret := (some .boolean)) (Qf := fun A => xQi D [(I, .int)] A (r_X1_has t k) (wT I q t)) (by decide) rfl (Nat.le_of_ble_eq_true rfl) ?_
  intro p e s m below meth c A H ls hst hAe hsz hl
  obtain ⟨hx, hb, hr, hts, hown, hlocks, hml, hin, hN, hK, hP, hD, hA, hS⟩ := hst
  have hl : lv_has ls 2 [(0, .ref (q 2)), (1, .int k)] := hl
  have hP : va_P D vwCl (wT I q t) H := hP
  have hinX1 : ∀ w ∈ u_ws RX1 TX1 12, w ∈ wsX1_has := by decide +kernel
  have w_1 := hts (.fieldLink RX1 9 "BridgeBells$Travellers" "number" "I") (by decide +kernel)
  refine lv_iload_n hx hb dX1_has_0 rfl (lv_at hl 1 rfl) ?_
  refine lv_if_lt (tgt := 16) hx hb dX1_has_1 (by decide) (fun c_1 => ?_) (fun c_1 => ?_)
  · refine lv_iconst (v := (0 : Int32)) hx hb dX1_has_16 (by decide) ?_
    exact xk_iret (wf := fun z : XT => wT I q z) (u := t) hx hb hr rfl hlocks hP hK hD hS (by unfold r_X1_has; rw [if_pos c_1]) rfl dX1_has_17
  · refine lv_iload_n hx hb dX1_has_4 rfl (lv_at hl 1 rfl) ?_
    refine lv_aload_n hx hb dX1_has_5 rfl (lv_at hl 0 rfl) ?_
    refine va_get (D := D) (ci := 1) (v := .int (t.1 0)) (C := RX1) (T := TX1) (N := 12) hx hb hts hinX1 hown hK hP 0 rfl rfl 0 (by decide) w_1 (fun _ h9 => h9) rfl dX1_has_6 ?_
    refine lv_icmp_ge (tgt := 16) hx hb dX1_has_9 (by decide) (fun c_2 => ?_) (fun c_2 => ?_)
    · refine lv_iconst (v := (0 : Int32)) hx hb dX1_has_16 (by decide) ?_
      exact xk_iret (wf := fun z : XT => wT I q z) (u := t) hx hb hr rfl hlocks hP hK hD hS (by unfold r_X1_has; rw [if_neg c_1, if_pos c_2]) rfl dX1_has_17
    · refine lv_iconst (v := (1 : Int32)) hx hb dX1_has_12 (by decide) ?_
      refine lv_goto (tgt := 17) hx hb dX1_has_13 (by decide) ?_
      exact xk_iret (wf := fun z : XT => wT I q z) (u := t) hx hb hr rfl hlocks hP hK hD hS (by unfold r_X1_has; rw [if_neg c_1, if_neg c_2]) rfl dX1_has_17

def r_X1_firstOfAll (t : XT) : Int32 :=
  if (t.1 4) = (-1 : Int32) then
    (t.1 5)
  else
    if (t.1 5) = (-1 : Int32) then
      (t.1 4)
    else
      (imn (t.1 4) (t.1 5))
set_option maxHeartbeats 4000000 in
set_option maxRecDepth 100000 in
theorem c_X1_firstOfAll (l : Launch) (D : va_G) (I : ClassId) (q : Nat → Nat) (sz : Nat) (t : XT)  : xMi l D [(I, .int)] yX1_firstOfAll wsX1_firstOfAll { frames := 1, cells := 0, slots := 0, locals := 13 } [.ref (q 2)] sz (wT I q t) (r_X1_firstOfAll t) (wT I q t) 0 0 := by
  refine xk_start (cc := cX1_firstOfAll) (maxL := 1) (ret := (some .int)) (Qf := fun A => xQi D [(I, .int)] A (r_X1_firstOfAll t) (wT I q t)) (by decide) rfl (Nat.le_of_ble_eq_true rfl) ?_
  intro p e s m below meth c A H ls hst hAe hsz hl
  obtain ⟨hx, hb, hr, hts, hown, hlocks, hml, hin, hN, hK, hP, hD, hA, hS⟩ := hst
  have hl : lv_has ls 1 [(0, .ref (q 2))] := hl
  have hP : va_P D vwCl (wT I q t) H := hP
  have hinX1 : ∀ w ∈ u_ws RX1 TX1 12, w ∈ wsX1_firstOfAll := by decide +kernel
  have w_1 := hts (.fieldLink RX1 43 "BridgeBells$Travellers" "firstBarge" "I") (by decide +kernel)
  have w_2 := hts (.fieldLink RX1 46 "BridgeBells$Travellers" "firstCart" "I") (by decide +kernel)
  have w_3 := hts (.methodLink RX1 58 Lib.Math.min.name) (by decide +kernel)
  have w_4 := hts (.static Lib.Math.min.name) (by decide +kernel)
  have w_5 := hts (.initialized "java/lang/Math") (by decide +kernel)
  have w_6 := hts (.code Lib.Math.min.name Lib.Math.min.code 2 (some .int)) (by decide +kernel)
  refine lv_aload_n hx hb dX1_firstOfAll_0 rfl (lv_at hl 0 rfl) ?_
  refine va_get (D := D) (ci := 1) (v := .int (t.1 4)) (C := RX1) (T := TX1) (N := 12) hx hb hts hinX1 hown hK hP 0 rfl rfl 10 (by decide) w_1 (fun _ h9 => h9) rfl dX1_firstOfAll_1 ?_
  refine lv_iconst (v := (-1 : Int32)) hx hb dX1_firstOfAll_4 (by decide) ?_
  refine lv_icmp_ne (tgt := 13) hx hb dX1_firstOfAll_5 (by decide) (fun c_1 => ?_) (fun c_1 => ?_)
  · refine lv_aload_n hx hb dX1_firstOfAll_13 rfl (lv_at hl 0 rfl) ?_
    refine va_get (D := D) (ci := 1) (v := .int (t.1 5)) (C := RX1) (T := TX1) (N := 12) hx hb hts hinX1 hown hK hP 0 rfl rfl 11 (by decide) w_2 (fun _ h9 => h9) rfl dX1_firstOfAll_14 ?_
    refine lv_iconst (v := (-1 : Int32)) hx hb dX1_firstOfAll_17 (by decide) ?_
    refine lv_icmp_ne (tgt := 28) hx hb dX1_firstOfAll_18 (by decide) (fun c_2 => ?_) (fun c_2 => ?_)
    · refine lv_aload_n hx hb dX1_firstOfAll_28 rfl (lv_at hl 0 rfl) ?_
      refine va_get (D := D) (ci := 1) (v := .int (t.1 4)) (C := RX1) (T := TX1) (N := 12) hx hb hts hinX1 hown hK hP 0 rfl rfl 10 (by decide) w_1 (fun _ h9 => h9) rfl dX1_firstOfAll_29 ?_
      refine lv_aload_n hx hb dX1_firstOfAll_32 rfl (lv_at hl 0 rfl) ?_
      refine va_get (D := D) (ci := 1) (v := .int (t.1 5)) (C := RX1) (T := TX1) (N := 12) hx hb hts hinX1 hown hK hP 0 rfl rfl 11 (by decide) w_2 (fun _ h9 => h9) rfl dX1_firstOfAll_33 ?_
      refine va_mmin hx hb (hml.trans hl.1.symm) hown w_3 w_4 w_5 w_6 (Nat.le_of_ble_eq_true rfl) (Nat.le_of_ble_eq_true rfl) (Nat.le_of_ble_eq_true rfl) (Nat.le_of_ble_eq_true rfl) dX1_firstOfAll_36 ?_
      refine W.eq (g2 := F0 m 39 ls [.int (imn (t.1 4) (t.1 5))]) rfl ?_
      exact xk_iret (wf := fun z : XT => wT I q z) (u := t) hx hb hr rfl hlocks hP hK hD hS (by unfold r_X1_firstOfAll; rw [if_neg c_1, if_neg c_2]) rfl dX1_firstOfAll_39
    · refine lv_aload_n hx hb dX1_firstOfAll_21 rfl (lv_at hl 0 rfl) ?_
      refine va_get (D := D) (ci := 1) (v := .int (t.1 4)) (C := RX1) (T := TX1) (N := 12) hx hb hts hinX1 hown hK hP 0 rfl rfl 10 (by decide) w_1 (fun _ h9 => h9) rfl dX1_firstOfAll_22 ?_
      refine lv_goto (tgt := 39) hx hb dX1_firstOfAll_25 (by decide) ?_
      exact xk_iret (wf := fun z : XT => wT I q z) (u := t) hx hb hr rfl hlocks hP hK hD hS (by unfold r_X1_firstOfAll; rw [if_neg c_1, if_pos c_2]) rfl dX1_firstOfAll_39
  · refine lv_aload_n hx hb dX1_firstOfAll_8 rfl (lv_at hl 0 rfl) ?_
    refine va_get (D := D) (ci := 1) (v := .int (t.1 5)) (C := RX1) (T := TX1) (N := 12) hx hb hts hinX1 hown hK hP 0 rfl rfl 11 (by decide) w_2 (fun _ h9 => h9) rfl dX1_firstOfAll_9 ?_
    exact xk_iret (wf := fun z : XT => wT I q z) (u := t) hx hb hr rfl hlocks hP hK hD hS (by unfold r_X1_firstOfAll; rw [if_pos c_1]) rfl dX1_firstOfAll_12

def r_X1_firstBargeElseCart (t : XT) : Int32 :=
  if (t.1 4) = (-1 : Int32) then
    (t.1 5)
  else
    (t.1 4)
set_option maxHeartbeats 4000000 in
set_option maxRecDepth 100000 in
theorem c_X1_firstBargeElseCart (l : Launch) (D : va_G) (I : ClassId) (q : Nat → Nat) (sz : Nat) (t : XT)  : xMi l D [(I, .int)] yX1_firstBargeElseCart wsX1_firstBargeElseCart { frames := 0, cells := 0, slots := 0, locals := 0 } [.ref (q 2)] sz (wT I q t) (r_X1_firstBargeElseCart t) (wT I q t) 0 0 := by
  refine xk_start (cc := cX1_firstBargeElseCart) (maxL := 1) (ret := (some .int)) (Qf := fun A => xQi D [(I, .int)] A (r_X1_firstBargeElseCart t) (wT I q t)) (by decide) rfl (Nat.le_of_ble_eq_true rfl) ?_
  intro p e s m below meth c A H ls hst hAe hsz hl
  obtain ⟨hx, hb, hr, hts, hown, hlocks, hml, hin, hN, hK, hP, hD, hA, hS⟩ := hst
  have hl : lv_has ls 1 [(0, .ref (q 2))] := hl
  have hP : va_P D vwCl (wT I q t) H := hP
  have hinX1 : ∀ w ∈ u_ws RX1 TX1 12, w ∈ wsX1_firstBargeElseCart := by decide +kernel
  have w_1 := hts (.fieldLink RX1 43 "BridgeBells$Travellers" "firstBarge" "I") (by decide +kernel)
  have w_2 := hts (.fieldLink RX1 46 "BridgeBells$Travellers" "firstCart" "I") (by decide +kernel)
  refine lv_aload_n hx hb dX1_firstBargeElseCart_0 rfl (lv_at hl 0 rfl) ?_
  refine va_get (D := D) (ci := 1) (v := .int (t.1 4)) (C := RX1) (T := TX1) (N := 12) hx hb hts hinX1 hown hK hP 0 rfl rfl 10 (by decide) w_1 (fun _ h9 => h9) rfl dX1_firstBargeElseCart_1 ?_
  refine lv_iconst (v := (-1 : Int32)) hx hb dX1_firstBargeElseCart_4 (by decide) ?_
  refine lv_icmp_eq (tgt := 15) hx hb dX1_firstBargeElseCart_5 (by decide) (fun c_1 => ?_) (fun c_1 => ?_)
  · refine lv_aload_n hx hb dX1_firstBargeElseCart_15 rfl (lv_at hl 0 rfl) ?_
    refine va_get (D := D) (ci := 1) (v := .int (t.1 5)) (C := RX1) (T := TX1) (N := 12) hx hb hts hinX1 hown hK hP 0 rfl rfl 11 (by decide) w_2 (fun _ h9 => h9) rfl dX1_firstBargeElseCart_16 ?_
    exact xk_iret (wf := fun z : XT => wT I q z) (u := t) hx hb hr rfl hlocks hP hK hD hS (by unfold r_X1_firstBargeElseCart; rw [if_pos c_1]) rfl dX1_firstBargeElseCart_19
  · refine lv_aload_n hx hb dX1_firstBargeElseCart_8 rfl (lv_at hl 0 rfl) ?_
    refine va_get (D := D) (ci := 1) (v := .int (t.1 4)) (C := RX1) (T := TX1) (N := 12) hx hb hts hinX1 hown hK hP 0 rfl rfl 10 (by decide) w_1 (fun _ h9 => h9) rfl dX1_firstBargeElseCart_9 ?_
    refine lv_goto (tgt := 19) hx hb dX1_firstBargeElseCart_12 (by decide) ?_
    exact xk_iret (wf := fun z : XT => wT I q z) (u := t) hx hb hr rfl hlocks hP hK hD hS (by unfold r_X1_firstBargeElseCart; rw [if_neg c_1]) rfl dX1_firstBargeElseCart_19

def r_X1_firstCartElseBarge (t : XT) : Int32 :=
  if (t.1 5) = (-1 : Int32) then
    (t.1 4)
  else
    (t.1 5)
set_option maxHeartbeats 4000000 in
set_option maxRecDepth 100000 in
theorem c_X1_firstCartElseBarge (l : Launch) (D : va_G) (I : ClassId) (q : Nat → Nat) (sz : Nat) (t : XT)  : xMi l D [(I, .int)] yX1_firstCartElseBarge wsX1_firstCartElseBarge { frames := 0, cells := 0, slots := 0, locals := 0 } [.ref (q 2)] sz (wT I q t) (r_X1_firstCartElseBarge t) (wT I q t) 0 0 := by
  refine xk_start (cc := cX1_firstCartElseBarge) (maxL := 1) (ret := (some .int)) (Qf := fun A => xQi D [(I, .int)] A (r_X1_firstCartElseBarge t) (wT I q t)) (by decide) rfl (Nat.le_of_ble_eq_true rfl) ?_
  intro p e s m below meth c A H ls hst hAe hsz hl
  obtain ⟨hx, hb, hr, hts, hown, hlocks, hml, hin, hN, hK, hP, hD, hA, hS⟩ := hst
  have hl : lv_has ls 1 [(0, .ref (q 2))] := hl
  have hP : va_P D vwCl (wT I q t) H := hP
  have hinX1 : ∀ w ∈ u_ws RX1 TX1 12, w ∈ wsX1_firstCartElseBarge := by decide +kernel
  have w_1 := hts (.fieldLink RX1 46 "BridgeBells$Travellers" "firstCart" "I") (by decide +kernel)
  have w_2 := hts (.fieldLink RX1 43 "BridgeBells$Travellers" "firstBarge" "I") (by decide +kernel)
  refine lv_aload_n hx hb dX1_firstCartElseBarge_0 rfl (lv_at hl 0 rfl) ?_
  refine va_get (D := D) (ci := 1) (v := .int (t.1 5)) (C := RX1) (T := TX1) (N := 12) hx hb hts hinX1 hown hK hP 0 rfl rfl 11 (by decide) w_1 (fun _ h9 => h9) rfl dX1_firstCartElseBarge_1 ?_
  refine lv_iconst (v := (-1 : Int32)) hx hb dX1_firstCartElseBarge_4 (by decide) ?_
  refine lv_icmp_eq (tgt := 15) hx hb dX1_firstCartElseBarge_5 (by decide) (fun c_1 => ?_) (fun c_1 => ?_)
  · refine lv_aload_n hx hb dX1_firstCartElseBarge_15 rfl (lv_at hl 0 rfl) ?_
    refine va_get (D := D) (ci := 1) (v := .int (t.1 4)) (C := RX1) (T := TX1) (N := 12) hx hb hts hinX1 hown hK hP 0 rfl rfl 10 (by decide) w_2 (fun _ h9 => h9) rfl dX1_firstCartElseBarge_16 ?_
    exact xk_iret (wf := fun z : XT => wT I q z) (u := t) hx hb hr rfl hlocks hP hK hD hS (by unfold r_X1_firstCartElseBarge; rw [if_pos c_1]) rfl dX1_firstCartElseBarge_19
  · refine lv_aload_n hx hb dX1_firstCartElseBarge_8 rfl (lv_at hl 0 rfl) ?_
    refine va_get (D := D) (ci := 1) (v := .int (t.1 5)) (C := RX1) (T := TX1) (N := 12) hx hb hts hinX1 hown hK hP 0 rfl rfl 11 (by decide) w_1 (fun _ h9 => h9) rfl dX1_firstCartElseBarge_9 ?_
    refine lv_goto (tgt := 19) hx hb dX1_firstCartElseBarge_12 (by decide) ?_
    exact xk_iret (wf := fun z : XT => wT I q z) (u := t) hx hb hr rfl hlocks hP hK hD hS (by unfold r_X1_firstCartElseBarge; rw [if_neg c_1]) rfl dX1_firstCartElseBarge_19

def r_X1_waited (t : XT) (k : Int32) (mi : Int32) : Int32 :=
  if ((t.2 2) k.toNatClampNeg) = 0 then
    (mi - ((t.2 3) k.toNatClampNeg))
  else
    (((t.2 5) k.toNatClampNeg) - ((t.2 3) k.toNatClampNeg))
set_option maxHeartbeats 4000000 in
set_option maxRecDepth 100000 in
theorem c_X1_waited (l : Launch) (D : va_G) (I : ClassId) (q : Nat → Nat) (sz : Nat) (t : XT) (k : Int32) (mi : Int32) (hk : vp_in k 40) : xMi l D [(I, .int)] yX1_waited wsX1_waited { frames := 0, cells := 0, slots := 0, locals := 0 } [.ref (q 2), .int k, .int mi] sz (wT I q t) (r_X1_waited t k mi) (wT I q t) 0 0 := by
  refine xk_start (cc := cX1_waited) (maxL := 4) (ret := (some .int)) (Qf := fun A => xQi D [(I, .int)] A (r_X1_waited t k mi) (wT I q t)) (by decide) rfl (Nat.le_of_ble_eq_true rfl) ?_
  intro p e s m below meth c A H ls hst hAe hsz hl
  obtain ⟨hx, hb, hr, hts, hown, hlocks, hml, hin, hN, hK, hP, hD, hA, hS⟩ := hst
  have hl : lv_has ls 4 [(0, .ref (q 2)), (1, .int k), (2, .int mi)] := hl
  have hP : va_P D vwCl (wT I q t) H := hP
  have hinX1 : ∀ w ∈ u_ws RX1 TX1 12, w ∈ wsX1_waited := by decide +kernel
  have w_1 := hts (.fieldLink RX1 31 "BridgeBells$Travellers" "state" "[I") (by decide +kernel)
  have w_2 := hts (.fieldLink RX1 40 "BridgeBells$Travellers" "waitEnd" "[I") (by decide +kernel)
  have w_3 := hts (.fieldLink RX1 34 "BridgeBells$Travellers" "came" "[I") (by decide +kernel)
  refine lv_aload_n hx hb dX1_waited_0 rfl (lv_at hl 0 rfl) ?_
  refine va_get (D := D) (ci := 1) (v := .ref (q 5)) (C := RX1) (T := TX1) (N := 12) hx hb hts hinX1 hown hK hP 0 rfl rfl 6 (by decide) w_1 (fun _ h9 => h9) rfl dX1_waited_1 ?_
  refine lv_iload_n hx hb dX1_waited_4 rfl (lv_at hl 1 rfl) ?_
  refine va_iald (f := (t.2 2)) hx hb hK hP 3 0 rfl rfl (show vp_in k 40 from hk) dX1_waited_5 ?_
  refine lv_if_ne (tgt := 13) hx hb dX1_waited_6 (by decide) (fun c_1 => ?_) (fun c_1 => ?_)
  · refine lv_aload_n hx hb dX1_waited_13 rfl (lv_at hl 0 rfl) ?_
    refine va_get (D := D) (ci := 1) (v := .ref (q 8)) (C := RX1) (T := TX1) (N := 12) hx hb hts hinX1 hown hK hP 0 rfl rfl 9 (by decide) w_2 (fun _ h9 => h9) rfl dX1_waited_14 ?_
    refine lv_iload_n hx hb dX1_waited_17 rfl (lv_at hl 1 rfl) ?_
    refine va_iald (f := (t.2 5)) hx hb hK hP 6 0 rfl rfl (show vp_in k 40 from hk) dX1_waited_18 ?_
    refine lv_istore_n (lv' := [(3, .int ((t.2 5) k.toNatClampNeg)), (0, .ref (q 2)), (1, .int k), (2, .int mi)]) hx hb dX1_waited_19 rfl hl (by decide) rfl (fun ls hl => ?_)
    refine lv_iload_n hx hb dX1_waited_20 rfl (lv_at hl 0 rfl) ?_
    refine lv_aload_n hx hb dX1_waited_21 rfl (lv_at hl 1 rfl) ?_
    refine va_get (D := D) (ci := 1) (v := .ref (q 6)) (C := RX1) (T := TX1) (N := 12) hx hb hts hinX1 hown hK hP 0 rfl rfl 7 (by decide) w_3 (fun _ h9 => h9) rfl dX1_waited_22 ?_
    refine lv_iload_n hx hb dX1_waited_25 rfl (lv_at hl 2 rfl) ?_
    refine va_iald (f := (t.2 3)) hx hb hK hP 4 0 rfl rfl (show vp_in k 40 from hk) dX1_waited_26 ?_
    refine lv_isub hx hb dX1_waited_27 ?_
    exact xk_iret (wf := fun z : XT => wT I q z) (u := t) hx hb hr rfl hlocks hP hK hD hS (by unfold r_X1_waited; rw [if_neg c_1]) rfl dX1_waited_28
  · refine lv_iload_n hx hb dX1_waited_9 rfl (lv_at hl 2 rfl) ?_
    refine lv_goto (tgt := 19) hx hb dX1_waited_10 (by decide) ?_
    refine lv_istore_n (lv' := [(3, .int mi), (0, .ref (q 2)), (1, .int k), (2, .int mi)]) hx hb dX1_waited_19 rfl hl (by decide) rfl (fun ls hl => ?_)
    refine lv_iload_n hx hb dX1_waited_20 rfl (lv_at hl 0 rfl) ?_
    refine lv_aload_n hx hb dX1_waited_21 rfl (lv_at hl 1 rfl) ?_
    refine va_get (D := D) (ci := 1) (v := .ref (q 6)) (C := RX1) (T := TX1) (N := 12) hx hb hts hinX1 hown hK hP 0 rfl rfl 7 (by decide) w_3 (fun _ h9 => h9) rfl dX1_waited_22 ?_
    refine lv_iload_n hx hb dX1_waited_25 rfl (lv_at hl 2 rfl) ?_
    refine va_iald (f := (t.2 3)) hx hb hK hP 4 0 rfl rfl (show vp_in k 40 from hk) dX1_waited_26 ?_
    refine lv_isub hx hb dX1_waited_27 ?_
    exact xk_iret (wf := fun z : XT => wT I q z) (u := t) hx hb hr rfl hlocks hP hK hD hS (by unfold r_X1_waited; rw [if_pos c_1]) rfl dX1_waited_28

def s_X1_endPassage (t : XT) (k : Int32) (mi : Int32) : XT :=
  (xs t.1 1 ((t.1 1) + (1 : Int32)), xa (xa t.2 2 (upd (t.2 2) k.toNatClampNeg (2 : Int32))) 4 (upd (t.2 4) k.toNatClampNeg mi))
set_option maxHeartbeats 4000000 in
set_option maxRecDepth 100000 in
theorem c_X1_endPassage (l : Launch) (D : va_G) (I : ClassId) (q : Nat → Nat) (sz : Nat) (t : XT) (k : Int32) (mi : Int32) (hk : vp_in k 40) : xMv l D [(I, .int)] yX1_endPassage wsX1_endPassage { frames := 0, cells := 0, slots := 0, locals := 0 } [.ref (q 2), .int k, .int mi] sz (wT I q t) (wT I q (s_X1_endPassage t k mi)) 0 0 := by
  refine xk_start (cc := cX1_endPassage) (maxL := 3) (ret := none) (Qf := fun A => xQv D [(I, .int)] A (wT I q (s_X1_endPassage t k mi))) (by decide) rfl (Nat.le_of_ble_eq_true rfl) ?_
  intro p e s m below meth c A H ls hst hAe hsz hl
  obtain ⟨hx, hb, hr, hts, hown, hlocks, hml, hin, hN, hK, hP, hD, hA, hS⟩ := hst
  have hl : lv_has ls 3 [(0, .ref (q 2)), (1, .int k), (2, .int mi)] := hl
  have hP : va_P D vwCl (wT I q t) H := hP
  have hinX1 : ∀ w ∈ u_ws RX1 TX1 12, w ∈ wsX1_endPassage := by decide +kernel
  have w_1 := hts (.fieldLink RX1 31 "BridgeBells$Travellers" "state" "[I") (by decide +kernel)
  have w_2 := hts (.fieldLink RX1 37 "BridgeBells$Travellers" "passedIn" "[I") (by decide +kernel)
  have w_3 := hts (.fieldLink RX1 15 "BridgeBells$Travellers" "passed" "I") (by decide +kernel)
  refine lv_aload_n hx hb dX1_endPassage_0 rfl (lv_at hl 0 rfl) ?_
  refine va_get (D := D) (ci := 1) (v := .ref (q 5)) (C := RX1) (T := TX1) (N := 12) hx hb hts hinX1 hown hK hP 0 rfl rfl 6 (by decide) w_1 (fun _ h9 => h9) rfl dX1_endPassage_1 ?_
  refine lv_iload_n hx hb dX1_endPassage_4 rfl (lv_at hl 1 rfl) ?_
  refine lv_iconst (v := (2 : Int32)) hx hb dX1_endPassage_5 (by decide) ?_
  refine va_iast (f := (t.2 2)) hx hb hK hP hD hS 3 0 rfl rfl (show vp_in k 40 from hk) dX1_endPassage_6 (fun H locs hP hD hS => ?_)
  have hP : va_P D vwCl (wT I q (t.1, xa t.2 2 (upd (t.2 2) k.toNatClampNeg (2 : Int32)))) H := hP
  have hD : va_D A (wT I q (t.1, xa t.2 2 (upd (t.2 2) k.toNatClampNeg (2 : Int32)))) := hD
  refine lv_aload_n hx hb dX1_endPassage_7 rfl (lv_at hl 0 rfl) ?_
  refine va_get (D := D) (ci := 1) (v := .ref (q 7)) (C := RX1) (T := TX1) (N := 12) hx hb hts hinX1 hown hK hP 0 rfl rfl 8 (by decide) w_2 (fun _ h9 => h9) rfl dX1_endPassage_8 ?_
  refine lv_iload_n hx hb dX1_endPassage_11 rfl (lv_at hl 1 rfl) ?_
  refine lv_iload_n hx hb dX1_endPassage_12 rfl (lv_at hl 2 rfl) ?_
  refine va_iast (f := (t.2 4)) hx hb hK hP hD hS 5 0 rfl rfl (show vp_in k 40 from hk) dX1_endPassage_13 (fun H locs hP hD hS => ?_)
  have hP : va_P D vwCl (wT I q (t.1, xa (xa t.2 2 (upd (t.2 2) k.toNatClampNeg (2 : Int32))) 4 (upd (t.2 4) k.toNatClampNeg mi))) H := hP
  have hD : va_D A (wT I q (t.1, xa (xa t.2 2 (upd (t.2 2) k.toNatClampNeg (2 : Int32))) 4 (upd (t.2 4) k.toNatClampNeg mi))) := hD
  refine lv_aload_n hx hb dX1_endPassage_14 rfl (lv_at hl 0 rfl) ?_
  refine lv_dup hx hb dX1_endPassage_15 rfl ?_
  refine va_get (D := D) (ci := 1) (v := .int (t.1 1)) (C := RX1) (T := TX1) (N := 12) hx hb hts hinX1 hown hK hP 0 rfl rfl 1 (by decide) w_3 (fun _ h9 => h9) rfl dX1_endPassage_16 ?_
  refine lv_iconst (v := (1 : Int32)) hx hb dX1_endPassage_19 (by decide) ?_
  refine lv_iadd hx hb dX1_endPassage_20 ?_
  refine va_put (D := D) (ci := 1) (v := .int ((t.1 1) + (1 : Int32))) (ty := tyX1 1) (C := RX1) (T := TX1) (N := 12) hx hb hts hinX1 tyX1 tyX1_ok nmX1 hown hK hP hD hS 0 rfl rfl 1 (by decide) w_3 (fun _ h9 => h9) rfl (tyX1_ok 1 (by decide)) rfl rfl (Nat.le_of_ble_eq_true rfl) dX1_endPassage_21 (fun H locs hP hD hS => ?_)
  have hP : va_P D vwCl (wT I q (xs t.1 1 ((t.1 1) + (1 : Int32)), xa (xa t.2 2 (upd (t.2 2) k.toNatClampNeg (2 : Int32))) 4 (upd (t.2 4) k.toNatClampNeg mi))) H := hP
  have hD : va_D A (wT I q (xs t.1 1 ((t.1 1) + (1 : Int32)), xa (xa t.2 2 (upd (t.2 2) k.toNatClampNeg (2 : Int32))) 4 (upd (t.2 4) k.toNatClampNeg mi))) := hD
  exact xk_vret (wf := fun z : XT => wT I q z) (u := (xs t.1 1 ((t.1 1) + (1 : Int32)), xa (xa t.2 2 (upd (t.2 2) k.toNatClampNeg (2 : Int32))) 4 (upd (t.2 4) k.toNatClampNeg mi))) hx hb hr hlocks hP hK hD hS (by unfold s_X1_endPassage; rfl) dX1_endPassage_24

/-- one traveller seen -/
def sw_step (g : Nat → Nat → Int32) (k : Nat) (f : Nat → Int32) : Nat → Int32 :=
  if g 2 k = 0 then (if g 0 k = 1 then xs (xs f 2 (f 2 + 1)) 4 (nI k) else xs (xs f 3 (f 3 + 1)) 5 (nI k)) else f
/-- all below k seen, from the last to the first -/
def sw (g : Nat → Nat → Int32) : Nat → (Nat → Int32) → (Nat → Int32)
  | 0, f => f
  | k + 1, f => sw g k (sw_step g k f)
def s_X1_seeWhoWaits (t : XT) : XT := (sw t.2 (t.1 0).toNatClampNeg (xs (xs (xs (xs t.1 2 0) 3 0) 4 (-1)) 5 (-1)), t.2)

set_option maxHeartbeats 4000000 in
set_option maxRecDepth 100000 in
theorem c_X1_seeWhoWaits (l : Launch) (D : va_G) (I : ClassId) (q : Nat → Nat) (sz : Nat) (t : XT) (hn : nOk (t.1 0)) : xMv l D [(I, .int)] yX1_seeWhoWaits wsX1_seeWhoWaits { frames := 0, cells := 0, slots := 0, locals := 0 } [.ref (q 2)] sz (wT I q t) (wT I q (s_X1_seeWhoWaits t)) 0 0 := by
  refine xk_start (cc := cX1_seeWhoWaits) (maxL := 2) (ret := none) (Qf := fun A => xQv D [(I, .int)] A (wT I q (s_X1_seeWhoWaits t))) (by decide) rfl (Nat.le_of_ble_eq_true rfl) ?_
  intro p e s m below meth c A H ls hst hAe hsz hl
  obtain ⟨hx, hb, hr, hts, hown, hlocks, hml, hin, hN, hK, hP, hD, hA, hS⟩ := hst
  have hl : lv_has ls 2 [(0, .ref (q 2))] := hl
  have hP : va_P D vwCl (wT I q t) H := hP
  have hinX1 : ∀ w ∈ u_ws RX1 TX1 12, w ∈ wsX1_seeWhoWaits := by decide +kernel
  have w_1 := hts (.fieldLink RX1 18 "BridgeBells$Travellers" "bargesWaiting" "I") (by decide +kernel)
  have w_2 := hts (.fieldLink RX1 21 "BridgeBells$Travellers" "cartsWaiting" "I") (by decide +kernel)
  have w_3 := hts (.fieldLink RX1 43 "BridgeBells$Travellers" "firstBarge" "I") (by decide +kernel)
  have w_4 := hts (.fieldLink RX1 46 "BridgeBells$Travellers" "firstCart" "I") (by decide +kernel)
  have w_5 := hts (.fieldLink RX1 9 "BridgeBells$Travellers" "number" "I") (by decide +kernel)
  have w_6 := hts (.fieldLink RX1 31 "BridgeBells$Travellers" "state" "[I") (by decide +kernel)
  have w_7 := hts (.fieldLink RX1 24 "BridgeBells$Travellers" "barge" "[I") (by decide +kernel)
  have hn40 : (t.1 0).toNatClampNeg ≤ 40 := nOk_le hn
  have hx0 : (t.1 0 - 1).toInt = ((t.1 0).toNatClampNeg : Int) - 1 := nOk_m1 hn
  refine lv_aload_n hx hb dX1_seeWhoWaits_0 rfl (lv_at hl 0 rfl) ?_
  refine lv_iconst (v := (0 : Int32)) hx hb dX1_seeWhoWaits_1 (by decide) ?_
  refine va_put (D := D) (ci := 1) (v := .int (0 : Int32)) (ty := tyX1 2) (C := RX1) (T := TX1) (N := 12) hx hb hts hinX1 tyX1 tyX1_ok nmX1 hown hK hP hD hS 0 rfl rfl 2 (by decide) w_1 (fun _ h9 => h9) rfl (tyX1_ok 2 (by decide)) rfl rfl (Nat.le_of_ble_eq_true rfl) dX1_seeWhoWaits_2 (fun H locs hP hD hS => ?_)
  have hP : va_P D vwCl (wT I q (xs t.1 2 (0 : Int32), t.2)) H := hP
  have hD : va_D A (wT I q (xs t.1 2 (0 : Int32), t.2)) := hD
  refine lv_aload_n hx hb dX1_seeWhoWaits_5 rfl (lv_at hl 0 rfl) ?_
  refine lv_iconst (v := (0 : Int32)) hx hb dX1_seeWhoWaits_6 (by decide) ?_
  refine va_put (D := D) (ci := 1) (v := .int (0 : Int32)) (ty := tyX1 3) (C := RX1) (T := TX1) (N := 12) hx hb hts hinX1 tyX1 tyX1_ok nmX1 hown hK hP hD hS 0 rfl rfl 3 (by decide) w_2 (fun _ h9 => h9) rfl (tyX1_ok 3 (by decide)) rfl rfl (Nat.le_of_ble_eq_true rfl) dX1_seeWhoWaits_7 (fun H locs hP hD hS => ?_)
  have hP : va_P D vwCl (wT I q (xs (xs t.1 2 (0 : Int32)) 3 (0 : Int32), t.2)) H := hP
  have hD : va_D A (wT I q (xs (xs t.1 2 (0 : Int32)) 3 (0 : Int32), t.2)) := hD
  refine lv_aload_n hx hb dX1_seeWhoWaits_10 rfl (lv_at hl 0 rfl) ?_
  refine lv_iconst (v := (-1 : Int32)) hx hb dX1_seeWhoWaits_11 (by decide) ?_
  refine va_put (D := D) (ci := 1) (v := .int (-1 : Int32)) (ty := tyX1 10) (C := RX1) (T := TX1) (N := 12) hx hb hts hinX1 tyX1 tyX1_ok nmX1 hown hK hP hD hS 0 rfl rfl 10 (by decide) w_3 (fun _ h9 => h9) rfl (tyX1_ok 10 (by decide)) rfl rfl (Nat.le_of_ble_eq_true rfl) dX1_seeWhoWaits_12 (fun H locs hP hD hS => ?_)
  have hP : va_P D vwCl (wT I q (xs (xs (xs t.1 2 (0 : Int32)) 3 (0 : Int32)) 4 (-1 : Int32), t.2)) H := hP
  have hD : va_D A (wT I q (xs (xs (xs t.1 2 (0 : Int32)) 3 (0 : Int32)) 4 (-1 : Int32), t.2)) := hD
  refine lv_aload_n hx hb dX1_seeWhoWaits_15 rfl (lv_at hl 0 rfl) ?_
  refine lv_iconst (v := (-1 : Int32)) hx hb dX1_seeWhoWaits_16 (by decide) ?_
  refine va_put (D := D) (ci := 1) (v := .int (-1 : Int32)) (ty := tyX1 11) (C := RX1) (T := TX1) (N := 12) hx hb hts hinX1 tyX1 tyX1_ok nmX1 hown hK hP hD hS 0 rfl rfl 11 (by decide) w_4 (fun _ h9 => h9) rfl (tyX1_ok 11 (by decide)) rfl rfl (Nat.le_of_ble_eq_true rfl) dX1_seeWhoWaits_17 (fun H locs hP hD hS => ?_)
  have hP : va_P D vwCl (wT I q (xs (xs (xs (xs t.1 2 (0 : Int32)) 3 (0 : Int32)) 4 (-1 : Int32)) 5 (-1 : Int32), t.2)) H := hP
  have hD : va_D A (wT I q (xs (xs (xs (xs t.1 2 (0 : Int32)) 3 (0 : Int32)) 4 (-1 : Int32)) 5 (-1 : Int32), t.2)) := hD
  refine lv_aload_n hx hb dX1_seeWhoWaits_20 rfl (lv_at hl 0 rfl) ?_
  refine va_get (D := D) (ci := 1) (v := .int (t.1 0)) (C := RX1) (T := TX1) (N := 12) hx hb hts hinX1 hown hK hP 0 rfl rfl 0 (by decide) w_5 (fun _ h9 => h9) rfl dX1_seeWhoWaits_21 ?_
  refine lv_iconst (v := (1 : Int32)) hx hb dX1_seeWhoWaits_24 (by decide) ?_
  refine lv_isub hx hb dX1_seeWhoWaits_25 ?_
  refine lv_istore_n (lv' := [(1, .int ((t.1 0) - (1 : Int32))), (0, .ref (q 2))]) hx hb dX1_seeWhoWaits_26 rfl hl (by decide) rfl (fun ls hl => ?_)
  have loop : ∀ (k : Nat) (x : Int32) (f : Nat → Int32), k ≤ 40 → x.toInt = (k : Int) - 1 → ∀ (H : Heap) (locs : List Loc), va_P D vwCl (wT I q (f, t.2)) H → va_D A (wT I q (f, t.2)) → va_S A s.heap H locs → ∀ ls, lv_has ls 2 [(1, .int x), (0, .ref (q 2))] → W p l e { frames := 0, cells := 0, slots := 0, locals := 0 } s m #[.ref (q 2)] below meth c H locs 0 0 (MQ below (xQv D [(I, .int)] A (wT I q (sw t.2 k f, t.2))) #[.ref (q 2)] s 0 0 A) (F0 m 27 ls []) := by
    intro k
    induction k with
    | zero =>
      intro x f hk hx1 H locs hP hD hS ls hl
      refine lv_iload_n hx hb dX1_seeWhoWaits_27 rfl (lv_at hl 0 rfl) ?_
      refine lv_if_lt (tgt := 92) hx hb dX1_seeWhoWaits_28 (by decide) (fun c_1 => ?_) (fun c_1 => ?_)
      · exact xk_vret (wf := fun z : XT => wT I q z) (u := (f, t.2)) hx hb hr hlocks hP hK hD hS rfl dX1_seeWhoWaits_92
      · exact absurd (Int32.lt_iff_toInt_lt.mpr (by rw [hx1]; decide)) c_1
    | succ k ih =>
      intro x f hk hx1 H locs hP hD hS ls hl
      have hin1 : vp_in x 40 := vin40 (by omega) (by omega)
      have hxk : x = nI k := Int32.toInt_inj.mp (by rw [hx1, nI_toInt (by omega)]; omega)
      subst hxk
      refine lv_iload_n hx hb dX1_seeWhoWaits_27 rfl (lv_at hl 0 rfl) ?_
      refine lv_if_lt (tgt := 92) hx hb dX1_seeWhoWaits_28 (by decide) (fun c_2 => ?_) (fun c_2 => ?_)
      · exact absurd (Int32.lt_iff_toInt_lt.mp c_2) (by rw [nI_toInt (by omega)]; show ¬ ((k : Int) < 0); omega)
      · refine lv_aload_n hx hb dX1_seeWhoWaits_31 rfl (lv_at hl 1 rfl) ?_
        refine va_get (D := D) (ci := 1) (v := .ref (q 5)) (C := RX1) (T := TX1) (N := 12) hx hb hts hinX1 hown hK hP 0 rfl rfl 6 (by decide) w_6 (fun _ h9 => h9) rfl dX1_seeWhoWaits_32 ?_
        refine lv_iload_n hx hb dX1_seeWhoWaits_35 rfl (lv_at hl 0 rfl) ?_
        refine va_iald (f := (t.2 2)) hx hb hK hP 3 0 rfl rfl (show vp_in (nI k) 40 from hin1) dX1_seeWhoWaits_36 ?_
        refine W.eq (congrArg (fun z => F0 m 37 ls (.int ((t.2 2) z) :: [])) (nI_clamp (n := k) (by omega))) ?_
        refine lv_if_eq (tgt := 43) hx hb dX1_seeWhoWaits_37 (by decide) (fun c_3 => ?_) (fun c_3 => ?_)
        · refine lv_aload_n hx hb dX1_seeWhoWaits_43 rfl (lv_at hl 1 rfl) ?_
          refine va_get (D := D) (ci := 1) (v := .ref (q 3)) (C := RX1) (T := TX1) (N := 12) hx hb hts hinX1 hown hK hP 0 rfl rfl 4 (by decide) w_7 (fun _ h9 => h9) rfl dX1_seeWhoWaits_44 ?_
          refine lv_iload_n hx hb dX1_seeWhoWaits_47 rfl (lv_at hl 0 rfl) ?_
          refine va_iald (f := (t.2 0)) hx hb hK hP 1 0 rfl rfl (show vp_in (nI k) 40 from hin1) dX1_seeWhoWaits_48 ?_
          refine W.eq (congrArg (fun z => F0 m 49 ls (.int ((t.2 0) z) :: [])) (nI_clamp (n := k) (by omega))) ?_
          refine lv_iconst (v := (1 : Int32)) hx hb dX1_seeWhoWaits_49 (by decide) ?_
          refine lv_icmp_ne (tgt := 71) hx hb dX1_seeWhoWaits_50 (by decide) (fun c_4 => ?_) (fun c_4 => ?_)
          · refine lv_aload_n hx hb dX1_seeWhoWaits_71 rfl (lv_at hl 1 rfl) ?_
            refine lv_dup hx hb dX1_seeWhoWaits_72 rfl ?_
            refine va_get (D := D) (ci := 1) (v := .int (f 3)) (C := RX1) (T := TX1) (N := 12) hx hb hts hinX1 hown hK hP 0 rfl rfl 3 (by decide) w_2 (fun _ h9 => h9) rfl dX1_seeWhoWaits_73 ?_
            refine lv_iconst (v := (1 : Int32)) hx hb dX1_seeWhoWaits_76 (by decide) ?_
            refine lv_iadd hx hb dX1_seeWhoWaits_77 ?_
            refine va_put (D := D) (ci := 1) (v := .int ((f 3) + (1 : Int32))) (ty := tyX1 3) (C := RX1) (T := TX1) (N := 12) hx hb hts hinX1 tyX1 tyX1_ok nmX1 hown hK hP hD hS 0 rfl rfl 3 (by decide) w_2 (fun _ h9 => h9) rfl (tyX1_ok 3 (by decide)) rfl rfl (Nat.le_of_ble_eq_true rfl) dX1_seeWhoWaits_78 (fun H locs hP hD hS => ?_)
            have hP : va_P D vwCl (wT I q (xs f 3 ((f 3) + (1 : Int32)), t.2)) H := hP
            have hD : va_D A (wT I q (xs f 3 ((f 3) + (1 : Int32)), t.2)) := hD
            refine lv_aload_n hx hb dX1_seeWhoWaits_81 rfl (lv_at hl 1 rfl) ?_
            refine lv_iload_n hx hb dX1_seeWhoWaits_82 rfl (lv_at hl 0 rfl) ?_
            refine va_put (D := D) (ci := 1) (v := .int (nI k)) (ty := tyX1 11) (C := RX1) (T := TX1) (N := 12) hx hb hts hinX1 tyX1 tyX1_ok nmX1 hown hK hP hD hS 0 rfl rfl 11 (by decide) w_4 (fun _ h9 => h9) rfl (tyX1_ok 11 (by decide)) rfl rfl (Nat.le_of_ble_eq_true rfl) dX1_seeWhoWaits_83 (fun H locs hP hD hS => ?_)
            have hP : va_P D vwCl (wT I q (xs (xs f 3 ((f 3) + (1 : Int32))) 5 (nI k), t.2)) H := hP
            have hD : va_D A (wT I q (xs (xs f 3 ((f 3) + (1 : Int32))) 5 (nI k), t.2)) := hD
            refine lv_iinc (v := ((nI k) + (-1 : Int32))) (lv' := [(1, .int ((nI k) + (-1 : Int32))), (0, .ref (q 2))]) hx hb dX1_seeWhoWaits_86 hl (k := 0) rfl (by first | rfl | decide) (by decide) rfl (fun ls hl => ?_)
            refine lv_goto (tgt := 27) hx hb dX1_seeWhoWaits_89 (by decide) ?_
            have e9 : sw t.2 (k + 1) f = sw t.2 k (xs (xs f 3 ((f 3) + (1 : Int32))) 5 (nI k)) := by
              show sw t.2 k (sw_step t.2 k f) = _
              unfold sw_step; rw [if_pos c_3, if_neg c_4]
            rw [e9]
            exact ih _ _ (by omega) (by rw [Int32.toInt_add, nI_toInt (by omega)]; exact i_m1 (by omega)) _ _ hP hD hS ls hl
          · refine lv_aload_n hx hb dX1_seeWhoWaits_53 rfl (lv_at hl 1 rfl) ?_
            refine lv_dup hx hb dX1_seeWhoWaits_54 rfl ?_
            refine va_get (D := D) (ci := 1) (v := .int (f 2)) (C := RX1) (T := TX1) (N := 12) hx hb hts hinX1 hown hK hP 0 rfl rfl 2 (by decide) w_1 (fun _ h9 => h9) rfl dX1_seeWhoWaits_55 ?_
            refine lv_iconst (v := (1 : Int32)) hx hb dX1_seeWhoWaits_58 (by decide) ?_
            refine lv_iadd hx hb dX1_seeWhoWaits_59 ?_
            refine va_put (D := D) (ci := 1) (v := .int ((f 2) + (1 : Int32))) (ty := tyX1 2) (C := RX1) (T := TX1) (N := 12) hx hb hts hinX1 tyX1 tyX1_ok nmX1 hown hK hP hD hS 0 rfl rfl 2 (by decide) w_1 (fun _ h9 => h9) rfl (tyX1_ok 2 (by decide)) rfl rfl (Nat.le_of_ble_eq_true rfl) dX1_seeWhoWaits_60 (fun H locs hP hD hS => ?_)
            have hP : va_P D vwCl (wT I q (xs f 2 ((f 2) + (1 : Int32)), t.2)) H := hP
            have hD : va_D A (wT I q (xs f 2 ((f 2) + (1 : Int32)), t.2)) := hD
            refine lv_aload_n hx hb dX1_seeWhoWaits_63 rfl (lv_at hl 1 rfl) ?_
            refine lv_iload_n hx hb dX1_seeWhoWaits_64 rfl (lv_at hl 0 rfl) ?_
            refine va_put (D := D) (ci := 1) (v := .int (nI k)) (ty := tyX1 10) (C := RX1) (T := TX1) (N := 12) hx hb hts hinX1 tyX1 tyX1_ok nmX1 hown hK hP hD hS 0 rfl rfl 10 (by decide) w_3 (fun _ h9 => h9) rfl (tyX1_ok 10 (by decide)) rfl rfl (Nat.le_of_ble_eq_true rfl) dX1_seeWhoWaits_65 (fun H locs hP hD hS => ?_)
            have hP : va_P D vwCl (wT I q (xs (xs f 2 ((f 2) + (1 : Int32))) 4 (nI k), t.2)) H := hP
            have hD : va_D A (wT I q (xs (xs f 2 ((f 2) + (1 : Int32))) 4 (nI k), t.2)) := hD
            refine lv_goto (tgt := 86) hx hb dX1_seeWhoWaits_68 (by decide) ?_
            refine lv_iinc (v := ((nI k) + (-1 : Int32))) (lv' := [(1, .int ((nI k) + (-1 : Int32))), (0, .ref (q 2))]) hx hb dX1_seeWhoWaits_86 hl (k := 0) rfl (by first | rfl | decide) (by decide) rfl (fun ls hl => ?_)
            refine lv_goto (tgt := 27) hx hb dX1_seeWhoWaits_89 (by decide) ?_
            have e9 : sw t.2 (k + 1) f = sw t.2 k (xs (xs f 2 ((f 2) + (1 : Int32))) 4 (nI k)) := by
              show sw t.2 k (sw_step t.2 k f) = _
              unfold sw_step; rw [if_pos c_3, if_pos c_4]
            rw [e9]
            exact ih _ _ (by omega) (by rw [Int32.toInt_add, nI_toInt (by omega)]; exact i_m1 (by omega)) _ _ hP hD hS ls hl
        · refine lv_goto (tgt := 86) hx hb dX1_seeWhoWaits_40 (by decide) ?_
          refine lv_iinc (v := ((nI k) + (-1 : Int32))) (lv' := [(1, .int ((nI k) + (-1 : Int32))), (0, .ref (q 2))]) hx hb dX1_seeWhoWaits_86 hl (k := 0) rfl (by first | rfl | decide) (by decide) rfl (fun ls hl => ?_)
          refine lv_goto (tgt := 27) hx hb dX1_seeWhoWaits_89 (by decide) ?_
          have e9 : sw t.2 (k + 1) f = sw t.2 k (f) := by
            show sw t.2 k (sw_step t.2 k f) = _
            unfold sw_step; rw [if_neg c_3]
          rw [e9]
          exact ih _ _ (by omega) (by rw [Int32.toInt_add, nI_toInt (by omega)]; exact i_m1 (by omega)) _ _ hP hD hS ls hl
  exact loop _ _ _ hn40 hx0 _ _ hP hD hS ls hl

def s_X1_endWait (t : XT) (k : Int32) (st : Int32) (mi : Int32) : XT :=
  (s_X1_seeWhoWaits (t.1, xa (xa t.2 2 (upd (t.2 2) k.toNatClampNeg st)) 5 (upd (t.2 5) k.toNatClampNeg mi)))
set_option maxHeartbeats 4000000 in
set_option maxRecDepth 100000 in
theorem c_X1_endWait (l : Launch) (D : va_G) (I : ClassId) (q : Nat → Nat) (sz : Nat) (t : XT) (k : Int32) (st : Int32) (mi : Int32) (hk : vp_in k 40) (hn : nOk (t.1 0)) : xMv l D [(I, .int)] yX1_endWait wsX1_endWait { frames := 1, cells := 0, slots := 0, locals := 21 } [.ref (q 2), .int k, .int st, .int mi] sz (wT I q t) (wT I q (s_X1_endWait t k st mi)) 0 0 := by
  refine xk_start (cc := cX1_endWait) (maxL := 4) (ret := none) (Qf := fun A => xQv D [(I, .int)] A (wT I q (s_X1_endWait t k st mi))) (by decide) rfl (Nat.le_of_ble_eq_true rfl) ?_
  intro p e s m below meth c A H ls hst hAe hsz hl
  obtain ⟨hx, hb, hr, hts, hown, hlocks, hml, hin, hN, hK, hP, hD, hA, hS⟩ := hst
  have hl : lv_has ls 4 [(0, .ref (q 2)), (1, .int k), (2, .int st), (3, .int mi)] := hl
  have hP : va_P D vwCl (wT I q t) H := hP
  have hinX1 : ∀ w ∈ u_ws RX1 TX1 12, w ∈ wsX1_endWait := by decide +kernel
  have w_1 := hts (.fieldLink RX1 31 "BridgeBells$Travellers" "state" "[I") (by decide +kernel)
  have w_2 := hts (.fieldLink RX1 40 "BridgeBells$Travellers" "waitEnd" "[I") (by decide +kernel)
  refine lv_aload_n hx hb dX1_endWait_0 rfl (lv_at hl 0 rfl) ?_
  refine va_get (D := D) (ci := 1) (v := .ref (q 5)) (C := RX1) (T := TX1) (N := 12) hx hb hts hinX1 hown hK hP 0 rfl rfl 6 (by decide) w_1 (fun _ h9 => h9) rfl dX1_endWait_1 ?_
  refine lv_iload_n hx hb dX1_endWait_4 rfl (lv_at hl 1 rfl) ?_
  refine lv_iload_n hx hb dX1_endWait_5 rfl (lv_at hl 2 rfl) ?_
  refine va_iast (f := (t.2 2)) hx hb hK hP hD hS 3 0 rfl rfl (show vp_in k 40 from hk) dX1_endWait_6 (fun H locs hP hD hS => ?_)
  have hP : va_P D vwCl (wT I q (t.1, xa t.2 2 (upd (t.2 2) k.toNatClampNeg st))) H := hP
  have hD : va_D A (wT I q (t.1, xa t.2 2 (upd (t.2 2) k.toNatClampNeg st))) := hD
  refine lv_aload_n hx hb dX1_endWait_7 rfl (lv_at hl 0 rfl) ?_
  refine va_get (D := D) (ci := 1) (v := .ref (q 8)) (C := RX1) (T := TX1) (N := 12) hx hb hts hinX1 hown hK hP 0 rfl rfl 9 (by decide) w_2 (fun _ h9 => h9) rfl dX1_endWait_8 ?_
  refine lv_iload_n hx hb dX1_endWait_11 rfl (lv_at hl 1 rfl) ?_
  refine lv_iload_n hx hb dX1_endWait_12 rfl (lv_at hl 3 rfl) ?_
  refine va_iast (f := (t.2 5)) hx hb hK hP hD hS 6 0 rfl rfl (show vp_in k 40 from hk) dX1_endWait_13 (fun H locs hP hD hS => ?_)
  have hP : va_P D vwCl (wT I q (t.1, xa (xa t.2 2 (upd (t.2 2) k.toNatClampNeg st)) 5 (upd (t.2 5) k.toNatClampNeg mi))) H := hP
  have hD : va_D A (wT I q (t.1, xa (xa t.2 2 (upd (t.2 2) k.toNatClampNeg st)) 5 (upd (t.2 5) k.toNatClampNeg mi))) := hD
  refine lv_aload_n hx hb dX1_endWait_14 rfl (lv_at hl 0 rfl) ?_
  refine xk_callv ([]) (wT I q (s_X1_seeWhoWaits (t.1, xa (xa t.2 2 (upd (t.2 2) k.toNatClampNeg st)) 5 (upd (t.2 5) k.toNatClampNeg mi)))) [0, 1, 2, 3, 4, 5, 6] [] [0, 1, 2, 3, 4, 5, 6] hP hD hS hA (va_runV (As := []) (rest := []) ⟨hx, hb, hml, hown, hts⟩ (c_X1_seeWhoWaits l D I q H.size (t.1, xa (xa t.2 2 (upd (t.2 2) k.toNatClampNeg st)) 5 (upd (t.2 5) k.toNatClampNeg mi)) hn) (cwV 0 hts gX1_endWait_X1_seeWhoWaits rfl rfl rfl (by decide +kernel) ⟨Nat.le_of_ble_eq_true rfl, Nat.le_of_ble_eq_true rfl⟩) (xk_preV (wc := wT I q (t.1, xa (xa t.2 2 (upd (t.2 2) k.toNatClampNeg st)) 5 (upd (t.2 5) k.toNatClampNeg mi))) (q0 := 0) (ci := 1) hN hP hK hD [0, 1, 2, 3, 4, 5, 6] rfl rfl rfl rfl) rfl rfl hl.1 rfl (lv_room (Nat.le_of_ble_eq_true rfl)) dX1_endWait_15 ⟨Nat.le_of_ble_eq_true rfl, Nat.le_of_ble_eq_true rfl⟩) rfl rfl rfl (by decide) rfl rfl (fun H locs hP hD hS => ?_)
  exact xk_vret (wf := fun z : XT => wT I q z) (u := (s_X1_seeWhoWaits (t.1, xa (xa t.2 2 (upd (t.2 2) k.toNatClampNeg st)) 5 (upd (t.2 5) k.toNatClampNeg mi)))) hx hb hr hlocks hP hK hD hS (by unfold s_X1_endWait; rfl) dX1_endWait_18

def r_X1_add (t : XT) (bg : Int32) (mn : Int32) (mi : Int32) : Int32 :=
  if bg = 0 then
    (t.1 0)
  else
    (t.1 0)
def s_X1_add (t : XT) (bg : Int32) (mn : Int32) (mi : Int32) : XT :=
  if bg = 0 then
    (s_X1_seeWhoWaits (xs t.1 0 ((t.1 0) + (1 : Int32)), xa (xa (xa (xa (xa t.2 0 (upd (t.2 0) (t.1 0).toNatClampNeg (0 : Int32))) 1 (upd (t.2 1) (t.1 0).toNatClampNeg mn)) 2 (upd (t.2 2) (t.1 0).toNatClampNeg (0 : Int32))) 3 (upd (t.2 3) (t.1 0).toNatClampNeg mi)) 4 (upd (t.2 4) (t.1 0).toNatClampNeg (-1 : Int32))))
  else
    (s_X1_seeWhoWaits (xs t.1 0 ((t.1 0) + (1 : Int32)), xa (xa (xa (xa (xa t.2 0 (upd (t.2 0) (t.1 0).toNatClampNeg (1 : Int32))) 1 (upd (t.2 1) (t.1 0).toNatClampNeg mn)) 2 (upd (t.2 2) (t.1 0).toNatClampNeg (0 : Int32))) 3 (upd (t.2 3) (t.1 0).toNatClampNeg mi)) 4 (upd (t.2 4) (t.1 0).toNatClampNeg (-1 : Int32))))
set_option maxHeartbeats 4000000 in
set_option maxRecDepth 100000 in
theorem c_X1_add (l : Launch) (D : va_G) (I : ClassId) (q : Nat → Nat) (sz : Nat) (t : XT) (bg : Int32) (mn : Int32) (mi : Int32) (hn : nOk (t.1 0)) (hn2 : (t.1 0).toInt < 40) : xMi l D [(I, .int)] yX1_add wsX1_add { frames := 1, cells := 0, slots := 0, locals := 21 } [.ref (q 2), .int bg, .int mn, .int mi] sz (wT I q t) (r_X1_add t bg mn mi) (wT I q (s_X1_add t bg mn mi)) 0 0 := by
  refine xk_start (cc := cX1_add) (maxL := 5) (ret := (some .int)) (Qf := fun A => xQi D [(I, .int)] A (r_X1_add t bg mn mi) (wT I q (s_X1_add t bg mn mi))) (by decide) rfl (Nat.le_of_ble_eq_true rfl) ?_
  intro p e s m below meth c A H ls hst hAe hsz hl
  obtain ⟨hx, hb, hr, hts, hown, hlocks, hml, hin, hN, hK, hP, hD, hA, hS⟩ := hst
  have hl : lv_has ls 5 [(0, .ref (q 2)), (1, .int bg), (2, .int mn), (3, .int mi)] := hl
  have hP : va_P D vwCl (wT I q t) H := hP
  have hinX1 : ∀ w ∈ u_ws RX1 TX1 12, w ∈ wsX1_add := by decide +kernel
  have w_1 := hts (.fieldLink RX1 9 "BridgeBells$Travellers" "number" "I") (by decide +kernel)
  have w_2 := hts (.fieldLink RX1 24 "BridgeBells$Travellers" "barge" "[I") (by decide +kernel)
  have w_3 := hts (.fieldLink RX1 28 "BridgeBells$Travellers" "needs" "[I") (by decide +kernel)
  have w_4 := hts (.fieldLink RX1 31 "BridgeBells$Travellers" "state" "[I") (by decide +kernel)
  have w_5 := hts (.fieldLink RX1 34 "BridgeBells$Travellers" "came" "[I") (by decide +kernel)
  have w_6 := hts (.fieldLink RX1 37 "BridgeBells$Travellers" "passedIn" "[I") (by decide +kernel)
  refine lv_aload_n hx hb dX1_add_0 rfl (lv_at hl 0 rfl) ?_
  refine va_get (D := D) (ci := 1) (v := .int (t.1 0)) (C := RX1) (T := TX1) (N := 12) hx hb hts hinX1 hown hK hP 0 rfl rfl 0 (by decide) w_1 (fun _ h9 => h9) rfl dX1_add_1 ?_
  refine lv_istore (lv' := [(4, .int (t.1 0)), (0, .ref (q 2)), (1, .int bg), (2, .int mn), (3, .int mi)]) hx hb dX1_add_4 hl (by decide) rfl (fun ls hl => ?_)
  refine lv_aload_n hx hb dX1_add_6 rfl (lv_at hl 1 rfl) ?_
  refine va_get (D := D) (ci := 1) (v := .ref (q 3)) (C := RX1) (T := TX1) (N := 12) hx hb hts hinX1 hown hK hP 0 rfl rfl 4 (by decide) w_2 (fun _ h9 => h9) rfl dX1_add_7 ?_
  refine lv_iload hx hb dX1_add_10 (lv_at hl 0 rfl) ?_
  refine lv_iload_n hx hb dX1_add_12 rfl (lv_at hl 2 rfl) ?_
  refine lv_if_eq (tgt := 20) hx hb dX1_add_13 (by decide) (fun c_1 => ?_) (fun c_1 => ?_)
  · refine lv_iconst (v := (0 : Int32)) hx hb dX1_add_20 (by decide) ?_
    refine va_iast (f := (t.2 0)) hx hb hK hP hD hS 1 0 rfl rfl (show vp_in (t.1 0) 40 from (vin40 hn.1 hn2)) dX1_add_21 (fun H locs hP hD hS => ?_)
    have hP : va_P D vwCl (wT I q (t.1, xa t.2 0 (upd (t.2 0) (t.1 0).toNatClampNeg (0 : Int32)))) H := hP
    have hD : va_D A (wT I q (t.1, xa t.2 0 (upd (t.2 0) (t.1 0).toNatClampNeg (0 : Int32)))) := hD
    refine lv_aload_n hx hb dX1_add_22 rfl (lv_at hl 1 rfl) ?_
    refine va_get (D := D) (ci := 1) (v := .ref (q 4)) (C := RX1) (T := TX1) (N := 12) hx hb hts hinX1 hown hK hP 0 rfl rfl 5 (by decide) w_3 (fun _ h9 => h9) rfl dX1_add_23 ?_
    refine lv_iload hx hb dX1_add_26 (lv_at hl 0 rfl) ?_
    refine lv_iload_n hx hb dX1_add_28 rfl (lv_at hl 3 rfl) ?_
    refine va_iast (f := (t.2 1)) hx hb hK hP hD hS 2 0 rfl rfl (show vp_in (t.1 0) 40 from (vin40 hn.1 hn2)) dX1_add_29 (fun H locs hP hD hS => ?_)
    have hP : va_P D vwCl (wT I q (t.1, xa (xa t.2 0 (upd (t.2 0) (t.1 0).toNatClampNeg (0 : Int32))) 1 (upd (t.2 1) (t.1 0).toNatClampNeg mn))) H := hP
    have hD : va_D A (wT I q (t.1, xa (xa t.2 0 (upd (t.2 0) (t.1 0).toNatClampNeg (0 : Int32))) 1 (upd (t.2 1) (t.1 0).toNatClampNeg mn))) := hD
    refine lv_aload_n hx hb dX1_add_30 rfl (lv_at hl 1 rfl) ?_
    refine va_get (D := D) (ci := 1) (v := .ref (q 5)) (C := RX1) (T := TX1) (N := 12) hx hb hts hinX1 hown hK hP 0 rfl rfl 6 (by decide) w_4 (fun _ h9 => h9) rfl dX1_add_31 ?_
    refine lv_iload hx hb dX1_add_34 (lv_at hl 0 rfl) ?_
    refine lv_iconst (v := (0 : Int32)) hx hb dX1_add_36 (by decide) ?_
    refine va_iast (f := (t.2 2)) hx hb hK hP hD hS 3 0 rfl rfl (show vp_in (t.1 0) 40 from (vin40 hn.1 hn2)) dX1_add_37 (fun H locs hP hD hS => ?_)
    have hP : va_P D vwCl (wT I q (t.1, xa (xa (xa t.2 0 (upd (t.2 0) (t.1 0).toNatClampNeg (0 : Int32))) 1 (upd (t.2 1) (t.1 0).toNatClampNeg mn)) 2 (upd (t.2 2) (t.1 0).toNatClampNeg (0 : Int32)))) H := hP
    have hD : va_D A (wT I q (t.1, xa (xa (xa t.2 0 (upd (t.2 0) (t.1 0).toNatClampNeg (0 : Int32))) 1 (upd (t.2 1) (t.1 0).toNatClampNeg mn)) 2 (upd (t.2 2) (t.1 0).toNatClampNeg (0 : Int32)))) := hD
    refine lv_aload_n hx hb dX1_add_38 rfl (lv_at hl 1 rfl) ?_
    refine va_get (D := D) (ci := 1) (v := .ref (q 6)) (C := RX1) (T := TX1) (N := 12) hx hb hts hinX1 hown hK hP 0 rfl rfl 7 (by decide) w_5 (fun _ h9 => h9) rfl dX1_add_39 ?_
    refine lv_iload hx hb dX1_add_42 (lv_at hl 0 rfl) ?_
    refine lv_iload_n hx hb dX1_add_44 rfl (lv_at hl 4 rfl) ?_
    refine va_iast (f := (t.2 3)) hx hb hK hP hD hS 4 0 rfl rfl (show vp_in (t.1 0) 40 from (vin40 hn.1 hn2)) dX1_add_45 (fun H locs hP hD hS => ?_)
    have hP : va_P D vwCl (wT I q (t.1, xa (xa (xa (xa t.2 0 (upd (t.2 0) (t.1 0).toNatClampNeg (0 : Int32))) 1 (upd (t.2 1) (t.1 0).toNatClampNeg mn)) 2 (upd (t.2 2) (t.1 0).toNatClampNeg (0 : Int32))) 3 (upd (t.2 3) (t.1 0).toNatClampNeg mi))) H := hP
    have hD : va_D A (wT I q (t.1, xa (xa (xa (xa t.2 0 (upd (t.2 0) (t.1 0).toNatClampNeg (0 : Int32))) 1 (upd (t.2 1) (t.1 0).toNatClampNeg mn)) 2 (upd (t.2 2) (t.1 0).toNatClampNeg (0 : Int32))) 3 (upd (t.2 3) (t.1 0).toNatClampNeg mi))) := hD
    refine lv_aload_n hx hb dX1_add_46 rfl (lv_at hl 1 rfl) ?_
    refine va_get (D := D) (ci := 1) (v := .ref (q 7)) (C := RX1) (T := TX1) (N := 12) hx hb hts hinX1 hown hK hP 0 rfl rfl 8 (by decide) w_6 (fun _ h9 => h9) rfl dX1_add_47 ?_
    refine lv_iload hx hb dX1_add_50 (lv_at hl 0 rfl) ?_
    refine lv_iconst (v := (-1 : Int32)) hx hb dX1_add_52 (by decide) ?_
    refine va_iast (f := (t.2 4)) hx hb hK hP hD hS 5 0 rfl rfl (show vp_in (t.1 0) 40 from (vin40 hn.1 hn2)) dX1_add_53 (fun H locs hP hD hS => ?_)
    have hP : va_P D vwCl (wT I q (t.1, xa (xa (xa (xa (xa t.2 0 (upd (t.2 0) (t.1 0).toNatClampNeg (0 : Int32))) 1 (upd (t.2 1) (t.1 0).toNatClampNeg mn)) 2 (upd (t.2 2) (t.1 0).toNatClampNeg (0 : Int32))) 3 (upd (t.2 3) (t.1 0).toNatClampNeg mi)) 4 (upd (t.2 4) (t.1 0).toNatClampNeg (-1 : Int32)))) H := hP
    have hD : va_D A (wT I q (t.1, xa (xa (xa (xa (xa t.2 0 (upd (t.2 0) (t.1 0).toNatClampNeg (0 : Int32))) 1 (upd (t.2 1) (t.1 0).toNatClampNeg mn)) 2 (upd (t.2 2) (t.1 0).toNatClampNeg (0 : Int32))) 3 (upd (t.2 3) (t.1 0).toNatClampNeg mi)) 4 (upd (t.2 4) (t.1 0).toNatClampNeg (-1 : Int32)))) := hD
    refine lv_aload_n hx hb dX1_add_54 rfl (lv_at hl 1 rfl) ?_
    refine lv_dup hx hb dX1_add_55 rfl ?_
    refine va_get (D := D) (ci := 1) (v := .int (t.1 0)) (C := RX1) (T := TX1) (N := 12) hx hb hts hinX1 hown hK hP 0 rfl rfl 0 (by decide) w_1 (fun _ h9 => h9) rfl dX1_add_56 ?_
    refine lv_iconst (v := (1 : Int32)) hx hb dX1_add_59 (by decide) ?_
    refine lv_iadd hx hb dX1_add_60 ?_
    refine va_put (D := D) (ci := 1) (v := .int ((t.1 0) + (1 : Int32))) (ty := tyX1 0) (C := RX1) (T := TX1) (N := 12) hx hb hts hinX1 tyX1 tyX1_ok nmX1 hown hK hP hD hS 0 rfl rfl 0 (by decide) w_1 (fun _ h9 => h9) rfl (tyX1_ok 0 (by decide)) rfl rfl (Nat.le_of_ble_eq_true rfl) dX1_add_61 (fun H locs hP hD hS => ?_)
    have hP : va_P D vwCl (wT I q (xs t.1 0 ((t.1 0) + (1 : Int32)), xa (xa (xa (xa (xa t.2 0 (upd (t.2 0) (t.1 0).toNatClampNeg (0 : Int32))) 1 (upd (t.2 1) (t.1 0).toNatClampNeg mn)) 2 (upd (t.2 2) (t.1 0).toNatClampNeg (0 : Int32))) 3 (upd (t.2 3) (t.1 0).toNatClampNeg mi)) 4 (upd (t.2 4) (t.1 0).toNatClampNeg (-1 : Int32)))) H := hP
    have hD : va_D A (wT I q (xs t.1 0 ((t.1 0) + (1 : Int32)), xa (xa (xa (xa (xa t.2 0 (upd (t.2 0) (t.1 0).toNatClampNeg (0 : Int32))) 1 (upd (t.2 1) (t.1 0).toNatClampNeg mn)) 2 (upd (t.2 2) (t.1 0).toNatClampNeg (0 : Int32))) 3 (upd (t.2 3) (t.1 0).toNatClampNeg mi)) 4 (upd (t.2 4) (t.1 0).toNatClampNeg (-1 : Int32)))) := hD
    refine lv_aload_n hx hb dX1_add_64 rfl (lv_at hl 1 rfl) ?_
    refine xk_callv ([]) (wT I q (s_X1_seeWhoWaits (xs t.1 0 ((t.1 0) + (1 : Int32)), xa (xa (xa (xa (xa t.2 0 (upd (t.2 0) (t.1 0).toNatClampNeg (0 : Int32))) 1 (upd (t.2 1) (t.1 0).toNatClampNeg mn)) 2 (upd (t.2 2) (t.1 0).toNatClampNeg (0 : Int32))) 3 (upd (t.2 3) (t.1 0).toNatClampNeg mi)) 4 (upd (t.2 4) (t.1 0).toNatClampNeg (-1 : Int32))))) [0, 1, 2, 3, 4, 5, 6] [] [0, 1, 2, 3, 4, 5, 6] hP hD hS hA (va_runV (As := []) (rest := []) ⟨hx, hb, hml, hown, hts⟩ (c_X1_seeWhoWaits l D I q H.size (xs t.1 0 ((t.1 0) + (1 : Int32)), xa (xa (xa (xa (xa t.2 0 (upd (t.2 0) (t.1 0).toNatClampNeg (0 : Int32))) 1 (upd (t.2 1) (t.1 0).toNatClampNeg mn)) 2 (upd (t.2 2) (t.1 0).toNatClampNeg (0 : Int32))) 3 (upd (t.2 3) (t.1 0).toNatClampNeg mi)) 4 (upd (t.2 4) (t.1 0).toNatClampNeg (-1 : Int32))) (nOk_p1 hn hn2)) (cwV 0 hts gX1_add_X1_seeWhoWaits rfl rfl rfl (by decide +kernel) ⟨Nat.le_of_ble_eq_true rfl, Nat.le_of_ble_eq_true rfl⟩) (xk_preV (wc := wT I q (xs t.1 0 ((t.1 0) + (1 : Int32)), xa (xa (xa (xa (xa t.2 0 (upd (t.2 0) (t.1 0).toNatClampNeg (0 : Int32))) 1 (upd (t.2 1) (t.1 0).toNatClampNeg mn)) 2 (upd (t.2 2) (t.1 0).toNatClampNeg (0 : Int32))) 3 (upd (t.2 3) (t.1 0).toNatClampNeg mi)) 4 (upd (t.2 4) (t.1 0).toNatClampNeg (-1 : Int32)))) (q0 := 0) (ci := 1) hN hP hK hD [0, 1, 2, 3, 4, 5, 6] rfl rfl rfl rfl) rfl rfl hl.1 rfl (lv_room (Nat.le_of_ble_eq_true rfl)) dX1_add_65 ⟨Nat.le_of_ble_eq_true rfl, Nat.le_of_ble_eq_true rfl⟩) rfl rfl rfl (by decide) rfl rfl (fun H locs hP hD hS => ?_)
    refine lv_iload hx hb dX1_add_68 (lv_at hl 0 rfl) ?_
    exact xk_iret (wf := fun z : XT => wT I q z) (u := (s_X1_seeWhoWaits (xs t.1 0 ((t.1 0) + (1 : Int32)), xa (xa (xa (xa (xa t.2 0 (upd (t.2 0) (t.1 0).toNatClampNeg (0 : Int32))) 1 (upd (t.2 1) (t.1 0).toNatClampNeg mn)) 2 (upd (t.2 2) (t.1 0).toNatClampNeg (0 : Int32))) 3 (upd (t.2 3) (t.1 0).toNatClampNeg mi)) 4 (upd (t.2 4) (t.1 0).toNatClampNeg (-1 : Int32))))) hx hb hr rfl hlocks hP hK hD hS (by unfold r_X1_add; rw [if_pos c_1]) (by unfold s_X1_add; rw [if_pos c_1]) dX1_add_70
  · refine lv_iconst (v := (1 : Int32)) hx hb dX1_add_16 (by decide) ?_
    refine lv_goto (tgt := 21) hx hb dX1_add_17 (by decide) ?_
    refine va_iast (f := (t.2 0)) hx hb hK hP hD hS 1 0 rfl rfl (show vp_in (t.1 0) 40 from (vin40 hn.1 hn2)) dX1_add_21 (fun H locs hP hD hS => ?_)
    have hP : va_P D vwCl (wT I q (t.1, xa t.2 0 (upd (t.2 0) (t.1 0).toNatClampNeg (1 : Int32)))) H := hP
    have hD : va_D A (wT I q (t.1, xa t.2 0 (upd (t.2 0) (t.1 0).toNatClampNeg (1 : Int32)))) := hD
    refine lv_aload_n hx hb dX1_add_22 rfl (lv_at hl 1 rfl) ?_
    refine va_get (D := D) (ci := 1) (v := .ref (q 4)) (C := RX1) (T := TX1) (N := 12) hx hb hts hinX1 hown hK hP 0 rfl rfl 5 (by decide) w_3 (fun _ h9 => h9) rfl dX1_add_23 ?_
    refine lv_iload hx hb dX1_add_26 (lv_at hl 0 rfl) ?_
    refine lv_iload_n hx hb dX1_add_28 rfl (lv_at hl 3 rfl) ?_
    refine va_iast (f := (t.2 1)) hx hb hK hP hD hS 2 0 rfl rfl (show vp_in (t.1 0) 40 from (vin40 hn.1 hn2)) dX1_add_29 (fun H locs hP hD hS => ?_)
    have hP : va_P D vwCl (wT I q (t.1, xa (xa t.2 0 (upd (t.2 0) (t.1 0).toNatClampNeg (1 : Int32))) 1 (upd (t.2 1) (t.1 0).toNatClampNeg mn))) H := hP
    have hD : va_D A (wT I q (t.1, xa (xa t.2 0 (upd (t.2 0) (t.1 0).toNatClampNeg (1 : Int32))) 1 (upd (t.2 1) (t.1 0).toNatClampNeg mn))) := hD
    refine lv_aload_n hx hb dX1_add_30 rfl (lv_at hl 1 rfl) ?_
    refine va_get (D := D) (ci := 1) (v := .ref (q 5)) (C := RX1) (T := TX1) (N := 12) hx hb hts hinX1 hown hK hP 0 rfl rfl 6 (by decide) w_4 (fun _ h9 => h9) rfl dX1_add_31 ?_
    refine lv_iload hx hb dX1_add_34 (lv_at hl 0 rfl) ?_
    refine lv_iconst (v := (0 : Int32)) hx hb dX1_add_36 (by decide) ?_
    refine va_iast (f := (t.2 2)) hx hb hK hP hD hS 3 0 rfl rfl (show vp_in (t.1 0) 40 from (vin40 hn.1 hn2)) dX1_add_37 (fun H locs hP hD hS => ?_)
    have hP : va_P D vwCl (wT I q (t.1, xa (xa (xa t.2 0 (upd (t.2 0) (t.1 0).toNatClampNeg (1 : Int32))) 1 (upd (t.2 1) (t.1 0).toNatClampNeg mn)) 2 (upd (t.2 2) (t.1 0).toNatClampNeg (0 : Int32)))) H := hP
    have hD : va_D A (wT I q (t.1, xa (xa (xa t.2 0 (upd (t.2 0) (t.1 0).toNatClampNeg (1 : Int32))) 1 (upd (t.2 1) (t.1 0).toNatClampNeg mn)) 2 (upd (t.2 2) (t.1 0).toNatClampNeg (0 : Int32)))) := hD
    refine lv_aload_n hx hb dX1_add_38 rfl (lv_at hl 1 rfl) ?_
    refine va_get (D := D) (ci := 1) (v := .ref (q 6)) (C := RX1) (T := TX1) (N := 12) hx hb hts hinX1 hown hK hP 0 rfl rfl 7 (by decide) w_5 (fun _ h9 => h9) rfl dX1_add_39 ?_
    refine lv_iload hx hb dX1_add_42 (lv_at hl 0 rfl) ?_
    refine lv_iload_n hx hb dX1_add_44 rfl (lv_at hl 4 rfl) ?_
    refine va_iast (f := (t.2 3)) hx hb hK hP hD hS 4 0 rfl rfl (show vp_in (t.1 0) 40 from (vin40 hn.1 hn2)) dX1_add_45 (fun H locs hP hD hS => ?_)
    have hP : va_P D vwCl (wT I q (t.1, xa (xa (xa (xa t.2 0 (upd (t.2 0) (t.1 0).toNatClampNeg (1 : Int32))) 1 (upd (t.2 1) (t.1 0).toNatClampNeg mn)) 2 (upd (t.2 2) (t.1 0).toNatClampNeg (0 : Int32))) 3 (upd (t.2 3) (t.1 0).toNatClampNeg mi))) H := hP
    have hD : va_D A (wT I q (t.1, xa (xa (xa (xa t.2 0 (upd (t.2 0) (t.1 0).toNatClampNeg (1 : Int32))) 1 (upd (t.2 1) (t.1 0).toNatClampNeg mn)) 2 (upd (t.2 2) (t.1 0).toNatClampNeg (0 : Int32))) 3 (upd (t.2 3) (t.1 0).toNatClampNeg mi))) := hD
    refine lv_aload_n hx hb dX1_add_46 rfl (lv_at hl 1 rfl) ?_
    refine va_get (D := D) (ci := 1) (v := .ref (q 7)) (C := RX1) (T := TX1) (N := 12) hx hb hts hinX1 hown hK hP 0 rfl rfl 8 (by decide) w_6 (fun _ h9 => h9) rfl dX1_add_47 ?_
    refine lv_iload hx hb dX1_add_50 (lv_at hl 0 rfl) ?_
    refine lv_iconst (v := (-1 : Int32)) hx hb dX1_add_52 (by decide) ?_
    refine va_iast (f := (t.2 4)) hx hb hK hP hD hS 5 0 rfl rfl (show vp_in (t.1 0) 40 from (vin40 hn.1 hn2)) dX1_add_53 (fun H locs hP hD hS => ?_)
    have hP : va_P D vwCl (wT I q (t.1, xa (xa (xa (xa (xa t.2 0 (upd (t.2 0) (t.1 0).toNatClampNeg (1 : Int32))) 1 (upd (t.2 1) (t.1 0).toNatClampNeg mn)) 2 (upd (t.2 2) (t.1 0).toNatClampNeg (0 : Int32))) 3 (upd (t.2 3) (t.1 0).toNatClampNeg mi)) 4 (upd (t.2 4) (t.1 0).toNatClampNeg (-1 : Int32)))) H := hP
    have hD : va_D A (wT I q (t.1, xa (xa (xa (xa (xa t.2 0 (upd (t.2 0) (t.1 0).toNatClampNeg (1 : Int32))) 1 (upd (t.2 1) (t.1 0).toNatClampNeg mn)) 2 (upd (t.2 2) (t.1 0).toNatClampNeg (0 : Int32))) 3 (upd (t.2 3) (t.1 0).toNatClampNeg mi)) 4 (upd (t.2 4) (t.1 0).toNatClampNeg (-1 : Int32)))) := hD
    refine lv_aload_n hx hb dX1_add_54 rfl (lv_at hl 1 rfl) ?_
    refine lv_dup hx hb dX1_add_55 rfl ?_
    refine va_get (D := D) (ci := 1) (v := .int (t.1 0)) (C := RX1) (T := TX1) (N := 12) hx hb hts hinX1 hown hK hP 0 rfl rfl 0 (by decide) w_1 (fun _ h9 => h9) rfl dX1_add_56 ?_
    refine lv_iconst (v := (1 : Int32)) hx hb dX1_add_59 (by decide) ?_
    refine lv_iadd hx hb dX1_add_60 ?_
    refine va_put (D := D) (ci := 1) (v := .int ((t.1 0) + (1 : Int32))) (ty := tyX1 0) (C := RX1) (T := TX1) (N := 12) hx hb hts hinX1 tyX1 tyX1_ok nmX1 hown hK hP hD hS 0 rfl rfl 0 (by decide) w_1 (fun _ h9 => h9) rfl (tyX1_ok 0 (by decide)) rfl rfl (Nat.le_of_ble_eq_true rfl) dX1_add_61 (fun H locs hP hD hS => ?_)
    have hP : va_P D vwCl (wT I q (xs t.1 0 ((t.1 0) + (1 : Int32)), xa (xa (xa (xa (xa t.2 0 (upd (t.2 0) (t.1 0).toNatClampNeg (1 : Int32))) 1 (upd (t.2 1) (t.1 0).toNatClampNeg mn)) 2 (upd (t.2 2) (t.1 0).toNatClampNeg (0 : Int32))) 3 (upd (t.2 3) (t.1 0).toNatClampNeg mi)) 4 (upd (t.2 4) (t.1 0).toNatClampNeg (-1 : Int32)))) H := hP
    have hD : va_D A (wT I q (xs t.1 0 ((t.1 0) + (1 : Int32)), xa (xa (xa (xa (xa t.2 0 (upd (t.2 0) (t.1 0).toNatClampNeg (1 : Int32))) 1 (upd (t.2 1) (t.1 0).toNatClampNeg mn)) 2 (upd (t.2 2) (t.1 0).toNatClampNeg (0 : Int32))) 3 (upd (t.2 3) (t.1 0).toNatClampNeg mi)) 4 (upd (t.2 4) (t.1 0).toNatClampNeg (-1 : Int32)))) := hD
    refine lv_aload_n hx hb dX1_add_64 rfl (lv_at hl 1 rfl) ?_
    refine xk_callv ([]) (wT I q (s_X1_seeWhoWaits (xs t.1 0 ((t.1 0) + (1 : Int32)), xa (xa (xa (xa (xa t.2 0 (upd (t.2 0) (t.1 0).toNatClampNeg (1 : Int32))) 1 (upd (t.2 1) (t.1 0).toNatClampNeg mn)) 2 (upd (t.2 2) (t.1 0).toNatClampNeg (0 : Int32))) 3 (upd (t.2 3) (t.1 0).toNatClampNeg mi)) 4 (upd (t.2 4) (t.1 0).toNatClampNeg (-1 : Int32))))) [0, 1, 2, 3, 4, 5, 6] [] [0, 1, 2, 3, 4, 5, 6] hP hD hS hA (va_runV (As := []) (rest := []) ⟨hx, hb, hml, hown, hts⟩ (c_X1_seeWhoWaits l D I q H.size (xs t.1 0 ((t.1 0) + (1 : Int32)), xa (xa (xa (xa (xa t.2 0 (upd (t.2 0) (t.1 0).toNatClampNeg (1 : Int32))) 1 (upd (t.2 1) (t.1 0).toNatClampNeg mn)) 2 (upd (t.2 2) (t.1 0).toNatClampNeg (0 : Int32))) 3 (upd (t.2 3) (t.1 0).toNatClampNeg mi)) 4 (upd (t.2 4) (t.1 0).toNatClampNeg (-1 : Int32))) (nOk_p1 hn hn2)) (cwV 0 hts gX1_add_X1_seeWhoWaits rfl rfl rfl (by decide +kernel) ⟨Nat.le_of_ble_eq_true rfl, Nat.le_of_ble_eq_true rfl⟩) (xk_preV (wc := wT I q (xs t.1 0 ((t.1 0) + (1 : Int32)), xa (xa (xa (xa (xa t.2 0 (upd (t.2 0) (t.1 0).toNatClampNeg (1 : Int32))) 1 (upd (t.2 1) (t.1 0).toNatClampNeg mn)) 2 (upd (t.2 2) (t.1 0).toNatClampNeg (0 : Int32))) 3 (upd (t.2 3) (t.1 0).toNatClampNeg mi)) 4 (upd (t.2 4) (t.1 0).toNatClampNeg (-1 : Int32)))) (q0 := 0) (ci := 1) hN hP hK hD [0, 1, 2, 3, 4, 5, 6] rfl rfl rfl rfl) rfl rfl hl.1 rfl (lv_room (Nat.le_of_ble_eq_true rfl)) dX1_add_65 ⟨Nat.le_of_ble_eq_true rfl, Nat.le_of_ble_eq_true rfl⟩) rfl rfl rfl (by decide) rfl rfl (fun H locs hP hD hS => ?_)
    refine lv_iload hx hb dX1_add_68 (lv_at hl 0 rfl) ?_
    exact xk_iret (wf := fun z : XT => wT I q z) (u := (s_X1_seeWhoWaits (xs t.1 0 ((t.1 0) + (1 : Int32)), xa (xa (xa (xa (xa t.2 0 (upd (t.2 0) (t.1 0).toNatClampNeg (1 : Int32))) 1 (upd (t.2 1) (t.1 0).toNatClampNeg mn)) 2 (upd (t.2 2) (t.1 0).toNatClampNeg (0 : Int32))) 3 (upd (t.2 3) (t.1 0).toNatClampNeg mi)) 4 (upd (t.2 4) (t.1 0).toNatClampNeg (-1 : Int32))))) hx hb hr rfl hlocks hP hK hD hS (by unfold r_X1_add; rw [if_neg c_1]) (by unfold s_X1_add; rw [if_neg c_1]) dX1_add_70

set_option maxHeartbeats 4000000 in
set_option maxRecDepth 100000 in
theorem c_X1_copyFrom (l : Launch) (D : va_G) (I : ClassId) (q r : Nat → Nat) (sz : Nat) (t : XT) (o : XT)  : xMv l D [(I, .int)] yX1_copyFrom wsX1_copyFrom { frames := 1, cells := 0, slots := 0, locals := 18 } [.ref (q 2), .ref (r 2)] sz (wT I q t ++ wT I r o) (wT I q o ++ wT I r o) 0 0 := by
  refine xk_start (cc := cX1_copyFrom) (maxL := 2) (ret := none) (Qf := fun A => xQv D [(I, .int)] A (wT I q o ++ wT I r o)) (by decide) rfl (Nat.le_of_ble_eq_true rfl) ?_
  intro p e s m below meth c A H ls hst hAe hsz hl
  obtain ⟨hx, hb, hr, hts, hown, hlocks, hml, hin, hN, hK, hP, hD, hA, hS⟩ := hst
  have hl : lv_has ls 2 [(0, .ref (q 2)), (1, .ref (r 2))] := hl
  have hP : va_P D vwCl (wT I q t ++ wT I r o) H := hP
  have hinX1 : ∀ w ∈ u_ws RX1 TX1 12, w ∈ wsX1_copyFrom := by decide +kernel
  have w_1 := hts (.fieldLink RX1 9 "BridgeBells$Travellers" "number" "I") (by decide +kernel)
  have w_2 := hts (.fieldLink RX1 15 "BridgeBells$Travellers" "passed" "I") (by decide +kernel)
  have w_3 := hts (.fieldLink RX1 18 "BridgeBells$Travellers" "bargesWaiting" "I") (by decide +kernel)
  have w_4 := hts (.fieldLink RX1 21 "BridgeBells$Travellers" "cartsWaiting" "I") (by decide +kernel)
  have w_5 := hts (.fieldLink RX1 24 "BridgeBells$Travellers" "barge" "[I") (by decide +kernel)
  have w_6 := hts (.methodLink RX1 49 arraycopyName) (by decide +kernel)
  have w_7 := hts (.native arraycopyName) (by decide +kernel)
  have w_8 := hts (.static arraycopyName) (by decide +kernel)
  have w_9 := hts (.initialized "java/lang/System") (by decide +kernel)
  have w_10 := hts (.fieldLink RX1 28 "BridgeBells$Travellers" "needs" "[I") (by decide +kernel)
  have w_11 := hts (.fieldLink RX1 31 "BridgeBells$Travellers" "state" "[I") (by decide +kernel)
  have w_12 := hts (.fieldLink RX1 34 "BridgeBells$Travellers" "came" "[I") (by decide +kernel)
  have w_13 := hts (.fieldLink RX1 37 "BridgeBells$Travellers" "passedIn" "[I") (by decide +kernel)
  have w_14 := hts (.fieldLink RX1 40 "BridgeBells$Travellers" "waitEnd" "[I") (by decide +kernel)
  have w_15 := hts (.fieldLink RX1 43 "BridgeBells$Travellers" "firstBarge" "I") (by decide +kernel)
  have w_16 := hts (.fieldLink RX1 46 "BridgeBells$Travellers" "firstCart" "I") (by decide +kernel)
  refine lv_aload_n hx hb dX1_copyFrom_0 rfl (lv_at hl 0 rfl) ?_
  refine lv_aload_n hx hb dX1_copyFrom_1 rfl (lv_at hl 1 rfl) ?_
  refine va_get (D := D) (ci := 1) (v := .int (o.1 0)) (C := RX1) (T := TX1) (N := 12) hx hb hts hinX1 hown hK hP 7 rfl rfl 0 (by decide) w_1 (fun _ h9 => h9) rfl dX1_copyFrom_2 ?_
  refine va_put (D := D) (ci := 1) (v := .int (o.1 0)) (ty := tyX1 0) (C := RX1) (T := TX1) (N := 12) hx hb hts hinX1 tyX1 tyX1_ok nmX1 hown hK hP hD hS 0 rfl rfl 0 (by decide) w_1 (fun _ h9 => h9) rfl (tyX1_ok 0 (by decide)) rfl rfl (Nat.le_of_ble_eq_true rfl) dX1_copyFrom_5 (fun H locs hP hD hS => ?_)
  have hP : va_P D vwCl (wT I q (xs t.1 0 (o.1 0), t.2) ++ wT I r o) H := hP
  have hD : va_D A (wT I q (xs t.1 0 (o.1 0), t.2) ++ wT I r o) := hD
  refine lv_aload_n hx hb dX1_copyFrom_8 rfl (lv_at hl 0 rfl) ?_
  refine lv_aload_n hx hb dX1_copyFrom_9 rfl (lv_at hl 1 rfl) ?_
  refine va_get (D := D) (ci := 1) (v := .int (o.1 1)) (C := RX1) (T := TX1) (N := 12) hx hb hts hinX1 hown hK hP 7 rfl rfl 1 (by decide) w_2 (fun _ h9 => h9) rfl dX1_copyFrom_10 ?_
  refine va_put (D := D) (ci := 1) (v := .int (o.1 1)) (ty := tyX1 1) (C := RX1) (T := TX1) (N := 12) hx hb hts hinX1 tyX1 tyX1_ok nmX1 hown hK hP hD hS 0 rfl rfl 1 (by decide) w_2 (fun _ h9 => h9) rfl (tyX1_ok 1 (by decide)) rfl rfl (Nat.le_of_ble_eq_true rfl) dX1_copyFrom_13 (fun H locs hP hD hS => ?_)
  have hP : va_P D vwCl (wT I q (xs (xs t.1 0 (o.1 0)) 1 (o.1 1), t.2) ++ wT I r o) H := hP
  have hD : va_D A (wT I q (xs (xs t.1 0 (o.1 0)) 1 (o.1 1), t.2) ++ wT I r o) := hD
  refine lv_aload_n hx hb dX1_copyFrom_16 rfl (lv_at hl 0 rfl) ?_
  refine lv_aload_n hx hb dX1_copyFrom_17 rfl (lv_at hl 1 rfl) ?_
  refine va_get (D := D) (ci := 1) (v := .int (o.1 2)) (C := RX1) (T := TX1) (N := 12) hx hb hts hinX1 hown hK hP 7 rfl rfl 2 (by decide) w_3 (fun _ h9 => h9) rfl dX1_copyFrom_18 ?_
  refine va_put (D := D) (ci := 1) (v := .int (o.1 2)) (ty := tyX1 2) (C := RX1) (T := TX1) (N := 12) hx hb hts hinX1 tyX1 tyX1_ok nmX1 hown hK hP hD hS 0 rfl rfl 2 (by decide) w_3 (fun _ h9 => h9) rfl (tyX1_ok 2 (by decide)) rfl rfl (Nat.le_of_ble_eq_true rfl) dX1_copyFrom_21 (fun H locs hP hD hS => ?_)
  have hP : va_P D vwCl (wT I q (xs (xs (xs t.1 0 (o.1 0)) 1 (o.1 1)) 2 (o.1 2), t.2) ++ wT I r o) H := hP
  have hD : va_D A (wT I q (xs (xs (xs t.1 0 (o.1 0)) 1 (o.1 1)) 2 (o.1 2), t.2) ++ wT I r o) := hD
  refine lv_aload_n hx hb dX1_copyFrom_24 rfl (lv_at hl 0 rfl) ?_
  refine lv_aload_n hx hb dX1_copyFrom_25 rfl (lv_at hl 1 rfl) ?_
  refine va_get (D := D) (ci := 1) (v := .int (o.1 3)) (C := RX1) (T := TX1) (N := 12) hx hb hts hinX1 hown hK hP 7 rfl rfl 3 (by decide) w_4 (fun _ h9 => h9) rfl dX1_copyFrom_26 ?_
  refine va_put (D := D) (ci := 1) (v := .int (o.1 3)) (ty := tyX1 3) (C := RX1) (T := TX1) (N := 12) hx hb hts hinX1 tyX1 tyX1_ok nmX1 hown hK hP hD hS 0 rfl rfl 3 (by decide) w_4 (fun _ h9 => h9) rfl (tyX1_ok 3 (by decide)) rfl rfl (Nat.le_of_ble_eq_true rfl) dX1_copyFrom_29 (fun H locs hP hD hS => ?_)
  have hP : va_P D vwCl (wT I q (xs (xs (xs (xs t.1 0 (o.1 0)) 1 (o.1 1)) 2 (o.1 2)) 3 (o.1 3), t.2) ++ wT I r o) H := hP
  have hD : va_D A (wT I q (xs (xs (xs (xs t.1 0 (o.1 0)) 1 (o.1 1)) 2 (o.1 2)) 3 (o.1 3), t.2) ++ wT I r o) := hD
  refine lv_aload_n hx hb dX1_copyFrom_32 rfl (lv_at hl 1 rfl) ?_
  refine va_get (D := D) (ci := 1) (v := .ref (r 3)) (C := RX1) (T := TX1) (N := 12) hx hb hts hinX1 hown hK hP 7 rfl rfl 4 (by decide) w_5 (fun _ h9 => h9) rfl dX1_copyFrom_33 ?_
  refine lv_iconst (v := (0 : Int32)) hx hb dX1_copyFrom_36 (by decide) ?_
  refine lv_aload_n hx hb dX1_copyFrom_37 rfl (lv_at hl 0 rfl) ?_
  refine va_get (D := D) (ci := 1) (v := .ref (q 3)) (C := RX1) (T := TX1) (N := 12) hx hb hts hinX1 hown hK hP 0 rfl rfl 4 (by decide) w_5 (fun _ h9 => h9) rfl dX1_copyFrom_38 ?_
  refine lv_iconst (v := (0 : Int32)) hx hb dX1_copyFrom_41 (by decide) ?_
  refine lv_bipush (v := (40 : Int32)) hx hb dX1_copyFrom_42 (by decide) ?_
  refine va_copyi hx hb (hml.trans hl.1.symm) hown w_6 w_7 w_8 w_9 hK hP hD hS 8 1 0 0 rfl rfl rfl rfl rfl (by decide) (by decide) (by decide) (by decide) (by decide) (fun _ _ => rfl) (Nat.le_of_ble_eq_true rfl) (Nat.le_of_ble_eq_true rfl) dX1_copyFrom_44 (fun H locs hP hD hS => ?_)
  have hP := xk_arrP (g := (o.2 0)) 1 hP rfl (cpy_all (by decide))
  have hD := xk_arrD (g := (o.2 0)) 1 hD rfl
  have hP : va_P D vwCl (wT I q (xs (xs (xs (xs t.1 0 (o.1 0)) 1 (o.1 1)) 2 (o.1 2)) 3 (o.1 3), xa t.2 0 (o.2 0)) ++ wT I r o) H := hP
  have hD : va_D A (wT I q (xs (xs (xs (xs t.1 0 (o.1 0)) 1 (o.1 1)) 2 (o.1 2)) 3 (o.1 3), xa t.2 0 (o.2 0)) ++ wT I r o) := hD
  refine lv_aload_n hx hb dX1_copyFrom_47 rfl (lv_at hl 1 rfl) ?_
  refine va_get (D := D) (ci := 1) (v := .ref (r 4)) (C := RX1) (T := TX1) (N := 12) hx hb hts hinX1 hown hK hP 7 rfl rfl 5 (by decide) w_10 (fun _ h9 => h9) rfl dX1_copyFrom_48 ?_
  refine lv_iconst (v := (0 : Int32)) hx hb dX1_copyFrom_51 (by decide) ?_
  refine lv_aload_n hx hb dX1_copyFrom_52 rfl (lv_at hl 0 rfl) ?_
  refine va_get (D := D) (ci := 1) (v := .ref (q 4)) (C := RX1) (T := TX1) (N := 12) hx hb hts hinX1 hown hK hP 0 rfl rfl 5 (by decide) w_10 (fun _ h9 => h9) rfl dX1_copyFrom_53 ?_
  refine lv_iconst (v := (0 : Int32)) hx hb dX1_copyFrom_56 (by decide) ?_
  refine lv_bipush (v := (40 : Int32)) hx hb dX1_copyFrom_57 (by decide) ?_
  refine va_copyi hx hb (hml.trans hl.1.symm) hown w_6 w_7 w_8 w_9 hK hP hD hS 9 2 0 0 rfl rfl rfl rfl rfl (by decide) (by decide) (by decide) (by decide) (by decide) (fun _ _ => rfl) (Nat.le_of_ble_eq_true rfl) (Nat.le_of_ble_eq_true rfl) dX1_copyFrom_59 (fun H locs hP hD hS => ?_)
  have hP := xk_arrP (g := (o.2 1)) 2 hP rfl (cpy_all (by decide))
  have hD := xk_arrD (g := (o.2 1)) 2 hD rfl
  have hP : va_P D vwCl (wT I q (xs (xs (xs (xs t.1 0 (o.1 0)) 1 (o.1 1)) 2 (o.1 2)) 3 (o.1 3), xa (xa t.2 0 (o.2 0)) 1 (o.2 1)) ++ wT I r o) H := hP
  have hD : va_D A (wT I q (xs (xs (xs (xs t.1 0 (o.1 0)) 1 (o.1 1)) 2 (o.1 2)) 3 (o.1 3), xa (xa t.2 0 (o.2 0)) 1 (o.2 1)) ++ wT I r o) := hD
  refine lv_aload_n hx hb dX1_copyFrom_62 rfl (lv_at hl 1 rfl) ?_
  refine va_get (D := D) (ci := 1) (v := .ref (r 5)) (C := RX1) (T := TX1) (N := 12) hx hb hts hinX1 hown hK hP 7 rfl rfl 6 (by decide) w_11 (fun _ h9 => h9) rfl dX1_copyFrom_63 ?_
  refine lv_iconst (v := (0 : Int32)) hx hb dX1_copyFrom_66 (by decide) ?_
  refine lv_aload_n hx hb dX1_copyFrom_67 rfl (lv_at hl 0 rfl) ?_
  refine va_get (D := D) (ci := 1) (v := .ref (q 5)) (C := RX1) (T := TX1) (N := 12) hx hb hts hinX1 hown hK hP 0 rfl rfl 6 (by decide) w_11 (fun _ h9 => h9) rfl dX1_copyFrom_68 ?_
  refine lv_iconst (v := (0 : Int32)) hx hb dX1_copyFrom_71 (by decide) ?_
  refine lv_bipush (v := (40 : Int32)) hx hb dX1_copyFrom_72 (by decide) ?_
  refine va_copyi hx hb (hml.trans hl.1.symm) hown w_6 w_7 w_8 w_9 hK hP hD hS 10 3 0 0 rfl rfl rfl rfl rfl (by decide) (by decide) (by decide) (by decide) (by decide) (fun _ _ => rfl) (Nat.le_of_ble_eq_true rfl) (Nat.le_of_ble_eq_true rfl) dX1_copyFrom_74 (fun H locs hP hD hS => ?_)
  have hP := xk_arrP (g := (o.2 2)) 3 hP rfl (cpy_all (by decide))
  have hD := xk_arrD (g := (o.2 2)) 3 hD rfl
  have hP : va_P D vwCl (wT I q (xs (xs (xs (xs t.1 0 (o.1 0)) 1 (o.1 1)) 2 (o.1 2)) 3 (o.1 3), xa (xa (xa t.2 0 (o.2 0)) 1 (o.2 1)) 2 (o.2 2)) ++ wT I r o) H := hP
  have hD : va_D A (wT I q (xs (xs (xs (xs t.1 0 (o.1 0)) 1 (o.1 1)) 2 (o.1 2)) 3 (o.1 3), xa (xa (xa t.2 0 (o.2 0)) 1 (o.2 1)) 2 (o.2 2)) ++ wT I r o) := hD
  refine lv_aload_n hx hb dX1_copyFrom_77 rfl (lv_at hl 1 rfl) ?_
  refine va_get (D := D) (ci := 1) (v := .ref (r 6)) (C := RX1) (T := TX1) (N := 12) hx hb hts hinX1 hown hK hP 7 rfl rfl 7 (by decide) w_12 (fun _ h9 => h9) rfl dX1_copyFrom_78 ?_
  refine lv_iconst (v := (0 : Int32)) hx hb dX1_copyFrom_81 (by decide) ?_
  refine lv_aload_n hx hb dX1_copyFrom_82 rfl (lv_at hl 0 rfl) ?_
  refine va_get (D := D) (ci := 1) (v := .ref (q 6)) (C := RX1) (T := TX1) (N := 12) hx hb hts hinX1 hown hK hP 0 rfl rfl 7 (by decide) w_12 (fun _ h9 => h9) rfl dX1_copyFrom_83 ?_
  refine lv_iconst (v := (0 : Int32)) hx hb dX1_copyFrom_86 (by decide) ?_
  refine lv_bipush (v := (40 : Int32)) hx hb dX1_copyFrom_87 (by decide) ?_
  refine va_copyi hx hb (hml.trans hl.1.symm) hown w_6 w_7 w_8 w_9 hK hP hD hS 11 4 0 0 rfl rfl rfl rfl rfl (by decide) (by decide) (by decide) (by decide) (by decide) (fun _ _ => rfl) (Nat.le_of_ble_eq_true rfl) (Nat.le_of_ble_eq_true rfl) dX1_copyFrom_89 (fun H locs hP hD hS => ?_)
  have hP := xk_arrP (g := (o.2 3)) 4 hP rfl (cpy_all (by decide))
  have hD := xk_arrD (g := (o.2 3)) 4 hD rfl
  have hP : va_P D vwCl (wT I q (xs (xs (xs (xs t.1 0 (o.1 0)) 1 (o.1 1)) 2 (o.1 2)) 3 (o.1 3), xa (xa (xa (xa t.2 0 (o.2 0)) 1 (o.2 1)) 2 (o.2 2)) 3 (o.2 3)) ++ wT I r o) H := hP
  have hD : va_D A (wT I q (xs (xs (xs (xs t.1 0 (o.1 0)) 1 (o.1 1)) 2 (o.1 2)) 3 (o.1 3), xa (xa (xa (xa t.2 0 (o.2 0)) 1 (o.2 1)) 2 (o.2 2)) 3 (o.2 3)) ++ wT I r o) := hD
  refine lv_aload_n hx hb dX1_copyFrom_92 rfl (lv_at hl 1 rfl) ?_
  refine va_get (D := D) (ci := 1) (v := .ref (r 7)) (C := RX1) (T := TX1) (N := 12) hx hb hts hinX1 hown hK hP 7 rfl rfl 8 (by decide) w_13 (fun _ h9 => h9) rfl dX1_copyFrom_93 ?_
  refine lv_iconst (v := (0 : Int32)) hx hb dX1_copyFrom_96 (by decide) ?_
  refine lv_aload_n hx hb dX1_copyFrom_97 rfl (lv_at hl 0 rfl) ?_
  refine va_get (D := D) (ci := 1) (v := .ref (q 7)) (C := RX1) (T := TX1) (N := 12) hx hb hts hinX1 hown hK hP 0 rfl rfl 8 (by decide) w_13 (fun _ h9 => h9) rfl dX1_copyFrom_98 ?_
  refine lv_iconst (v := (0 : Int32)) hx hb dX1_copyFrom_101 (by decide) ?_
  refine lv_bipush (v := (40 : Int32)) hx hb dX1_copyFrom_102 (by decide) ?_
  refine va_copyi hx hb (hml.trans hl.1.symm) hown w_6 w_7 w_8 w_9 hK hP hD hS 12 5 0 0 rfl rfl rfl rfl rfl (by decide) (by decide) (by decide) (by decide) (by decide) (fun _ _ => rfl) (Nat.le_of_ble_eq_true rfl) (Nat.le_of_ble_eq_true rfl) dX1_copyFrom_104 (fun H locs hP hD hS => ?_)
  have hP := xk_arrP (g := (o.2 4)) 5 hP rfl (cpy_all (by decide))
  have hD := xk_arrD (g := (o.2 4)) 5 hD rfl
  have hP : va_P D vwCl (wT I q (xs (xs (xs (xs t.1 0 (o.1 0)) 1 (o.1 1)) 2 (o.1 2)) 3 (o.1 3), xa (xa (xa (xa (xa t.2 0 (o.2 0)) 1 (o.2 1)) 2 (o.2 2)) 3 (o.2 3)) 4 (o.2 4)) ++ wT I r o) H := hP
  have hD : va_D A (wT I q (xs (xs (xs (xs t.1 0 (o.1 0)) 1 (o.1 1)) 2 (o.1 2)) 3 (o.1 3), xa (xa (xa (xa (xa t.2 0 (o.2 0)) 1 (o.2 1)) 2 (o.2 2)) 3 (o.2 3)) 4 (o.2 4)) ++ wT I r o) := hD
  refine lv_aload_n hx hb dX1_copyFrom_107 rfl (lv_at hl 1 rfl) ?_
  refine va_get (D := D) (ci := 1) (v := .ref (r 8)) (C := RX1) (T := TX1) (N := 12) hx hb hts hinX1 hown hK hP 7 rfl rfl 9 (by decide) w_14 (fun _ h9 => h9) rfl dX1_copyFrom_108 ?_
  refine lv_iconst (v := (0 : Int32)) hx hb dX1_copyFrom_111 (by decide) ?_
  refine lv_aload_n hx hb dX1_copyFrom_112 rfl (lv_at hl 0 rfl) ?_
  refine va_get (D := D) (ci := 1) (v := .ref (q 8)) (C := RX1) (T := TX1) (N := 12) hx hb hts hinX1 hown hK hP 0 rfl rfl 9 (by decide) w_14 (fun _ h9 => h9) rfl dX1_copyFrom_113 ?_
  refine lv_iconst (v := (0 : Int32)) hx hb dX1_copyFrom_116 (by decide) ?_
  refine lv_bipush (v := (40 : Int32)) hx hb dX1_copyFrom_117 (by decide) ?_
  refine va_copyi hx hb (hml.trans hl.1.symm) hown w_6 w_7 w_8 w_9 hK hP hD hS 13 6 0 0 rfl rfl rfl rfl rfl (by decide) (by decide) (by decide) (by decide) (by decide) (fun _ _ => rfl) (Nat.le_of_ble_eq_true rfl) (Nat.le_of_ble_eq_true rfl) dX1_copyFrom_119 (fun H locs hP hD hS => ?_)
  have hP := xk_arrP (g := (o.2 5)) 6 hP rfl (cpy_all (by decide))
  have hD := xk_arrD (g := (o.2 5)) 6 hD rfl
  have hP : va_P D vwCl (wT I q (xs (xs (xs (xs t.1 0 (o.1 0)) 1 (o.1 1)) 2 (o.1 2)) 3 (o.1 3), xa (xa (xa (xa (xa (xa t.2 0 (o.2 0)) 1 (o.2 1)) 2 (o.2 2)) 3 (o.2 3)) 4 (o.2 4)) 5 (o.2 5)) ++ wT I r o) H := hP
  have hD : va_D A (wT I q (xs (xs (xs (xs t.1 0 (o.1 0)) 1 (o.1 1)) 2 (o.1 2)) 3 (o.1 3), xa (xa (xa (xa (xa (xa t.2 0 (o.2 0)) 1 (o.2 1)) 2 (o.2 2)) 3 (o.2 3)) 4 (o.2 4)) 5 (o.2 5)) ++ wT I r o) := hD
  refine lv_aload_n hx hb dX1_copyFrom_122 rfl (lv_at hl 0 rfl) ?_
  refine lv_aload_n hx hb dX1_copyFrom_123 rfl (lv_at hl 1 rfl) ?_
  refine va_get (D := D) (ci := 1) (v := .int (o.1 4)) (C := RX1) (T := TX1) (N := 12) hx hb hts hinX1 hown hK hP 7 rfl rfl 10 (by decide) w_15 (fun _ h9 => h9) rfl dX1_copyFrom_124 ?_
  refine va_put (D := D) (ci := 1) (v := .int (o.1 4)) (ty := tyX1 10) (C := RX1) (T := TX1) (N := 12) hx hb hts hinX1 tyX1 tyX1_ok nmX1 hown hK hP hD hS 0 rfl rfl 10 (by decide) w_15 (fun _ h9 => h9) rfl (tyX1_ok 10 (by decide)) rfl rfl (Nat.le_of_ble_eq_true rfl) dX1_copyFrom_127 (fun H locs hP hD hS => ?_)
  have hP : va_P D vwCl (wT I q (xs (xs (xs (xs (xs t.1 0 (o.1 0)) 1 (o.1 1)) 2 (o.1 2)) 3 (o.1 3)) 4 (o.1 4), xa (xa (xa (xa (xa (xa t.2 0 (o.2 0)) 1 (o.2 1)) 2 (o.2 2)) 3 (o.2 3)) 4 (o.2 4)) 5 (o.2 5)) ++ wT I r o) H := hP
  have hD : va_D A (wT I q (xs (xs (xs (xs (xs t.1 0 (o.1 0)) 1 (o.1 1)) 2 (o.1 2)) 3 (o.1 3)) 4 (o.1 4), xa (xa (xa (xa (xa (xa t.2 0 (o.2 0)) 1 (o.2 1)) 2 (o.2 2)) 3 (o.2 3)) 4 (o.2 4)) 5 (o.2 5)) ++ wT I r o) := hD
  refine lv_aload_n hx hb dX1_copyFrom_130 rfl (lv_at hl 0 rfl) ?_
  refine lv_aload_n hx hb dX1_copyFrom_131 rfl (lv_at hl 1 rfl) ?_
  refine va_get (D := D) (ci := 1) (v := .int (o.1 5)) (C := RX1) (T := TX1) (N := 12) hx hb hts hinX1 hown hK hP 7 rfl rfl 11 (by decide) w_16 (fun _ h9 => h9) rfl dX1_copyFrom_132 ?_
  refine va_put (D := D) (ci := 1) (v := .int (o.1 5)) (ty := tyX1 11) (C := RX1) (T := TX1) (N := 12) hx hb hts hinX1 tyX1 tyX1_ok nmX1 hown hK hP hD hS 0 rfl rfl 11 (by decide) w_16 (fun _ h9 => h9) rfl (tyX1_ok 11 (by decide)) rfl rfl (Nat.le_of_ble_eq_true rfl) dX1_copyFrom_135 (fun H locs hP hD hS => ?_)
  have hP : va_P D vwCl (wT I q (xs (xs (xs (xs (xs (xs t.1 0 (o.1 0)) 1 (o.1 1)) 2 (o.1 2)) 3 (o.1 3)) 4 (o.1 4)) 5 (o.1 5), xa (xa (xa (xa (xa (xa t.2 0 (o.2 0)) 1 (o.2 1)) 2 (o.2 2)) 3 (o.2 3)) 4 (o.2 4)) 5 (o.2 5)) ++ wT I r o) H := hP
  have hD : va_D A (wT I q (xs (xs (xs (xs (xs (xs t.1 0 (o.1 0)) 1 (o.1 1)) 2 (o.1 2)) 3 (o.1 3)) 4 (o.1 4)) 5 (o.1 5), xa (xa (xa (xa (xa (xa t.2 0 (o.2 0)) 1 (o.2 1)) 2 (o.2 2)) 3 (o.2 3)) 4 (o.2 4)) 5 (o.2 5)) ++ wT I r o) := hD
  have hP : va_P D vwCl (wT I q o ++ wT I r o) H := hP
  have hD : va_D A (wT I q o ++ wT I r o) := hD
  exact xk_vret (wf := fun z : XT × XT => wT I q z.1 ++ wT I r z.2) (u := (o, o)) hx hb hr hlocks hP hK hD hS rfl dX1_copyFrom_138
end
