/-! OWN KIT 2: contracts with a part of the end left open (V) -/
section XK2
abbrev xQiE (D : va_G) (tys : List (ClassId × FieldType)) (A : Nat → Prop) (V : Type) (R : Int32) (wf : V → va_W) := va_Qi (fun (r : Int32) (_ : V) => r = R) (fun v => xB D tys A (wf v)) A
abbrev xMiE (l : Launch) (D : va_G) (tys : List (ClassId × FieldType)) (y : MethodName) (ws : List Cond) (rm : Room) (av : List Value) (sz : Nat) (wc : va_W) (V : Type) (R : Int32) (wf : V → va_W) (mc ms : Nat) := Met l y ws rm (xPc D tys av sz wc) (xQiE D tys (va_A wc sz) V R wf) mc ms (va_A wc sz)
variable {p : Program} {l : Launch} {e : Env} {R : Room} {s : State} {m : MethodId} {args : Array Value} {below : List Frame} {meth : Method} {c : Code} {H : Heap} {locs : List Loc} {cells slots : Nat} {Q : State → Prop}
variable {cc : ByteArray} {pc : Nat} {ls : Array Slot} {rest st0 : List Value} {D : va_G} {tys : List (ClassId × FieldType)} {A : Nat → Prop} {H0 : Heap}
theorem xk_iretE {V U : Type} {wf : U → V → va_W} {u u1 : U} (v0 : V) {v Rv : Int32} {ty : FieldType} (hx : p.tables.exec = Jvm.exec) (hb : c.code = cc) (hr : meth.sig.returnType = some ty) (hn : narrow ty (.int v) = .int v) (hlocks : meth.locks = false) (hP : va_P D vwCl (wf u v0) H) (hK : va_K D vwCl tys s) (hD : va_D A (wf u v0)) (hS : va_S A s.heap H locs) (hv : v = Rv) (hu : u = u1) (hdg : decode cc pc = .ok (.ireturn, 1)) :
    W p l e R s m args below meth c H locs cells slots (MQ below (xQiE D tys A V Rv (wf u1)) args s cells slots A) (F0 m pc ls [.int v]) := by
  subst hu
  exact W.zret hx hb hr hn (fun t ht hW => ⟨⟨v, v0, rfl, hv, by rw [ht]; exact hP, va_K.moved hW.alike hK, hD⟩, hS.F ht⟩) hS.2.2 hdg hlocks
theorem xk_calliE {V : Type} {mc ms : Nat} {a9 : Array Value} {Rv : Int32} {wsA wc : va_W} {w1 : V → va_W} (wr : va_W) (w2 : V → va_W) (isC isR perm : List Nat) (hP : va_P D vwCl wsA H) (hD : va_D A wsA) (hS : va_S A H0 H locs) (hA : ∀ q, H0.size ≤ q → A q)
    (hr : va_Run p l e R s m args below meth c H locs cells slots mc ms (F0 m pc ls st0) rest (xQiE D tys (va_A wc H.size) V Rv w1 a9) (va_A wc H.size))
    (hC : isC.map (fun i => wsA[i]?) = wc.map some) (hR : isR.map (fun i => wsA[i]?) = wr.map some) (hn : va_nd isR = true) (hdis : ∀ i ∈ isR, i ∉ isC) (hpn : va_nd perm = true) (hp : ∀ v, perm.map (fun i => (wr ++ w1 v)[i]?) = (w2 v).map some)
    (kk : ∀ (v : V) (H1 : Heap) (locs1 : List Loc), va_P D vwCl (w2 v) H1 → va_D A (w2 v) → va_S A H0 H1 locs1 → W p l e R s m args below meth c H1 locs1 (cells + mc) (slots + ms) Q (F0 m (pc + 3) ls (.int Rv :: rest))) : W p l e R s m args below meth c H locs cells slots Q (F0 m pc ls st0) := by
  have hF := va_free (wc := wc) hD hS hA isC hC
  refine va_calli hr hS (fun q _ h => hF q h) hF (fun r u t H1 locs1 ht hvm hw hB hz1 hk1 hS1 => ?_)
  have hw : r = Rv := hw
  subst hw
  obtain ⟨h1, h2⟩ := xk_joined hP hD hS hA isC isR perm hC hR hn hdis hpn (hp u) ht hB hk1
  exact kk u H1 locs1 h1 h2 hS1
/-- the class of the int rows is one -/
theorem xk_cA {I cA : ClassId} (h : va_K D vwCl ([(I, .int)] ++ [(cA, .int)]) s) : cA = I := by
  have h0 : s.vm.findClass ("[" ++ FieldType.int.toString) = some I := (h.2 0 (I, .int) rfl).2
  have h1 : s.vm.findClass ("[" ++ FieldType.int.toString) = some cA := (h.2 1 (cA, .int) rfl).2
  exact Option.some.inj (h1.symm.trans h0)
end XK2
/-! means: no NaN -/
theorem nn_iff (x : UInt64) : vf_n64 x ↔ x.toNat % 9223372036854775808 ≤ 9218868437227405312 := by
  have h1 : (0x7fffffffffffffff : UInt64).toNat = 2 ^ 63 - 1 := by decide
  have h2 : (0x7ff0000000000000 : UInt64).toNat = 9218868437227405312 := by decide
  unfold vf_n64
  rw [UInt64.le_iff_toNat_le, UInt64.toNat_and, h1, h2, Nat.and_two_pow_sub_one_eq_mod]
theorem nn_no {x : UInt64} : vf_n64 x ↔ FP.Core.dIsNaN x = false := by
  rw [nn_iff, ← Bool.not_eq_true, FP.Core.isNaN_bits]; omega
theorem nn_i2d (v : Int32) : vf_n64 (FP.i2d v) := by
  have h : FP.Core.DFin (FP.i2d v) := FP.Core.i2d_fin v
  rw [FP.Core.fin_bits] at h
  rw [nn_iff]
  omega
theorem mean_nn (v n : Int32) (h : ¬ n = 0) : vf_n64 (FP.ddiv (FP.i2d v) (FP.i2d n)) := by
  refine nn_no.mpr (FP.Core.ddiv_out (nn_no.mp (nn_i2d v)) (FP.Core.i2d_fin n) ?_)
  have h2 : (FP.i2d n).toNat % 2 ^ 63 ≠ 0 := FP.Core.i2d_ne_zero h
  exact fun q => h2 ((FP.Core.zero_bits2 _).mp q)
theorem lt_nI {n : Int32} {k j : Nat} (hn : n.toInt = (k : Int)) (h : k < j) (h2 : j < 2 ^ 31) : n < nI j := by
  rw [Int32.lt_iff_toInt_lt, nI_toInt h2, hn]; omega
theorem nlt_nI {n : Int32} {k j : Nat} (hn : n.toInt = (k : Int)) (h : j ≤ k) (h2 : j < 2 ^ 31) : ¬ n < nI j := by
  rw [Int32.lt_iff_toInt_lt, nI_toInt h2, hn]; omega
theorem nOk_nI {x : Int32} (h : nOk x) : x = nI x.toNatClampNeg := by
  have h1 := h.1
  have h2 := h.2
  exact Int32.toInt_inj.mp (by rw [nI_toInt (by rw [clampInt]; omega), clampInt]; omega)
theorem in_nI {k n : Nat} (h : k < n) (hn : n ≤ 40) : vp_in (nI k) 40 := vp_in_nI (by omega) (by omega)
def m_d2 (f : Nat → Int32) (d : Int64) : Nat → Int64
  | 0 => d
  | k + 1 => m_d2 f d k * 31 + (f k).toInt64
