section
-- ===== PART A: goes FIRST, ahead of the names: the tables' words, and 'selects' of the private methods out of them =====
/-- a private method of a class that the tables say can be made, by its rows of tables_1 -/
def lw_okq (q : MethodName × Nat) : Prop := (q.1.cls ≠ "java/lang/invoke/MethodHandle" ∧ q.1.cls ≠ "java/lang/invoke/VarHandle") ∧ Cond.instantiable q.1.cls q.2 ∈ tables_1 ∧ Cond.privateMethod q.1 ∈ tables_1 ∧ Cond.instanceMethod q.1 ∈ tables_1
theorem lw_p0 : lw_okq (⟨"java/lang/Throwable", "fillInStackTrace", "(I)Ljava/lang/Throwable;"⟩, 6) := ⟨⟨by decide +kernel, by decide +kernel⟩, List.mem_of_getElem? (i := 57) (by decide +kernel), List.mem_of_getElem? (i := 55) (by decide +kernel), List.mem_of_getElem? (i := 56) (by decide +kernel)⟩
theorem lw_p1 : lw_okq (⟨"BridgeBells$Travellers", "seeWhoWaits", "()V"⟩, 12) := ⟨⟨by decide +kernel, by decide +kernel⟩, List.mem_of_getElem? (i := 109) (by decide +kernel), List.mem_of_getElem? (i := 107) (by decide +kernel), List.mem_of_getElem? (i := 108) (by decide +kernel)⟩
theorem lw_p2 : lw_okq (⟨"BridgeBells$Bridge", "serve", "(I)V"⟩, 11) := ⟨⟨by decide +kernel, by decide +kernel⟩, List.mem_of_getElem? (i := 213) (by decide +kernel), List.mem_of_getElem? (i := 211) (by decide +kernel), List.mem_of_getElem? (i := 212) (by decide +kernel)⟩
theorem lw_p3 : lw_okq (⟨"BridgeBells$Bridge", "goOnPassing", "()V"⟩, 11) := ⟨⟨by decide +kernel, by decide +kernel⟩, List.mem_of_getElem? (i := 213) (by decide +kernel), List.mem_of_getElem? (i := 223) (by decide +kernel), List.mem_of_getElem? (i := 224) (by decide +kernel)⟩
theorem lw_p4 : lw_okq (⟨"BridgeBells$Bridge", "freeze", "()V"⟩, 11) := ⟨⟨by decide +kernel, by decide +kernel⟩, List.mem_of_getElem? (i := 213) (by decide +kernel), List.mem_of_getElem? (i := 231) (by decide +kernel), List.mem_of_getElem? (i := 232) (by decide +kernel)⟩
theorem lw_p5 : lw_okq (⟨"BridgeBells", "waitWith", "(III)I"⟩, 2) := ⟨⟨by decide +kernel, by decide +kernel⟩, List.mem_of_getElem? (i := 266) (by decide +kernel), List.mem_of_getElem? (i := 264) (by decide +kernel), List.mem_of_getElem? (i := 265) (by decide +kernel)⟩
def lw_privs_1 : List (MethodName × Nat) := [(⟨"java/lang/Throwable", "fillInStackTrace", "(I)Ljava/lang/Throwable;"⟩, 6), (⟨"BridgeBells$Travellers", "seeWhoWaits", "()V"⟩, 12), (⟨"BridgeBells$Bridge", "serve", "(I)V"⟩, 11), (⟨"BridgeBells$Bridge", "goOnPassing", "()V"⟩, 11), (⟨"BridgeBells$Bridge", "freeze", "()V"⟩, 11), (⟨"BridgeBells", "waitWith", "(III)I"⟩, 2)]
theorem lw_r1 : ∀ q ∈ lw_privs_1, lw_okq q := List.forall_mem_cons.mpr ⟨lw_p0, List.forall_mem_cons.mpr ⟨lw_p1, List.forall_mem_cons.mpr ⟨lw_p2, List.forall_mem_cons.mpr ⟨lw_p3, List.forall_mem_cons.mpr ⟨lw_p4, List.forall_mem_cons.mpr ⟨lw_p5, fun _ h => absurd h List.not_mem_nil⟩⟩⟩⟩⟩⟩
def lw_privs : List (MethodName × Nat) := lw_privs_1
def lw_tbl : List Cond := k2_sels lw_privs ++ tables_1
theorem lw_privs_ok : ∀ q ∈ lw_privs, lw_okq q := lw_r1
/-- the streams that the claim lets the run draw from -/
abbrev lw_cs : List Choice := [Jvm.Choice.named "NaN.bits"]
theorem lw_bits : nanBits ∈ lw_cs := by first | decide | exact List.mem_cons_self | simp [lw_cs, nanBits]
end
section
/-! what the printed names lean on and don't print: a row of rows, its class known to the machine -/
def va_AOA (t : FieldType) (U : State) : Prop := (Cond.arrayOver (.array t)).before #[] U = true
theorem va_AOA.of {t : FieldType} {A : Array Value} {U : State} (h : (Cond.arrayOver (.array t)).before A U = true) : va_AOA t U := h
theorem va_AOA.use {t : FieldType} {A : Array Value} {U : State} (h : va_AOA t U) : (Cond.arrayOver (.array t)).before A U = true := h
/-! ===== BEGIN words of one list among another's, by their places ===== -/
theorem goodIn_r {big : List Cond} (ws : List Cond) (ps : List Nat) (hp : ws = ps.filterMap (fun i => big[i]?)) (h : ws.all goodWord = true) : GoodIn big ws := by
  intro w hw
  have h1 := List.all_eq_true.mp h w hw
  rw [hp] at hw
  obtain ⟨i, -, hi⟩ := List.mem_filterMap.mp hw
  have hm : w ∈ big := by first | exact List.mem_of_getElem? hi | exact List.getElem?_mem hi
  exact ⟨hm, good_of_word h1⟩
theorem goodIn_app {big a b : List Cond} (ha : GoodIn big a) (hb : GoodIn big b) : GoodIn big (a ++ b) := fun w h => (List.mem_append.mp h).elim (ha w) (hb w)
theorem goodIn_ca {big a b : List Cond} {c : Cond} (ha : GoodIn big (c :: a)) (hb : GoodIn big b) : GoodIn big (c :: (a ++ b)) := fun w h => (List.mem_cons.mp h).elim (fun e => ha w (List.mem_cons.mpr (Or.inl e))) (fun h => (List.mem_append.mp h).elim (fun h => ha w (List.mem_cons.mpr (Or.inr h))) (hb w))
theorem goodIn_sub {big ws : List Cond} (hm : ∀ w ∈ ws, w ∈ big) (h : ws.all goodWord = true) : GoodIn big ws := fun w hw => ⟨hm w hw, good_of_word (List.all_eq_true.mp h w hw)⟩
/-! ===== END ===== -/

/-! ===== BEGIN new T[n][m]: the outer array a place, the inner ones among the pooled ===== -/
/-- f, but v at every address of l -/
def vr_up {α : Type} (f : Nat → α) (l : List Nat) (v : α) : Nat → α := fun a => if a ∈ l then v else f a
theorem vr_up_in {α : Type} {f : Nat → α} {l : List Nat} {v : α} {a : Nat} (h : a ∈ l) : vr_up f l v a = v := if_pos h
theorem vr_up_ne {α : Type} {f : Nat → α} {l : List Nat} {v : α} {a : Nat} (h : a ∉ l) : vr_up f l v a = f a := if_neg h
theorem vr_rows {L l : List Nat} {f : Nat → va_E} {e : va_E} (h : ∀ a, a ∈ l → a ∉ L) : va_pl L f ++ l.map (fun a => (a, e)) = va_pl (L ++ l) (vr_up f l e) := by
  unfold va_pl
  rw [List.map_append]
  congr 1
  · apply List.map_congr_left
    intro a ha
    rw [vr_up_ne (fun q => h a q ha)]
  · apply List.map_congr_left
    intro a ha
    rw [vr_up_in ha]
theorem vr_lay {X rows : va_W} {x : Nat × va_E} {pl : va_W} {D : va_G} {cl : List vw_C} {H : Heap} (hP : va_P D cl (((X ++ pl) ++ [x]) ++ rows) H) : va_P D cl ((X ++ [x]) ++ (pl ++ rows)) H := by
  rw [List.append_assoc (X ++ pl)] at hP
  have h := va_P.swap hP
  rw [← List.append_assoc X] at h
  have h2 := va_P.swap h
  rw [List.append_assoc (X ++ [x])] at h2
  exact h2
theorem vr_layD {X rows : va_W} {x : Nat × va_E} {pl : va_W} {A : Nat → Prop} (hD : va_D A (((X ++ pl) ++ [x]) ++ rows)) : va_D A ((X ++ [x]) ++ (pl ++ rows)) := by
  rw [List.append_assoc (X ++ pl)] at hD
  have h := va_D.swap hD
  rw [← List.append_assoc X] at h
  have h2 := va_D.swap h
  rw [List.append_assoc (X ++ [x])] at h2
  exact h2
theorem vr_outer (c : ClassId) (N h0 : Nat) : ∀ i : Nat, Jvm.Free.Multi.outerC c N h0 i = arrV c N (fun j => va_rf (if j < i then some (h0 + 1 + j) else none))
  | 0 => by
    show ({ cls := c, slots := Array.replicate N .null, vm := .none } : Cell) = _
    rw [arrV_new]
    refine congrArg (arrV c N) (funext fun j => ?_)
    simp [va_rf]
  | i + 1 => by
    show (Jvm.Free.Multi.outerC c N h0 i).setSlot i (.ref (h0 + 1 + i)) = _
    rw [vr_outer c N h0 i, arrV_store]
    refine congrArg (arrV c N) (funext fun j => ?_)
    by_cases e : j = i
    · subst e
      simp [updV, va_rf]
    · by_cases h : j < i
      · simp [updV, e, h, Nat.lt_succ_of_lt h]
      · simp [updV, e, h, show ¬ j < i + 1 by omega]
section VGM
variable {p : Program} {l : Launch} {e : Env} {R : Room} {s : State} {m : MethodId} {args : Array Value} {below : List Frame} {meth : Method} {c : Code} {H : Heap} {locs : List Loc} {cells slots : Nat} {Q : State → Prop}
variable {cc : ByteArray} {pc : Nat} {ls : Array Slot} {rest : List Value} {D : va_G} {cl : List vw_C} {A : Nat → Prop} {a : Nat} {tys : List (ClassId × FieldType)} {ws : va_W} {H0 : Heap}
theorem va_mna {X : va_W} {L : List Nat} {f : Nat → va_E} {cc : ByteArray} (hexec : p.tables.exec = Jvm.exec) (hb : c.code = cc) {own : String} {index : Nat} {ty : FieldType} {cy : ClassId} (hown : s.vm.findClass own = some m.cls) (hclink : (Cond.classLink own index ("[" ++ (FieldType.array ty).toString)).before args s = true) (hover : va_AOA ty s) (harr : (Cond.arrayClass ty).before args s = true) (hcy : s.vm.findClass (FieldType.array ty).toString = some cy)
    (hK : va_K D cl tys s) (hP : va_P D cl (X ++ va_pl L f) H) (hD : va_D A (X ++ va_pl L f)) (hS : va_S A H0 H locs) (hA : ∀ q, H0.size ≤ q → A q) {n k : Int32} {N' K' : Nat} {z : vp_A} (hn : ¬ n < 0) (hk : ¬ k < 0) (hN : n.toNatClampNeg = N') (hM : k.toNatClampNeg = K')
    (hb1 : N' * 4 ≤ 536870912) (hb2 : K' * componentBytes ty ≤ 536870912) (hb3 : K' ≤ 536870912) (hdf : fits ty (defaultValue ty) = true) (hdd : (defaultValue ty).isDefault = true) (hcells : cells + (1 + N') ≤ R.cells) (hslots : slots + (N' + N' * K') ≤ R.slots) (hz : ∀ c : ClassId, Jvm.Free.Multi.innerC c K' (defaultValue ty) = vp_cell c z) (hdg : decode cc pc = .ok (.multianewarray index 2, 4))
    (kk : ∀ (q : Nat) (r : Nat → Nat) (cA : ClassId) (H1 : Heap), (∀ i j : Nat, i < N' → j < N' → r i = r j → i = j) → (∀ i : Nat, i < N' → r i ∉ L) → va_K D cl (tys ++ [(cA, .array ty)]) s →
      va_P D cl ((X ++ [(q, .inl (cA, N', .inr (.inr (.inr (.inr (fun i => if i < N' then some (r i) else none))))))]) ++ va_pl (L ++ (List.range N').map r) (vr_up f ((List.range N').map r) (.inl (cy, z)))) H1 → va_D A ((X ++ [(q, .inl (cA, N', .inr (.inr (.inr (.inr (fun i => if i < N' then some (r i) else none))))))]) ++ va_pl (L ++ (List.range N').map r) (vr_up f ((List.range N').map r) (.inl (cy, z)))) → va_S A H0 H1 locs →
      W p l e R s m args below meth c H1 locs (cells + 1 + N') (slots + N' + N' * K') Q (F0 m (pc + 4) ls (.ref q :: rest))) : W p l e R s m args below meth c H locs cells slots Q (F0 m pc ls (.int k :: .int n :: rest)) := by
  subst hN
  subst hM
  intro T hT Xs
  obtain ⟨vm₁, cA, comp, -, fA, fC, hO, -, X', step⟩ := Xs.multianewarray2F hexec hown hclink (va_AOA.use hover) harr (g := F0 m pc ls (.int k :: .int n :: rest)) rfl (by rw [hb]; exact hdg) rfl hn hk hb1 hb2 hb3 hdf hdd hcells hslots
  have ec : some cy = some comp := hcy.symm.trans fC
  cases ec
  generalize hF : Jvm.Free.Multi.fill (T.setVm vm₁) cA cy n.toNatClampNeg k.toNatClampNeg (defaultValue ty) n.toNatClampNeg = F at X' step
  have hTh : (T.setVm vm₁).heap = H := hT
  obtain ⟨f1, f2, -, -⟩ := Jvm.Free.Multi.fill_facts (T.setVm vm₁) cA cy n.toNatClampNeg k.toNatClampNeg (defaultValue ty) n.toNatClampNeg
  rw [hF, hTh] at f1 f2
  have hold : ∀ x : Nat, x < H.size → F.heap[x]? = H[x]? := fun x hx => by
    have := Jvm.Free.Multi.fill_old (T.setVm vm₁) cA cy n.toNatClampNeg k.toNatClampNeg (defaultValue ty) (a := x) (by rw [hTh]; exact hx) n.toNatClampNeg
    rw [hF, hTh] at this
    exact this
  have hrow : ∀ j : Nat, j < n.toNatClampNeg → F.heap[H.size + 1 + j]? = some (vp_cell cy z) := fun j hj => by
    have := Jvm.Free.Multi.fill_inner (T.setVm vm₁) cA cy n.toNatClampNeg k.toNatClampNeg (defaultValue ty) n.toNatClampNeg j hj
    rw [hF, hTh, hz] at this
    exact this
  have hout : Jvm.Free.Multi.outerC cA n.toNatClampNeg H.size n.toNatClampNeg = vp_cell cA (n.toNatClampNeg, .inr (.inr (.inr (.inr (fun i => if i < n.toNatClampNeg then some (H.size + 1 + i) else none))))) := by
    rw [vp_cell_q]
    exact vr_outer cA n.toNatClampNeg H.size n.toNatClampNeg
  rw [hout] at f2
  have hlt : ∀ a, a ∈ L → a < H.size := fun a ha => by
    obtain ⟨k9, hk9⟩ := va_pl_get (X := X) (f := f) ha
    exact (hP k9 _ hk9).lt
  have hnl : ∀ i : Nat, i < n.toNatClampNeg → H.size + 1 + i ∉ L := fun i _ h => by
    have := hlt _ h
    omega
  have hnm : ∀ a, a ∈ (List.range n.toNatClampNeg).map (fun i => H.size + 1 + i) → a ∉ L := fun a ha h => by
    obtain ⟨i, -, rfl⟩ := List.mem_map.mp ha
    have := hlt _ h
    omega
  have hP0 : va_P D cl (X ++ va_pl L f) F.heap := hP.kept (fun k9 x hx => hold x.1 ((hP k9 x hx).lt))
  have hP1 : va_P D cl ((X ++ va_pl L f) ++ [(H.size, .inl (cA, n.toNatClampNeg, .inr (.inr (.inr (.inr (fun i => if i < n.toNatClampNeg then some (H.size + 1 + i) else none))))))]) F.heap := hP0.app (fun k9 x hx => by
    have h0 : k9 < 1 := (List.getElem?_eq_some_iff.mp hx).1
    rw [show k9 = 0 by omega] at hx
    cases hx
    exact f2)
  have hP2 : va_P D cl (((X ++ va_pl L f) ++ [(H.size, .inl (cA, n.toNatClampNeg, .inr (.inr (.inr (.inr (fun i => if i < n.toNatClampNeg then some (H.size + 1 + i) else none))))))]) ++ ((List.range n.toNatClampNeg).map (fun i => H.size + 1 + i)).map (fun a => (a, .inl (cy, z)))) F.heap := hP1.app (fun k9 x hx => by
    obtain ⟨a, ha, rfl⟩ := List.mem_map.mp (List.mem_of_getElem? hx)
    obtain ⟨i, hi, rfl⟩ := List.mem_map.mp ha
    exact hrow i (List.mem_range.mp hi))
  have hD2 : va_D A (((X ++ va_pl L f) ++ [(H.size, .inl (cA, n.toNatClampNeg, .inr (.inr (.inr (.inr (fun i => if i < n.toNatClampNeg then some (H.size + 1 + i) else none))))))]) ++ ((List.range n.toNatClampNeg).map (fun i => H.size + 1 + i)).map (fun a => (a, .inl (cy, z)))) := by
    have hD1 := hD.push (e := .inl (cA, n.toNatClampNeg, .inr (.inr (.inr (.inr (fun i => if i < n.toNatClampNeg then some (H.size + 1 + i) else none)))))) hP rfl (hA _ hS.1)
    generalize hW1 : (X ++ va_pl L f) ++ [(H.size, .inl (cA, n.toNatClampNeg, .inr (.inr (.inr (.inr (fun i => if i < n.toNatClampNeg then some (H.size + 1 + i) else none))))))] = W1 at hD1 hP1 ⊢
    have hle : ∀ (k9 : Nat) (x : Nat × va_E), W1[k9]? = some x → x.1 ≤ H.size := fun k9 x hx => by
      rw [← hW1] at hx
      by_cases hl : k9 < (X ++ va_pl L f).length
      · rw [List.getElem?_append_left hl] at hx
        exact Nat.le_of_lt ((hP k9 x hx).lt)
      · rw [List.getElem?_append_right (by omega)] at hx
        have h0 : k9 - (X ++ va_pl L f).length < 1 := (List.getElem?_eq_some_iff.mp hx).1
        rw [show k9 - (X ++ va_pl L f).length = 0 by omega] at hx
        cases hx
        exact Nat.le_refl _
    have hr : ∀ (k9 : Nat) (x : Nat × va_E), (((List.range n.toNatClampNeg).map (fun i => H.size + 1 + i)).map (fun a => ((a, .inl (cy, z)) : Nat × va_E)))[k9]? = some x → x.1 = H.size + 1 + k9 := fun k9 x hx => by
      rw [List.getElem?_map, List.getElem?_map] at hx
      by_cases h9 : k9 < n.toNatClampNeg
      · rw [List.getElem?_range h9] at hx
        cases hx
        rfl
      · have hn0 : (List.range n.toNatClampNeg)[k9]? = none := List.getElem?_eq_none (by rw [List.length_range]; omega)
        rw [hn0] at hx
        cases hx
    refine ⟨fun i j x y hi hj hxy => ?_, fun k9 x hx => ?_⟩
    · by_cases h1 : i < W1.length <;> by_cases h2 : j < W1.length
      · rw [List.getElem?_append_left h1] at hi
        rw [List.getElem?_append_left h2] at hj
        exact hD1.1 i j x y hi hj hxy
      · rw [List.getElem?_append_left h1] at hi
        rw [List.getElem?_append_right (by omega)] at hj
        have := hle _ _ hi
        have := hr _ _ hj
        omega
      · rw [List.getElem?_append_right (by omega)] at hi
        rw [List.getElem?_append_left h2] at hj
        have := hle _ _ hj
        have := hr _ _ hi
        omega
      · rw [List.getElem?_append_right (by omega)] at hi hj
        have := hr _ _ hi
        have := hr _ _ hj
        omega
    · by_cases h1 : k9 < W1.length
      · rw [List.getElem?_append_left h1] at hx
        exact hD1.2 k9 x hx
      · rw [List.getElem?_append_right (by omega)] at hx
        have := hr _ _ hx
        exact hA _ (by have := hS.1; omega)
  have hAr : ArrOfT s cA (.array ty) := fun N9 z9 => by
    obtain ⟨-, k9, hk9, cm9, hkk9⟩ := (hO 0 0 0).1
    exact ⟨(fun q hq => by cases hq), k9, hk9, cm9, hkk9⟩
  have hK2 : va_K D cl (tys ++ [(cA, .array ty)]) s := ⟨hK.1, fun k9 x hx => by
    by_cases hl : k9 < tys.length
    · rw [List.getElem?_append_left hl] at hx
      exact hK.2 k9 x hx
    · rw [List.getElem?_append_right (by omega)] at hx
      have h0 : k9 - tys.length < 1 := (List.getElem?_eq_some_iff.mp hx).1
      rw [show k9 - tys.length = 0 by omega] at hx
      cases hx
      exact ⟨hAr, fA⟩⟩
  obtain ⟨t, a1, b1⟩ := kk H.size (fun i => H.size + 1 + i) cA F.heap (fun i j _ _ h => by have h9 : H.size + 1 + i = H.size + 1 + j := h; omega) hnl hK2 (by rw [← vr_rows hnm]; exact vr_lay hP2) (by rw [← vr_rows hnm]; exact vr_layD hD2) ⟨by rw [f1]; have := hS.1; omega, fun x h1 h2 => (hold x (Nat.lt_of_lt_of_le h1 hS.1)).trans (hS.2.1 x h1 h2), hS.2.2⟩ F rfl X'
  refine ⟨t, step t ?_, b1⟩
  have e : T.heap.size = H.size := by rw [hT]
  rw [e]
  exact a1
end VGM
/-! ===== END ===== -/

/-! ===== BEGIN exceptions that leave a method, and their catching by the caller (launches without stack traces) ===== -/
section VXA
/-! The laws vx_back, vx_callV, vx_callS, vx_callSW, vx_throw0, vx_throwS follow proofs of the library, with one case more: JvmDerived/Free/Laws.lean (Back.of_free), Shelf42/LK1.lean (callV, callS), Shelf/KitTraced.lean (throwNew0V, throwNewS). -/
/-- where a method has thrown q: the class by its name, the cell, what was written, the world -/
def vx_T (XC : String → State → State → Prop) (st : State) (q : Addr) (t : State) (mc ms : Nat) (free : Addr → Prop) : Prop :=
  ∃ (E : String) (ce : Cell) (L : List Loc), XC E st t ∧ t.heap[q]? = some ce ∧ ce.vm = .none ∧ st.vm.findClass E = some ce.cls ∧ st.WarmedH t.vm ∧ st.sameButNew ({ t with vm := st.vm } : State) L mc ms ∧ ∀ z ∈ L, free z.base
def vx_Q (Qc : Array Value → State → Outcome → State → Prop) (XC : String → State → State → Prop) (mc ms : Nat) (free : Addr → Prop) : Array Value → State → Outcome → State → Prop := fun a st o t =>
  (Qc a st o t ∧ ∃ L, FrameEnd st o t L mc ms ∧ ∀ q ∈ L, free q.base) ∨ ∃ q, o = .threw q ∧ vx_T XC st q t mc ms free
/-- a callee that returns or throws -/
def vx_Met (l : Launch) (y : MethodName) (ws : List Cond) (rm : Room) (Pc : Array Value → State → Prop) (Qc : Array Value → State → Outcome → State → Prop) (XC : String → State → State → Prop) (mc ms : Nat) (free : Addr → Prop) : Prop :=
  MetFree l y (headSpec ws rm) Pc (fun _ _ _ _ _ => True) (vx_Q Qc XC mc ms free)
def vx_Post (XC : String → State → State → Prop) (mc ms : Nat) (free : Addr → Prop) : Pt → Array Value → Addr → Pt → Prop := fun A a q B =>
  ∃ (g : JFrame) (mk : MethodId) (t : State) (L : List Loc) (E : String) (ce : Cell), B.U.heap = t.heap ∧ B.U.vm = t.vm ∧ XC E (A.U.calling g mk a) t ∧ t.heap[q]? = some ce ∧ ce.vm = .none ∧ A.U.vm.findClass E = some ce.cls ∧ B.locs = A.locs ++ L ∧ (∀ z ∈ L, free z.base) ∧ B.cells = A.cells + mc ∧ B.slots = A.slots + ms
def vx_Back (l : Launch) (R : Room) (p : Program) (e : Env) (below : List Frame) (s : State) (sargs : Array Value) (y : MethodName) (len W9 : Nat)
    (Pre : Pt → Array Value → Prop) (Post : Pt → Array Value → Option Value → Pt → Prop) (PostX : Pt → Array Value → Addr → Pt → Prop) : Prop :=
  ∀ (m : MethodId) (meth : Method) (c : Code) (A : Pt) (g : JFrame) (ig : Instr) (mk : MethodId) (a : Array Value),
    Stand p l e R s m sargs below meth c A.U A.locs A.cells A.slots → g.method = m → g.locals.size = c.maxLocals → decode c.code g.pc = .ok (ig, len) →
    2 * g.monitorRoom + (g.stack.map fun v => v.category).sum ≤ W9 → A.U.methodNamed? y = some mk → Pre A a →
    (∃ (v : Option Value) (B : Pt), Stand p l e R s m sargs below meth c B.U B.locs B.cells B.slots ∧ Post A a v B ∧
      Steps p.tables e below (doInvoke e (A.U.setTop g) [] mk a).1 (B.U.setTop { g with pc := g.pc + len, stack := v.toList ++ g.stack })) ∨
    (∃ (q : Addr) (B : Pt), Stand p l e R s m sargs below meth c B.U B.locs B.cells B.slots ∧ PostX A a q B ∧
      Steps p.tables e below (doInvoke e (A.U.setTop g) [] mk a).1 ((B.U.setTop g).pushFrame (.throwing q)))
section Payer
variable {l : Launch} {R : Room} {p : Program} {e : Env} {below : List Frame} {s : State} {sargs : Array Value} {y : MethodName} {len W9 : Nat}
theorem vx_back {ws : List Cond} {rm : Room} {Pc : Array Value → State → Prop} {Qc : Array Value → State → Outcome → State → Prop} {XC : String → State → State → Prop} {mc ms : Nat} {free : Addr → Prop} {bytes : ByteArray} {maxL : Nat} {ret : Option FieldType}
    (hM : vx_Met l y ws rm Pc Qc XC mc ms free) (hblind : FrameBlind Pc) (hrc : rm.cells = mc) (hrs : rm.slots = ms)
    (hframes : rm.frames + 1 ≤ R.frames) (hlocals : W9 + (maxL + 11) + rm.locals ≤ R.locals)
    (hws : ∀ w ∈ ws, ∀ a' U, s.WarmedH U.vm → w.before a' U = true) (hcode : Cond.code y bytes maxL ret ∈ ws) (hinit : ∀ a' U, s.WarmedH U.vm → (Cond.initialized y.cls).before a' U = true) :
    vx_Back l R p e below s sargs y len W9 (PreOf R mc ms Pc) (PostOf Qc mc ms free) (vx_Post XC mc ms free) := by
  intro m meth c A g ig mk a X hg hsize hdg hW hn hp
  have h1 : (headSpec ws rm).pre.before a A.U = true := atoms_intro fun w hw => hws w hw _ _ X.warmed
  have h2 : (Cond.code y bytes maxL ret).before a A.U = true := hws _ hcode _ _ X.warmed
  have h3 : (Cond.initialized y.cls).before a A.U = true := hinit _ _ X.warmed
  have h4 : A.cells + (headSpec ws rm).room.cells ≤ R.cells := by rw [show (headSpec ws rm).room.cells = mc from hrc]; exact hp.1
  have h5 : A.slots + (headSpec ws rm).room.slots ≤ R.slots := by rw [show (headSpec ws rm).room.slots = ms from hrs]; exact hp.2.1
  have hPc : Pc a (A.U.calling g mk a) := hblind _ _ _ _ hp.2.2
  obtain ⟨U, Ls, c0, s0⟩ := A
  dsimp only [Pt.U, Pt.locs, Pt.cells, Pt.slots] at h1 h2 h3 h4 h5 X hn hPc ⊢
  obtain ⟨methY, cY, hmY, hcY, -, hlY, -, -, -, -⟩ := Cond.code_spec hn h2
  obtain ⟨kY, hkY, -⟩ := className_of_methodNamed hn
  have hinitY : kY.init = .initialized := Cond.initialized_spec (findClass_of_methodNamed hn) hkY h3
  have h : At U g.method c below := by rw [hg]; exact X.here
  have hlocals9 : W9 + (maxL + 11) + (headSpec ws rm).room.locals ≤ R.locals := hlocals
  have happ : (headSpec ws rm).appliesLoose y e.platform (U.calling g mk a) = true :=
    Spec.appliesLoose_calling (g := g) h hdg hn hkY hinitY
      (X.room_calling (g := g) (R' := (headSpec ws rm).room) hsize hmY hcY hframes (by rw [hlY]; omega) h4 h5) h1
  obtain ⟨mid, hmid⟩ := h.above
  have hfr : (U.setTop g).frames = (.java g :: mid) ++ below := by rw [State.frames_setTop' g h.top, hmid]; rfl
  obtain ⟨o, s₂, hsteps, -, hend, hq⟩ := Steps.callFree hM p X.admits X.cas X.clock (acts := []) hfr happ hPc trivial
  have hq' : vx_Q Qc XC mc ms free a (U.calling g mk a) o s₂ := hq
  rw [State.frames_setTop' g h.top] at hend
  obtain ⟨g₀, hg0⟩ := Option.isSome_iff_exists.mp h.top
  obtain ⟨r, hr⟩ := State.topJava?_eq_some.mp hg0
  have hr' : (({ U with heap := s₂.heap, slotsUsed := s₂.slotsUsed } : State).setVm s₂.vm).frames = .java g₀ :: r := hr
  rcases hq' with ⟨hqc, L, hfe, hL⟩ | ⟨q, rfl, E, ce, L, hx, hce, hcv, hcl, hW₂, hsm, hL⟩
  · obtain ⟨⟨v, rfl⟩, hW₂, e2, q2, q3, q4, q5, q6⟩ := id hfe
    have e3 : s₂ = ({ (U.calling g mk a).setFrames s₂.frames with heap := s₂.heap, slotsUsed := s₂.slotsUsed } : State).setVm s₂.vm := by
      have : s₂ = ({ s₂ with vm := (U.calling g mk a).vm } : State).setVm s₂.vm := rfl
      rw [e2] at this
      exact this
    obtain ⟨c₂, i₂, len₂, hc₂, hd₂, hf₂⟩ := hend
    have hW' : U.WarmedH s₂.vm := hW₂
    have hcc : c₂ = c := by
      have h1 : s₂.code? g.method = U.code? g.method := by
        rw [State.code?_eq, State.code?_eq, hW'.alike.method?]
      exact Option.some.inj (hc₂.symm.trans (h1.trans h.code))
    subst hcc
    have hlen : len₂ = len := by rw [hdg] at hd₂; cases hd₂; rfl
    subst hlen
    have hs₂ : s₂ = (({ U with heap := s₂.heap, slotsUsed := s₂.slotsUsed } : State).setVm s₂.vm).setTop { g with pc := g.pc + len₂, stack := v.toList ++ g.stack } := by
      refine e3.trans ?_
      rw [hf₂, State.calling_eq h.top, State.setFrames_setFrames, State.setTop_of_frames _ hr', hr]
      rfl
    have hsame : U.sameButNew ({ U with heap := s₂.heap, slotsUsed := s₂.slotsUsed } : State) L mc ms := by
      refine ⟨?_, q2, q3, q4, q5, q6⟩
      obtain ⟨t, ht, -⟩ := State.frames_cons hr
      show ({ U with heap := s₂.heap, slotsUsed := s₂.slotsUsed } : State) = { U.setFrames U.frames with heap := s₂.heap, slotsUsed := s₂.slotsUsed }
      rw [State.setFrames_self ht]
    subst hg
    refine Or.inl ⟨v, ⟨(({ U with heap := s₂.heap, slotsUsed := s₂.slotsUsed } : State).setVm s₂.vm), Ls ++ L, c0 + mc, s0 + ms⟩,
      ⟨X.admits, X.cas, X.clock, X.frames, X.room, X.hears, X.method, X.code, (X.here.setHeapUsed s₂.heap s₂.slotsUsed).setVm hW'.alike, X.tail, State.WarmedH.trans X.warmed hW', X.limits, X.bytes, X.same.trans (hsame.setVm s.vm)⟩,
      ⟨g, mk, s₂, L, rfl, rfl, hqc, rfl, hL, rfl, rfl⟩, ?_⟩
    show Steps p.tables e below _ ((({ U with heap := s₂.heap, slotsUsed := s₂.slotsUsed } : State).setVm s₂.vm).setTop { g with pc := g.pc + len₂, stack := v.toList ++ g.stack })
    rw [← hs₂]
    exact hsteps
  · obtain ⟨e2, q2, q3, q4, q5, q6⟩ := id hsm
    have e3 : s₂ = ({ (U.calling g mk a).setFrames s₂.frames with heap := s₂.heap, slotsUsed := s₂.slotsUsed } : State).setVm s₂.vm := by
      have : s₂ = ({ s₂ with vm := (U.calling g mk a).vm } : State).setVm s₂.vm := rfl
      rw [e2] at this
      exact this
    have hf₂ : s₂.frames = .throwing q :: .java g :: U.frames.tail := hend
    have hW' : U.WarmedH s₂.vm := hW₂
    have hs₂ : s₂ = ((({ U with heap := s₂.heap, slotsUsed := s₂.slotsUsed } : State).setVm s₂.vm).setTop g).pushFrame (.throwing q) := by
      refine e3.trans ?_
      rw [hf₂, State.calling_eq h.top, State.setFrames_setFrames, State.pushFrame, State.frames_setTop _ hr', State.setTop_of_frames _ hr', State.setFrames_setFrames, hr]
      rfl
    have hsame : U.sameButNew ({ U with heap := s₂.heap, slotsUsed := s₂.slotsUsed } : State) L mc ms := by
      refine ⟨?_, q2, q3, q4, q5, q6⟩
      obtain ⟨t, ht, -⟩ := State.frames_cons hr
      show ({ U with heap := s₂.heap, slotsUsed := s₂.slotsUsed } : State) = { U.setFrames U.frames with heap := s₂.heap, slotsUsed := s₂.slotsUsed }
      rw [State.setFrames_self ht]
    subst hg
    refine Or.inr ⟨q, ⟨(({ U with heap := s₂.heap, slotsUsed := s₂.slotsUsed } : State).setVm s₂.vm), Ls ++ L, c0 + mc, s0 + ms⟩,
      ⟨X.admits, X.cas, X.clock, X.frames, X.room, X.hears, X.method, X.code, (X.here.setHeapUsed s₂.heap s₂.slotsUsed).setVm hW'.alike, X.tail, State.WarmedH.trans X.warmed hW', X.limits, X.bytes, X.same.trans (hsame.setVm s.vm)⟩,
      ⟨g, mk, s₂, L, E, ce, rfl, rfl, hx, hce, hcv, hcl, rfl, hL, rfl, rfl⟩, ?_⟩
    show Steps p.tables e below _ (((({ U with heap := s₂.heap, slotsUsed := s₂.slotsUsed } : State).setVm s₂.vm).setTop g).pushFrame (.throwing q))
    rw [← hs₂]
    exact hsteps
end Payer
section Calls
variable {p : Program} {l : Launch} {e : Env} {R : Room} {s : State} {m : MethodId} {args : Array Value} {below : List Frame} {meth : Method} {c : Code} {T : State} {locs : List Loc} {cells slots : Nat}
theorem vx_callV (X : Stand p l e R s m args below meth c T locs cells slots) (hexec : p.tables.exec = Jvm.exec) {own C : String} {index : Nat} {y : MethodName} {bytes : ByteArray} {maxL : Nat} {ret : Option FieldType}
    (hown : s.vm.findClass own = some m.cls) (hlink : (Cond.methodLink own index y).before args s = true) (hinst : (Cond.instanceMethod y).before args s = true) (hsel : (Cond.selects C y y).before args s = true)
    (hcode : (Cond.code y bytes maxL ret).before args s = true) (hy : y.cls ≠ "java/lang/invoke/MethodHandle" ∧ y.cls ≠ "java/lang/invoke/VarHandle")
    {W9 : Nat} {Pre : Pt → Array Value → Prop} {Post : Pt → Array Value → Option Value → Pt → Prop} {PostX : Pt → Array Value → Addr → Pt → Prop} (hK : vx_Back l R p e below s args y 3 W9 Pre Post PostX)
    {b : Addr} {cellB : Cell} (hcell : T.heap[b]? = some cellB) (hobj : cellB.vm.isStatics = false) (hcls : s.vm.findClass C = some cellB.cls)
    {g : JFrame} (hg : g.method = m) (hsize : g.locals.size = c.maxLocals) {argsL rest : List Value} (hlen : ∀ sig, parseMethodDescriptor y.desc = some sig → argsL.length = sig.parameters.length)
    (hstack : g.stack = argsL.reverse ++ .ref b :: rest) (hW : 2 * g.monitorRoom + (rest.map fun v => v.category).sum ≤ W9) (hdg : decode c.code g.pc = .ok (.invokevirtual index, 3))
    (hpre : ∀ vm₁, s.WarmedH vm₁ → Pre ⟨T.setVm vm₁, locs, cells, slots⟩ (Value.ref b :: argsL).toArray) :
    (∃ (v : Option Value) (vm₁ : Vm) (B : Pt), s.WarmedH vm₁ ∧ Stand p l e R s m args below meth c B.U B.locs B.cells B.slots ∧ Post ⟨T.setVm vm₁, locs, cells, slots⟩ (Value.ref b :: argsL).toArray v B ∧
      ∀ target, Steps p.tables e below (B.U.setTop { g with pc := g.pc + 3, stack := v.toList ++ rest }) target → Steps p.tables e below (T.setTop g) target) ∨
    (∃ (q : Addr) (vm₁ : Vm) (B : Pt), s.WarmedH vm₁ ∧ Stand p l e R s m args below meth c B.U B.locs B.cells B.slots ∧ PostX ⟨T.setVm vm₁, locs, cells, slots⟩ (Value.ref b :: argsL).toArray q B ∧
      Steps p.tables e below (T.setTop g) ((B.U.setTop { g with stack := rest }).pushFrame (.throwing q))) := by
  obtain ⟨mk, methM, hnamed, hmethM, hstM, habM⟩ := Cond.instanceMethod_spec hinst
  obtain ⟨methM', cM, hmethM', -, -, -, -, -, -, hsigM⟩ := Cond.code_spec hnamed hcode
  cases hmethM.symm.trans hmethM'
  obtain ⟨c2, r2, m2, q1, q2, q3, q4, kP, hkP, hkPi⟩ := Cond.selects_spec hsel
  cases hcls.symm.trans q1
  cases (State.methodFound?_of_named hnamed hy).symm.trans q2
  cases hnamed.symm.trans q3
  have hselP : selectMethod e.platform s.vm cellB.cls mk = .method mk := by rw [Launch.admits_selectMethod X.admits]; exact q4
  obtain ⟨vm₁, X₁, hstep₁⟩ := X.invokevirtual hexec hown hlink hnamed hmethM hstM hkP hkPi hy (a := b) (cell := cellB) hcell
    (fun z h => by rw [h] at hobj; cases hobj) hselP hmethM habM hkP hkPi (g := g) hg (argsL := argsL) (rest := rest) (hlen _ hsigM) hstack hdg
  rcases hK m meth c ⟨T.setVm vm₁, locs, cells, slots⟩ { g with stack := rest } (.invokevirtual index) mk (Value.ref b :: argsL).toArray X₁ hg hsize hdg hW (X₁.named hnamed) (hpre vm₁ X₁.warmed) with ⟨v, B, X', hpost, hsteps⟩ | ⟨q, B, X', hpost, hsteps⟩
  · exact Or.inl ⟨v, vm₁, B, X₁.warmed, X', hpost, fun target h => hstep₁ _ fun acts => by rw [doInvoke_state]; exact hsteps.trans h⟩
  · exact Or.inr ⟨q, vm₁, B, X₁.warmed, X', hpost, hstep₁ _ fun acts => by rw [doInvoke_state]; exact hsteps⟩
theorem vx_callS (X : Stand p l e R s m args below meth c T locs cells slots) (hexec : p.tables.exec = Jvm.exec) {own : String} {index : Nat} {y : MethodName} {bytes : ByteArray} {maxL : Nat} {ret : Option FieldType}
    (hown : s.vm.findClass own = some m.cls) (hlink : (Cond.methodLink own index y).before args s = true) (hstat : (Cond.static y).before args s = true) (hinit : (Cond.initialized y.cls).before args s = true)
    (hcode : (Cond.code y bytes maxL ret).before args s = true) (hy : y.cls ≠ "java/lang/invoke/MethodHandle" ∧ y.cls ≠ "java/lang/invoke/VarHandle")
    {W9 : Nat} {Pre : Pt → Array Value → Prop} {Post : Pt → Array Value → Option Value → Pt → Prop} {PostX : Pt → Array Value → Addr → Pt → Prop} (hK : vx_Back l R p e below s args y 3 W9 Pre Post PostX)
    {g : JFrame} (hg : g.method = m) (hsize : g.locals.size = c.maxLocals) {argsL rest : List Value} (hlen : ∀ sig, parseMethodDescriptor y.desc = some sig → argsL.length = sig.parameters.length)
    (hstack : g.stack = argsL.reverse ++ rest) (hW : 2 * g.monitorRoom + (rest.map fun v => v.category).sum ≤ W9) (hdg : decode c.code g.pc = .ok (.invokestatic index, 3))
    (hpre : ∀ vm₁, s.WarmedH vm₁ → Pre ⟨T.setVm vm₁, locs, cells, slots⟩ argsL.toArray) :
    (∃ (v : Option Value) (vm₁ : Vm) (B : Pt), s.WarmedH vm₁ ∧ Stand p l e R s m args below meth c B.U B.locs B.cells B.slots ∧ Post ⟨T.setVm vm₁, locs, cells, slots⟩ argsL.toArray v B ∧
      ∀ target, Steps p.tables e below (B.U.setTop { g with pc := g.pc + 3, stack := v.toList ++ rest }) target → Steps p.tables e below (T.setTop g) target) ∨
    (∃ (q : Addr) (vm₁ : Vm) (B : Pt), s.WarmedH vm₁ ∧ Stand p l e R s m args below meth c B.U B.locs B.cells B.slots ∧ PostX ⟨T.setVm vm₁, locs, cells, slots⟩ argsL.toArray q B ∧
      Steps p.tables e below (T.setTop g) ((B.U.setTop { g with stack := rest }).pushFrame (.throwing q))) := by
  obtain ⟨mk, hnamed⟩ := Cond.code_named hcode
  obtain ⟨methM, cM, hmethM, -, -, -, -, -, -, hsigM⟩ := Cond.code_spec hnamed hcode
  have hstatic : methM.isStatic = true := Cond.static_spec hnamed hmethM hstat
  obtain ⟨kP, hkP, -⟩ := className_of_methodNamed hnamed
  have hinitP : kP.init = .initialized := Cond.initialized_spec (findClass_of_methodNamed hnamed) hkP hinit
  obtain ⟨vm₁, X₁, hstep₁⟩ := X.invokestatic hexec hown hlink hnamed hmethM hstatic hkP hinitP hy (g := g) hg (argsL := argsL) (rest := rest) (hlen _ hsigM) hstack hdg
  rcases hK m meth c ⟨T.setVm vm₁, locs, cells, slots⟩ { g with stack := rest } (.invokestatic index) mk argsL.toArray X₁ hg hsize hdg hW (X₁.named hnamed) (hpre vm₁ X₁.warmed) with ⟨v, B, X', hpost, hsteps⟩ | ⟨q, B, X', hpost, hsteps⟩
  · exact Or.inl ⟨v, vm₁, B, X₁.warmed, X', hpost, fun target h => hstep₁ _ fun acts => by rw [doInvoke_state]; exact hsteps.trans h⟩
  · exact Or.inr ⟨q, vm₁, B, X₁.warmed, X', hpost, hstep₁ _ fun acts => by rw [doInvoke_state]; exact hsteps⟩
end Calls
theorem vx_cls {s : State} {T : State} {vm₁ : Vm} {E : String} {k : ClassId} (hW : s.WarmedH vm₁) (h : (T.setVm vm₁).vm.findClass E = some k) : s.vm.findClass E = some k := by
  have h1 : vm₁.findClass E = some k := h
  rw [hW.alike.findClass] at h1
  exact h1
/-- the method's frame g, with q thrown over it -/
def vx_W (p : Program) (l : Launch) (e : Env) (R : Room) (s : State) (m : MethodId) (args : Array Value) (below : List Frame) (meth : Method) (c : Code) (H : Heap) (locs : List Loc) (cells slots : Nat) (Q : State → Prop) (g : JFrame) (q : Addr) : Prop :=
  ∀ T : State, T.heap = H → Stand p l e R s m args below meth c T locs cells slots → ∃ t, Steps p.tables e below ((T.setTop g).pushFrame (.throwing q)) t ∧ Q t
def vx_Run (p : Program) (l : Launch) (e : Env) (R : Room) (s : State) (m : MethodId) (args : Array Value) (below : List Frame) (meth : Method) (c : Code) (H : Heap) (locs : List Loc) (cells slots mc ms : Nat) (g : JFrame) (rest : List Value) (Qa : State → Outcome → State → Prop) (XC : String → State → State → Prop) (free : Addr → Prop) : Prop :=
  ∀ T : State, T.heap = H → Stand p l e R s m args below meth c T locs cells slots →
    (∃ (v : Option Value) (st₀ t T' : State) (L : List Loc), st₀.heap = H ∧ Stand p l e R s m args below meth c T' (locs ++ L) (cells + mc) (slots + ms) ∧ (∀ q ∈ L, free q.base) ∧ T'.heap = t.heap ∧ T'.vm = t.vm ∧ Qa st₀ (.returned v) t ∧
      Goes p e below T g T' { g with pc := g.pc + 3, stack := v.toList ++ rest }) ∨
    (∃ (q : Addr) (st₀ t T' : State) (L : List Loc) (E : String) (ce : Cell), st₀.heap = H ∧ Stand p l e R s m args below meth c T' (locs ++ L) (cells + mc) (slots + ms) ∧ (∀ z ∈ L, free z.base) ∧ T'.heap = t.heap ∧ T'.vm = t.vm ∧ XC E st₀ t ∧ t.heap[q]? = some ce ∧ ce.vm = .none ∧ s.vm.findClass E = some ce.cls ∧
      Steps p.tables e below (T.setTop g) ((T'.setTop { g with stack := rest }).pushFrame (.throwing q)))
def vx_X {S : Type} (px : S → Prop) (B : String → S → State → Prop) (A : Nat → Prop) : String → State → State → Prop := fun E st t => ∃ u : S, px u ∧ B E u t ∧ va_F A st t
section Runs
variable {p : Program} {l : Launch} {e : Env} {R : Room} {s : State} {m : MethodId} {args : Array Value} {below : List Frame} {meth : Method} {c : Code} {H : Heap} {locs : List Loc} {cells slots : Nat}
variable {y : MethodName} {bytes cc : ByteArray} {maxL nL mc ms n index : Nat} {ret : Option FieldType} {ws : List Cond} {rm : Room} {Pc : Array Value → State → Prop} {Qc : Array Value → State → Outcome → State → Prop} {XC : String → State → State → Prop} {free : Addr → Prop} {Ts : List Cond} {own C : String} {b : Addr} {As rest : List Value} {g : JFrame}
theorem vx_callBack (cb : CallB R s args own index y bytes maxL ret ws rm mc ms n) (hM : vx_Met l y ws rm Pc Qc XC mc ms free) (hbl : FrameBlind Pc) : vx_Back l R p e below s args y 3 8 (PreOf R mc ms Pc) (PostOf Qc mc ms free) (vx_Post XC mc ms free) := by
  obtain ⟨hrc, hrs, hfr, hlo, hws, hcw, -, hini, -⟩ := cb
  exact vx_back (bytes := bytes) (maxL := maxL) (ret := ret) hM hbl hrc hrs hfr hlo hws hcw (fun a' U hW => word_at hW (Or.inl (by first | rfl | simp [Cond.onTables, Cond.keeps, Cond.steady])) hini)
theorem vx_runV (S : CallFix p m c cc nL s args Ts own) (hM : vx_Met l y ws rm Pc Qc XC mc ms free) (cw : CallW R s args own C index y bytes maxL ret ws rm mc ms n) (hp : PreV s H C b Pc As)
    (hg : g.method = m) (hn : As.length = n) (hsize : g.locals.size = nL) (hstack : g.stack = As.reverse ++ .ref b :: rest) (hW : 2 * g.monitorRoom + (rest.map fun v => v.category).sum ≤ 8) (hdg : decode cc g.pc = .ok (.invokevirtual index, 3)) (hf : cells + mc ≤ R.cells ∧ slots + ms ≤ R.slots) :
    vx_Run p l e R s m args below meth c H locs cells slots mc ms g rest (Qc (Value.ref b :: As).toArray) XC free := by
  have hK : vx_Back l R p e below s args y 3 8 (PreOf R mc ms Pc) (PostOf Qc mc ms free) (vx_Post XC mc ms free) := vx_callBack cw.1 hM hp.1
  obtain ⟨⟨-, -, -, -, -, -, hcode, -, hy, hlen, hl⟩, hin, hse⟩ := cw
  obtain ⟨hx, hb, hml, ho, -⟩ := S
  obtain ⟨-, ⟨cellB, hcB, hoB, hclB⟩, hPc⟩ := hp
  intro T hT X
  rcases vx_callV X hx (C := C) (bytes := bytes) (maxL := maxL) (ret := ret) ho hl hin hse hcode hy hK (by rw [hT]; exact hcB) hoB hclB hg (hsize.trans hml.symm) (argsL := As) (rest := rest) (fun sig h => hn.trans (hlen sig h)) hstack hW (by rw [hb]; exact hdg)
    (fun vm₁ hW₁ => ⟨hf.1, hf.2, hPc (T.setVm vm₁) hT hW₁⟩) with ⟨v, vm₁, ⟨U', l2, c2, s2⟩, hW₁, X', ⟨g', mk, t, L, e1, e2, hq, h1, hL, h2, h3⟩, st⟩ | ⟨q, vm₁, ⟨U', l2, c2, s2⟩, hW₁, X', ⟨g', mk, t, L, E, ce, e1, e2, hq, hce, hcv, hcl, h1, hL, h2, h3⟩, st⟩
  · dsimp only [Pt.U, Pt.locs, Pt.cells, Pt.slots] at X' e1 e2 h1 h2 h3 st
    subst h1; subst h2; subst h3
    exact Or.inl ⟨v, (T.setVm vm₁).calling g' mk (Value.ref b :: As).toArray, t, U', L, hT, X', hL, e1, e2, hq, st⟩
  · dsimp only [Pt.U, Pt.locs, Pt.cells, Pt.slots] at X' e1 e2 h1 h2 h3 st hcl
    subst h1; subst h2; subst h3
    exact Or.inr ⟨q, (T.setVm vm₁).calling g' mk (Value.ref b :: As).toArray, t, U', L, E, ce, hT, X', hL, e1, e2, hq, hce, hcv, vx_cls hW₁ hcl, st⟩
theorem vx_runS (S : CallFix p m c cc nL s args Ts own) (hM : vx_Met l y ws rm Pc Qc XC mc ms free) (cw : CallB R s args own index y bytes maxL ret ws rm mc ms n ∧ (Cond.static y).before args s = true) (hp : PreS s H Pc As)
    (hg : g.method = m) (hn : As.length = n) (hsize : g.locals.size = nL) (hstack : g.stack = As.reverse ++ rest) (hW : 2 * g.monitorRoom + (rest.map fun v => v.category).sum ≤ 8) (hdg : decode cc g.pc = .ok (.invokestatic index, 3)) (hf : cells + mc ≤ R.cells ∧ slots + ms ≤ R.slots) :
    vx_Run p l e R s m args below meth c H locs cells slots mc ms g rest (Qc As.toArray) XC free := by
  have hK : vx_Back l R p e below s args y 3 8 (PreOf R mc ms Pc) (PostOf Qc mc ms free) (vx_Post XC mc ms free) := vx_callBack cw.1 hM hp.1
  obtain ⟨⟨-, -, -, -, -, -, hcode, hini, hy, hlen, hl⟩, hstt⟩ := cw
  obtain ⟨hx, hb, hml, ho, -⟩ := S
  intro T hT X
  rcases vx_callS X hx (bytes := bytes) (maxL := maxL) (ret := ret) ho hl hstt hini hcode hy hK hg (hsize.trans hml.symm) (argsL := As) (rest := rest) (fun sig h => hn.trans (hlen sig h)) hstack hW (by rw [hb]; exact hdg)
    (fun vm₁ hW₁ => ⟨hf.1, hf.2, hp.2 (T.setVm vm₁) hT hW₁⟩) with ⟨v, vm₁, ⟨U', l2, c2, s2⟩, hW₁, X', ⟨g', mk, t, L, e1, e2, hq, h1, hL, h2, h3⟩, st⟩ | ⟨q, vm₁, ⟨U', l2, c2, s2⟩, hW₁, X', ⟨g', mk, t, L, E, ce, e1, e2, hq, hce, hcv, hcl, h1, hL, h2, h3⟩, st⟩
  · dsimp only [Pt.U, Pt.locs, Pt.cells, Pt.slots] at X' e1 e2 h1 h2 h3 st
    subst h1; subst h2; subst h3
    exact Or.inl ⟨v, (T.setVm vm₁).calling g' mk As.toArray, t, U', L, hT, X', hL, e1, e2, hq, st⟩
  · dsimp only [Pt.U, Pt.locs, Pt.cells, Pt.slots] at X' e1 e2 h1 h2 h3 st hcl
    subst h1; subst h2; subst h3
    exact Or.inr ⟨q, (T.setVm vm₁).calling g' mk As.toArray, t, U', L, E, ce, hT, X', hL, e1, e2, hq, hce, hcv, vx_cls hW₁ hcl, st⟩
end Runs
section Rows
variable {p : Program} {l : Launch} {e : Env} {R : Room} {s : State} {m : MethodId} {args : Array Value} {below : List Frame} {meth : Method} {c : Code} {H : Heap} {locs : List Loc} {cells slots : Nat} {Q : State → Prop}
variable {mc ms : Nat} {free : Addr → Prop} {A0 A1 : Nat → Prop} {H0 : Heap} {a : Array Value} {pc : Nat} {ls : Array Slot} {st0 rest : List Value}
theorem vx_keep {st₀ t T' : State} {L : List Loc} (h0 : st₀.heap = H) (e1 : T'.heap = t.heap) (hS : va_S A0 H0 H locs) (hA : ∀ q, q < H.size → A1 q → A0 q) (hf : ∀ q, free q → A0 q) (hL : ∀ q ∈ L, free q.base) (hF : va_F A1 st₀ t) :
    H.size ≤ T'.heap.size ∧ (∀ q : Nat, q < H.size → ¬ A1 q → T'.heap[q]? = H[q]?) ∧ va_S A0 H0 T'.heap (locs ++ L) := by
  obtain ⟨hz, hk⟩ := hF
  rw [h0] at hz hk
  exact ⟨by rw [e1]; exact hz, fun q h1 h2 => by rw [e1]; exact hk q h1 h2,
    ⟨Nat.le_trans hS.1 (by rw [e1]; exact hz), fun q h1 h2 => by rw [e1, hk q (Nat.lt_of_lt_of_le h1 hS.1) (fun z => h2 (hA q (Nat.lt_of_lt_of_le h1 hS.1) z))]; exact hS.2.1 q h1 h2, fun q hq => by
      rcases List.mem_append.mp hq with h | h
      · exact hS.2.2 q h
      · exact hf _ (hL q h)⟩⟩
theorem vx_calli {S SX : Type} {post : Int32 → S → Prop} {px : SX → Prop} {B : S → State → Prop} {BX : String → SX → State → Prop} {AX : Nat → Prop} (hr : vx_Run p l e R s m args below meth c H locs cells slots mc ms (F0 m pc ls st0) rest (va_Qi post B A1 a) (vx_X px BX AX) free) (hS : va_S A0 H0 H locs) (hA : ∀ q, q < H.size → A1 q → A0 q) (hf : ∀ q, free q → A0 q) (hAX : ∀ q, q < H.size → AX q → A0 q)
    (kx : ∀ (E : String) (ce : Cell) (q9 : Addr) (u : SX) (t : State) (H1 : Heap) (locs1 : List Loc), t.heap = H1 → s.vm.Alike t.vm → px u → BX E u t → H.size ≤ H1.size → (∀ q : Nat, q < H.size → ¬ AX q → H1[q]? = H[q]?) → va_S A0 H0 H1 locs1 → H1[q9]? = some ce → ce.vm = .none → s.vm.findClass E = some ce.cls → vx_W p l e R s m args below meth c H1 locs1 (cells + mc) (slots + ms) Q (F0 m pc ls rest) q9)
    (kk : ∀ (r : Int32) (u : S) (t : State) (H1 : Heap) (locs1 : List Loc), t.heap = H1 → s.vm.Alike t.vm → post r u → B u t → H.size ≤ H1.size → (∀ q : Nat, q < H.size → ¬ A1 q → H1[q]? = H[q]?) → va_S A0 H0 H1 locs1 → W p l e R s m args below meth c H1 locs1 (cells + mc) (slots + ms) Q (F0 m (pc + 3) ls (.int r :: rest))) : W p l e R s m args below meth c H locs cells slots Q (F0 m pc ls st0) := by
  intro T hT X
  rcases hr T hT X with ⟨v, st₀, t, T', L, h0, X', hL, e1, e2, ⟨⟨r, u, hv, hp, hb⟩, hF⟩, st⟩ | ⟨q, st₀, t, T', L, E, ce, h0, X', hL, e1, e2, ⟨u, hp, hb, hF⟩, hce, hcv, hcl, st⟩
  · cases hv
    obtain ⟨k1, k2, k3⟩ := vx_keep h0 e1 hS hA hf hL hF
    obtain ⟨t2, a1, b1⟩ := kk r u t T'.heap (locs ++ L) e1.symm (by rw [← e2]; exact X'.warmed.alike) hp hb k1 k2 k3 T' rfl X'
    exact ⟨t2, st t2 a1, b1⟩
  · obtain ⟨k1, k2, k3⟩ := vx_keep h0 e1 hS hAX hf hL hF
    obtain ⟨t2, a1, b1⟩ := kx E ce q u t T'.heap (locs ++ L) e1.symm (by rw [← e2]; exact X'.warmed.alike) hp hb k1 k2 k3 (by rw [e1]; exact hce) hcv hcl T' rfl X'
    exact ⟨t2, st.trans a1, b1⟩
theorem vx_calll {S SX : Type} {post : Int64 → S → Prop} {px : SX → Prop} {B : S → State → Prop} {BX : String → SX → State → Prop} {AX : Nat → Prop} (hr : vx_Run p l e R s m args below meth c H locs cells slots mc ms (F0 m pc ls st0) rest (va_Ql post B A1 a) (vx_X px BX AX) free) (hS : va_S A0 H0 H locs) (hA : ∀ q, q < H.size → A1 q → A0 q) (hf : ∀ q, free q → A0 q) (hAX : ∀ q, q < H.size → AX q → A0 q)
    (kx : ∀ (E : String) (ce : Cell) (q9 : Addr) (u : SX) (t : State) (H1 : Heap) (locs1 : List Loc), t.heap = H1 → s.vm.Alike t.vm → px u → BX E u t → H.size ≤ H1.size → (∀ q : Nat, q < H.size → ¬ AX q → H1[q]? = H[q]?) → va_S A0 H0 H1 locs1 → H1[q9]? = some ce → ce.vm = .none → s.vm.findClass E = some ce.cls → vx_W p l e R s m args below meth c H1 locs1 (cells + mc) (slots + ms) Q (F0 m pc ls rest) q9)
    (kk : ∀ (r : Int64) (u : S) (t : State) (H1 : Heap) (locs1 : List Loc), t.heap = H1 → s.vm.Alike t.vm → post r u → B u t → H.size ≤ H1.size → (∀ q : Nat, q < H.size → ¬ A1 q → H1[q]? = H[q]?) → va_S A0 H0 H1 locs1 → W p l e R s m args below meth c H1 locs1 (cells + mc) (slots + ms) Q (F0 m (pc + 3) ls (.long r :: rest))) : W p l e R s m args below meth c H locs cells slots Q (F0 m pc ls st0) := by
  intro T hT X
  rcases hr T hT X with ⟨v, st₀, t, T', L, h0, X', hL, e1, e2, ⟨⟨r, u, hv, hp, hb⟩, hF⟩, st⟩ | ⟨q, st₀, t, T', L, E, ce, h0, X', hL, e1, e2, ⟨u, hp, hb, hF⟩, hce, hcv, hcl, st⟩
  · cases hv
    obtain ⟨k1, k2, k3⟩ := vx_keep h0 e1 hS hA hf hL hF
    obtain ⟨t2, a1, b1⟩ := kk r u t T'.heap (locs ++ L) e1.symm (by rw [← e2]; exact X'.warmed.alike) hp hb k1 k2 k3 T' rfl X'
    exact ⟨t2, st t2 a1, b1⟩
  · obtain ⟨k1, k2, k3⟩ := vx_keep h0 e1 hS hAX hf hL hF
    obtain ⟨t2, a1, b1⟩ := kx E ce q u t T'.heap (locs ++ L) e1.symm (by rw [← e2]; exact X'.warmed.alike) hp hb k1 k2 k3 (by rw [e1]; exact hce) hcv hcl T' rfl X'
    exact ⟨t2, st.trans a1, b1⟩
theorem vx_callf {S SX : Type} {post : UInt32 → S → Prop} {px : SX → Prop} {B : S → State → Prop} {BX : String → SX → State → Prop} {AX : Nat → Prop} (hr : vx_Run p l e R s m args below meth c H locs cells slots mc ms (F0 m pc ls st0) rest (va_Qf post B A1 a) (vx_X px BX AX) free) (hS : va_S A0 H0 H locs) (hA : ∀ q, q < H.size → A1 q → A0 q) (hf : ∀ q, free q → A0 q) (hAX : ∀ q, q < H.size → AX q → A0 q)
    (kx : ∀ (E : String) (ce : Cell) (q9 : Addr) (u : SX) (t : State) (H1 : Heap) (locs1 : List Loc), t.heap = H1 → s.vm.Alike t.vm → px u → BX E u t → H.size ≤ H1.size → (∀ q : Nat, q < H.size → ¬ AX q → H1[q]? = H[q]?) → va_S A0 H0 H1 locs1 → H1[q9]? = some ce → ce.vm = .none → s.vm.findClass E = some ce.cls → vx_W p l e R s m args below meth c H1 locs1 (cells + mc) (slots + ms) Q (F0 m pc ls rest) q9)
    (kk : ∀ (r : UInt32) (u : S) (t : State) (H1 : Heap) (locs1 : List Loc), t.heap = H1 → s.vm.Alike t.vm → post r u → B u t → H.size ≤ H1.size → (∀ q : Nat, q < H.size → ¬ A1 q → H1[q]? = H[q]?) → va_S A0 H0 H1 locs1 → W p l e R s m args below meth c H1 locs1 (cells + mc) (slots + ms) Q (F0 m (pc + 3) ls (.float r :: rest))) : W p l e R s m args below meth c H locs cells slots Q (F0 m pc ls st0) := by
  intro T hT X
  rcases hr T hT X with ⟨v, st₀, t, T', L, h0, X', hL, e1, e2, ⟨⟨r, u, hv, hp, hb⟩, hF⟩, st⟩ | ⟨q, st₀, t, T', L, E, ce, h0, X', hL, e1, e2, ⟨u, hp, hb, hF⟩, hce, hcv, hcl, st⟩
  · cases hv
    obtain ⟨k1, k2, k3⟩ := vx_keep h0 e1 hS hA hf hL hF
    obtain ⟨t2, a1, b1⟩ := kk r u t T'.heap (locs ++ L) e1.symm (by rw [← e2]; exact X'.warmed.alike) hp hb k1 k2 k3 T' rfl X'
    exact ⟨t2, st t2 a1, b1⟩
  · obtain ⟨k1, k2, k3⟩ := vx_keep h0 e1 hS hAX hf hL hF
    obtain ⟨t2, a1, b1⟩ := kx E ce q u t T'.heap (locs ++ L) e1.symm (by rw [← e2]; exact X'.warmed.alike) hp hb k1 k2 k3 (by rw [e1]; exact hce) hcv hcl T' rfl X'
    exact ⟨t2, st.trans a1, b1⟩
theorem vx_calld {S SX : Type} {post : UInt64 → S → Prop} {px : SX → Prop} {B : S → State → Prop} {BX : String → SX → State → Prop} {AX : Nat → Prop} (hr : vx_Run p l e R s m args below meth c H locs cells slots mc ms (F0 m pc ls st0) rest (va_Qd post B A1 a) (vx_X px BX AX) free) (hS : va_S A0 H0 H locs) (hA : ∀ q, q < H.size → A1 q → A0 q) (hf : ∀ q, free q → A0 q) (hAX : ∀ q, q < H.size → AX q → A0 q)
    (kx : ∀ (E : String) (ce : Cell) (q9 : Addr) (u : SX) (t : State) (H1 : Heap) (locs1 : List Loc), t.heap = H1 → s.vm.Alike t.vm → px u → BX E u t → H.size ≤ H1.size → (∀ q : Nat, q < H.size → ¬ AX q → H1[q]? = H[q]?) → va_S A0 H0 H1 locs1 → H1[q9]? = some ce → ce.vm = .none → s.vm.findClass E = some ce.cls → vx_W p l e R s m args below meth c H1 locs1 (cells + mc) (slots + ms) Q (F0 m pc ls rest) q9)
    (kk : ∀ (r : UInt64) (u : S) (t : State) (H1 : Heap) (locs1 : List Loc), t.heap = H1 → s.vm.Alike t.vm → post r u → B u t → H.size ≤ H1.size → (∀ q : Nat, q < H.size → ¬ A1 q → H1[q]? = H[q]?) → va_S A0 H0 H1 locs1 → W p l e R s m args below meth c H1 locs1 (cells + mc) (slots + ms) Q (F0 m (pc + 3) ls (.double r :: rest))) : W p l e R s m args below meth c H locs cells slots Q (F0 m pc ls st0) := by
  intro T hT X
  rcases hr T hT X with ⟨v, st₀, t, T', L, h0, X', hL, e1, e2, ⟨⟨r, u, hv, hp, hb⟩, hF⟩, st⟩ | ⟨q, st₀, t, T', L, E, ce, h0, X', hL, e1, e2, ⟨u, hp, hb, hF⟩, hce, hcv, hcl, st⟩
  · cases hv
    obtain ⟨k1, k2, k3⟩ := vx_keep h0 e1 hS hA hf hL hF
    obtain ⟨t2, a1, b1⟩ := kk r u t T'.heap (locs ++ L) e1.symm (by rw [← e2]; exact X'.warmed.alike) hp hb k1 k2 k3 T' rfl X'
    exact ⟨t2, st t2 a1, b1⟩
  · obtain ⟨k1, k2, k3⟩ := vx_keep h0 e1 hS hAX hf hL hF
    obtain ⟨t2, a1, b1⟩ := kx E ce q u t T'.heap (locs ++ L) e1.symm (by rw [← e2]; exact X'.warmed.alike) hp hb k1 k2 k3 (by rw [e1]; exact hce) hcv hcl T' rfl X'
    exact ⟨t2, st.trans a1, b1⟩
theorem vx_callv {S SX : Type} {post : S → Prop} {px : SX → Prop} {B : S → State → Prop} {BX : String → SX → State → Prop} {AX : Nat → Prop} (hr : vx_Run p l e R s m args below meth c H locs cells slots mc ms (F0 m pc ls st0) rest (va_Qv post B A1 a) (vx_X px BX AX) free) (hS : va_S A0 H0 H locs) (hA : ∀ q, q < H.size → A1 q → A0 q) (hf : ∀ q, free q → A0 q) (hAX : ∀ q, q < H.size → AX q → A0 q)
    (kx : ∀ (E : String) (ce : Cell) (q9 : Addr) (u : SX) (t : State) (H1 : Heap) (locs1 : List Loc), t.heap = H1 → s.vm.Alike t.vm → px u → BX E u t → H.size ≤ H1.size → (∀ q : Nat, q < H.size → ¬ AX q → H1[q]? = H[q]?) → va_S A0 H0 H1 locs1 → H1[q9]? = some ce → ce.vm = .none → s.vm.findClass E = some ce.cls → vx_W p l e R s m args below meth c H1 locs1 (cells + mc) (slots + ms) Q (F0 m pc ls rest) q9)
    (kk : ∀ (u : S) (t : State) (H1 : Heap) (locs1 : List Loc), t.heap = H1 → s.vm.Alike t.vm → post u → B u t → H.size ≤ H1.size → (∀ q : Nat, q < H.size → ¬ A1 q → H1[q]? = H[q]?) → va_S A0 H0 H1 locs1 → W p l e R s m args below meth c H1 locs1 (cells + mc) (slots + ms) Q (F0 m (pc + 3) ls (rest))) : W p l e R s m args below meth c H locs cells slots Q (F0 m pc ls st0) := by
  intro T hT X
  rcases hr T hT X with ⟨v, st₀, t, T', L, h0, X', hL, e1, e2, ⟨⟨u, hv, hp, hb⟩, hF⟩, st⟩ | ⟨q, st₀, t, T', L, E, ce, h0, X', hL, e1, e2, ⟨u, hp, hb, hF⟩, hce, hcv, hcl, st⟩
  · cases hv
    obtain ⟨k1, k2, k3⟩ := vx_keep h0 e1 hS hA hf hL hF
    obtain ⟨t2, a1, b1⟩ := kk u t T'.heap (locs ++ L) e1.symm (by rw [← e2]; exact X'.warmed.alike) hp hb k1 k2 k3 T' rfl X'
    exact ⟨t2, st t2 a1, b1⟩
  · obtain ⟨k1, k2, k3⟩ := vx_keep h0 e1 hS hAX hf hL hF
    obtain ⟨t2, a1, b1⟩ := kx E ce q u t T'.heap (locs ++ L) e1.symm (by rw [← e2]; exact X'.warmed.alike) hp hb k1 k2 k3 (by rw [e1]; exact hce) hcv hcl T' rfl X'
    exact ⟨t2, st.trans a1, b1⟩
/-- caught by the row x of this method's table; the rows ahead don't take it -/
theorem vx_catch {own name : String} {E : String} {ce : Cell} {q : Addr} (hown : s.vm.findClass own = some m.cls) (pre : List ExceptionTableEntry) (x : ExceptionTableEntry) (suf : List ExceptionTableEntry) (hsplit : c.exceptionTable.toList = pre ++ x :: suf)
    (hpass : ∀ z ∈ pre, covers z pc = false ∨ (z.catchType ≠ 0 ∧ ∃ nm : String, (Cond.classLink own z.catchType nm).before args s = true ∧ va_Nc E nm s)) (hx : covers x pc = true) (h0 : x.catchType ≠ 0)
    (hlink : (Cond.classLink own x.catchType name).before args s = true) (hcast : (Cond.castable E name).before args s = true) (hcell : H[q]? = some ce) (hv : ce.vm = .none) (hcl : s.vm.findClass E = some ce.cls)
    (kk : W p l e R s m args below meth c H locs cells slots Q (F0 m x.handlerPc ls [.ref q])) : vx_W p l e R s m args below meth c H locs cells slots Q (F0 m pc ls rest) q := by
  intro T hT X
  have hpl : e.platform.magicAccessors = ({} : Platform).magicAccessors := by rw [X.admits.platform]
  obtain ⟨c3, c4, hc3, hc4, hasg⟩ := Cond.castable_spec hcast
  cases Option.some.inj (hc3.symm.trans hcl)
  obtain ⟨c5, hc5, hcl5⟩ := Cond.classLink_spec hown hlink e.platform hpl
  cases Option.some.inj (hc4.symm.trans hc5)
  obtain ⟨vm', X', st⟩ := X.thenCaughtThrough q (g := F0 m pc ls rest) rfl (Steps.refl _) (by rw [hT]; exact hcell) (by rw [hv]; rfl) (by obtain ⟨k9, h9, -⟩ := Vm.findClass_spec hcl; exact ⟨k9, h9⟩) pre x suf hsplit
    (fun z hz => by
      rcases hpass z hz with h | ⟨hz0, nm, hl1, hn1⟩
      · exact Or.inl h
      · obtain ⟨c6, hc6, hcl6⟩ := Cond.classLink_spec hown hl1 e.platform hpl
        obtain ⟨a8, b8, h1, h2, h3⟩ := hn1
        cases Option.some.inj (h1.symm.trans hcl)
        cases Option.some.inj (h2.symm.trans hc6)
        exact Or.inr ⟨hz0, _, hcl6, h3⟩) hx (Or.inr ⟨h0, c4, hcl5, hasg⟩)
  obtain ⟨t, a1, b1⟩ := kk (T.setVm vm') hT X'
  exact ⟨t, st.trans a1, b1⟩
end Rows
section Ends
variable {p : Program} {l : Launch} {e : Env} {R : Room} {s : State} {m : MethodId} {args : Array Value} {below : List Frame} {meth : Method} {c : Code} {H : Heap} {locs : List Loc} {cells slots : Nat} {Q : State → Prop}
variable {mc ms : Nat} {free : Addr → Prop} {A0 A1 : Nat → Prop} {H0 : Heap} {a : Array Value} {ls : Array Slot} {st0 rest : List Value}
variable {Qc : Array Value → State → Outcome → State → Prop} {XC : String → State → State → Prop}
/-- what a body that may throw owes at its end -/
def vx_MQ (below : List Frame) (Qc : Array Value → State → Outcome → State → Prop) (XC : String → State → State → Prop) (a : Array Value) (s : State) (mc ms : Nat) (free : Addr → Prop) : State → Prop := fun t =>
  ∃ o, t.status = .running ∧ Ended t below o ∧ vx_Q Qc XC mc ms free a s o t
theorem vx_ret {g : JFrame} {mc ms : Nat} (k : W p l e R s m args below meth c H locs cells slots (MQ below Qc args s mc ms free) g) : W p l e R s m args below meth c H locs cells slots (vx_MQ below Qc XC args s mc ms free) g := by
  intro T hT X
  obtain ⟨t, a1, o, b1, b2, b3, b4⟩ := k T hT X
  exact ⟨t, a1, o, b1, b2, Or.inl ⟨b3, b4⟩⟩
/-- not caught here: it goes on to the caller -/
theorem vx_widen {g : JFrame} {q : Addr} {k n : Nat} (h1 : cells ≤ k) (h2 : slots ≤ n) (kk : vx_W p l e R s m args below meth c H locs k n Q g q) : vx_W p l e R s m args below meth c H locs cells slots Q g q := fun T hT X => kk T hT (stand_widen X h1 h2)
theorem vx_out {pc : Nat} {E : String} {ce : Cell} {q : Addr} {mc ms : Nat} (hout : ∀ x ∈ c.exceptionTable.toList, covers x pc = false) (hlocks : meth.locks = false) (hcell : H[q]? = some ce) (hv : ce.vm = .none) (hcl : s.vm.findClass E = some ce.cls)
    (hx : ∀ t : State, t.heap = H → s.vm.Alike t.vm → XC E s t) (hf : ∀ z ∈ locs, free z.base) (hc : cells ≤ mc) (hs : slots ≤ ms) :
    vx_W p l e R s m args below meth c H locs cells slots (vx_MQ below Qc XC args s mc ms free) (F0 m pc ls rest) q := by
  intro T hT X
  obtain ⟨st1, hrun, hend, hW, hsm⟩ := X.leaveThrown q (g := F0 m pc ls rest) rfl rfl rfl hout hlocks
  have hcell9 : (T.setFrames (.throwing q :: below)).heap[q]? = some ce := by
    show T.heap[q]? = some ce
    rw [hT]; exact hcell
  exact ⟨_, st1, .threw q, hrun, hend, Or.inr ⟨q, rfl, E, ce, locs, hx _ hT hW.alike, hcell9, hv, hcl, hW, hsm.mono hc hs, hf⟩⟩
theorem vx_frame {U : State} {k n : Nat} (h : s.sameButNew ({ U with vm := s.vm } : State) locs k n) : s.heap.size ≤ U.heap.size ∧ ∀ q : Nat, q < s.heap.size → (∀ z ∈ locs, z.base ≠ q) → U.heap[q]? = s.heap[q]? := by
  obtain ⟨-, h2, -, -, -, h6⟩ := h
  refine ⟨h2, fun q hq hz => ?_⟩
  obtain ⟨c9, e1, e2, e3, e4⟩ := h6 q _ (Array.getElem?_eq_getElem hq)
  have hs : c9.slots = (s.heap[q]).slots := Array.ext_getElem? fun i => e4 i fun hm => hz _ hm rfl
  have h9 : c9 = s.heap[q] := by
    rw [hs] at e2
    exact e2
  have e5 : U.heap[q]? = some c9 := e1
  rw [e5, h9, Array.getElem?_eq_getElem hq]
/-- the words of a throw but the four that speak of the heap -/
def vx_no (w : Cond) : Bool := decide (w ≠ .isRef (.static Bundle.tN "UNASSIGNED_STACK" Bundle.steD)) && decide (w ≠ .isRef (.static Bundle.tN "SUPPRESSED_SENTINEL" Bundle.listD)) && decide (w ≠ .laysStatic Bundle.tN "UNASSIGNED_STACK" Bundle.steD) && decide (w ≠ .laysStatic Bundle.tN "SUPPRESSED_SENTINEL" Bundle.listD)
def vx_at0 (own : String) (ic : Nat) (X : String) (names : List String) : List Cond := (Bundle.ownAtoms0 own ic X names).filter vx_no
def vx_atS (own : String) (ic : Nat) (X : String) (names : List String) : List Cond := (Bundle.ownAtoms own ic X names).filter vx_no
/-- a word that the tables alone decide, or a good one -/
def vx_ot (w : Cond) : Bool := w.onTables || goodWord w
theorem vx_ot_at {args a' : Array Value} {s U : State} {w : Cond} (hW : s.WarmedH U.vm) (hvm : s.vm = U.vm) (hg : vx_ot w = true) (h : w.before args s = true) : w.before a' U = true := by
  simp only [vx_ot, Bool.or_eq_true] at hg
  rcases hg with hg | hg
  · exact va_tabs hg hvm h
  · exact word_at hW (good_of_word hg) h
/-- a list's words: the good ones out of the method's own list, the others by premises of their own -/
theorem vx_hat {args : Array Value} {s : State} {L B : List Cond} (h1 : ∀ w ∈ L.filter goodWord, w.before args s = true) (h2 : ∀ w ∈ L.filter (fun w => !goodWord w), w ∈ B) (h3 : ∀ w ∈ B, w.before args s = true) : ∀ w ∈ L, w.before args s = true := by
  intro w hw
  by_cases g : goodWord w = true
  · exact h1 w (List.mem_filter.mpr ⟨hw, g⟩)
  · refine h3 w (h2 w (List.mem_filter.mpr ⟨hw, ?_⟩))
    show (!goodWord w) = true
    cases hgw : goodWord w
    · rfl
    · exact absurd hgw g
theorem vx_c {args : Array Value} {s : State} {w : Cond} {B : List Cond} (h : w.before args s = true) (t : ∀ w ∈ B, w.before args s = true) : ∀ w' ∈ w :: B, w'.before args s = true := fun w' h' => (List.mem_cons.mp h').elim (fun e => by rw [e]; exact h) (t w')
theorem vx_n {args : Array Value} {s : State} : ∀ w ∈ ([] : List Cond), w.before args s = true := fun _ h => nomatch h
theorem vx_own {args : Array Value} {s : State} {L : List Cond} (h1 : ∀ w ∈ L.filter vx_no, w.before args s = true)
    (hU : (Cond.isRef (.static Bundle.tN "UNASSIGNED_STACK" Bundle.steD)).before args s = true) (hN : (Cond.isRef (.static Bundle.tN "SUPPRESSED_SENTINEL" Bundle.listD)).before args s = true)
    (lU : (Cond.laysStatic Bundle.tN "UNASSIGNED_STACK" Bundle.steD).before args s = true) (lN : (Cond.laysStatic Bundle.tN "SUPPRESSED_SENTINEL" Bundle.listD).before args s = true) : ∀ w ∈ L, w.before args s = true := by
  intro w hw
  by_cases e1 : w = .isRef (.static Bundle.tN "UNASSIGNED_STACK" Bundle.steD)
  · rw [e1]; exact hU
  · by_cases e2 : w = .isRef (.static Bundle.tN "SUPPRESSED_SENTINEL" Bundle.listD)
    · rw [e2]; exact hN
    · by_cases e3 : w = .laysStatic Bundle.tN "UNASSIGNED_STACK" Bundle.steD
      · rw [e3]; exact lU
      · by_cases e4 : w = .laysStatic Bundle.tN "SUPPRESSED_SENTINEL" Bundle.listD
        · rw [e4]; exact lN
        · exact h1 w (List.mem_filter.mpr ⟨hw, by unfold vx_no; rw [decide_eq_true e1, decide_eq_true e2, decide_eq_true e3, decide_eq_true e4]; rfl⟩)
/-- where a static field lies, its class's statics cell in H -/
def vx_L (C n d : String) (A : Nat → Prop) (U : State) (H : Heap) : Prop := ∃ (c : ClassId) (k : Class) (i : Nat) (f : Field) (a : Nat) (cell : Cell), U.vm.findClass C = some c ∧ U.fieldFound? C n d = some (c, k, i, f) ∧ f.isStatic = true ∧ k.statics = some a ∧ H[a]? = some cell ∧ cell.vm.isStatics = true ∧ cell.cls = c ∧ f.slot < cell.slots.size ∧ k.staticTypes[f.slot]? = some f.type ∧ ¬ A a
theorem vx_L.moved {C n d : String} {A : Nat → Prop} {u U : State} {H : Heap} (hvm : u.vm.Alike U.vm) (h : vx_L C n d A u H) : vx_L C n d A U H := by
  obtain ⟨c, k, i, f, a, cell, h1, h2, h3, h4, h5, h6, h7, h8, h9, h10⟩ := h
  obtain ⟨k', hi', he⟩ := State.fieldFound?_setVm hvm h2
  exact ⟨c, k', i, f, a, cell, by rw [hvm.findClass]; exact h1, hi', h3, by rw [he]; exact h4, h5, h6, h7, h8, by rw [he]; exact h9, h10⟩
theorem vx_L.kept {C n d : String} {A : Nat → Prop} {U : State} {H H1 : Heap} (h : vx_L C n d A U H) (hq : ∀ a : Nat, a < H.size → ¬ A a → H1[a]? = H[a]?) : vx_L C n d A U H1 := by
  obtain ⟨c, k, i, f, a, cell, h1, h2, h3, h4, h5, h6, h7, h8, h9, h10⟩ := h
  exact ⟨c, k, i, f, a, cell, h1, h2, h3, h4, by rw [hq a (Array.getElem?_eq_some_iff.mp h5).1 h10]; exact h5, h6, h7, h8, h9, h10⟩
theorem vx_L.narrow {C n d : String} {A B : Nat → Prop} {U : State} {H : Heap} (h : vx_L C n d A U H) (hAB : ∀ q, B q → A q) : vx_L C n d B U H := by
  obtain ⟨c, k, i, f, a, cell, h1, h2, h3, h4, h5, h6, h7, h8, h9, h10⟩ := h
  exact ⟨c, k, i, f, a, cell, h1, h2, h3, h4, h5, h6, h7, h8, h9, fun z => h10 (hAB _ z)⟩
theorem vx_L.word {C n d : String} {A : Nat → Prop} {s : State} {args : Array Value} (h : vx_L C n d A s s.heap) : (Cond.laysStatic C n d).before args s = true := by
  obtain ⟨c, k, i, f, a, cell, h1, h2, h3, h4, h5, h6, h7, h8, h9, -⟩ := h
  show (Cond.laysStatic C n d).holds args s none s [] = true
  exact Cond.laysStatic_of h1 h2 h3 h4 h5 h6 h7 h8 h9
/-- .. and what it holds: null or some reference -/
def vx_Zq (C n d : String) (A : Nat → Prop) (U : State) (H : Heap) : Prop := va_Zq C n d A U H ∧ vx_L C n d A U H
theorem vx_Zq.moved {C n d : String} {A : Nat → Prop} {u U : State} {H : Heap} (hvm : u.vm.Alike U.vm) (h : vx_Zq C n d A u H) : vx_Zq C n d A U H := ⟨va_Zq.moved hvm h.1, vx_L.moved hvm h.2⟩
theorem vx_Zq.kept {C n d : String} {A : Nat → Prop} {U : State} {H H1 : Heap} (h : vx_Zq C n d A U H) (hq : ∀ a : Nat, a < H.size → ¬ A a → H1[a]? = H[a]?) : vx_Zq C n d A U H1 := ⟨va_Zq.kept h.1 hq, vx_L.kept h.2 hq⟩
theorem vx_Zq.narrow {C n d : String} {A B : Nat → Prop} {U : State} {H : Heap} (h : vx_Zq C n d A U H) (hAB : ∀ q, B q → A q) : vx_Zq C n d B U H := ⟨va_Zq.narrow h.1 hAB, vx_L.narrow h.2 hAB⟩
theorem vx_Zqof {args : Array Value} {s : State} {C n d : String} {A : Nat → Prop} (hl : (Cond.laysStatic C n d).before args s = true) (hini : (Cond.initialized C).before args s = true) (h : (Cond.isRef (.static C n d)).before args s = true) (hA : ∀ a : Nat, a < s.heap.size → ¬ A a) : vx_Zq C n d A s s.heap := by
  refine ⟨va_Zqof hl hini h hA, ?_⟩
  obtain ⟨c, k, i, f, a, cell, h1, h2, h3, h4, h5, h6, h7, h8, h9⟩ := Cond.laysStatic_spec hl
  exact ⟨c, k, i, f, a, cell, h1, h2, h3, h4, h5, h6, h7, h8, h9, hA a (Array.getElem?_eq_some_iff.mp h5).1⟩
theorem vx_isRef {C n d : String} {v : Value} {A : Nat → Prop} {s : State} {args : Array Value} (h : va_Z C n d v A s s.heap) (hv : v.isRef = true) : (Cond.isRef (.static C n d)).before args s = true := by
  obtain ⟨cf, kf, fi, f, a, cell, h1, h2, h3, h4, h5, h6, h7, -⟩ := h
  have he : (Term.static C n d).eval args s none [] s = some v := by
    simp [Term.eval, State.fieldNamed?, h1, h2, h4, h5, h6, h7]
  simp only [Cond.before, Cond.holds, Cond.value, he]
  cases v <;> simp_all [Value.isRef]
theorem vx_isRefq {C n d : String} {A : Nat → Prop} {s : State} {args : Array Value} (h : va_Zq C n d A s s.heap) : (Cond.isRef (.static C n d)).before args s = true := by
  rcases h with h | ⟨t, h⟩
  · exact vx_isRef h rfl
  · exact vx_isRef h rfl
/-- the same frame, seen from here: as if the method were called anew in this heap -/
theorem vx_rebase {T : State} (X : Stand p l e R s m args below meth c T locs cells slots) {R' : Room} (hf : R'.frames ≤ R.frames) (hl : R'.locals ≤ R.locals) (hc : cells + R'.cells ≤ R.cells) (hs : slots + R'.slots ≤ R.slots) :
    Stand p l e R' ((T.setVm s.vm).setFrames (.invoking m args :: below)) m args below meth c T [] 0 0 := by
  have htop : (T.setVm s.vm).topJava?.isSome := X.here.top
  have hF : ((T.setVm s.vm).setFrames (.invoking m args :: below)).frames = .invoking m args :: below := State.frames_setFrames _ (State.cur_lt_of_top htop)
  obtain ⟨g₀, hg0⟩ := Option.isSome_iff_exists.mp htop
  obtain ⟨r, hr⟩ := State.topJava?_eq_some.mp hg0
  have hl9 : e.platform.stackLimits (T.setVm s.vm).me = e.platform.stackLimits s.me := X.limits
  have hb9 : (T.setVm s.vm).me.stackBytes = s.me.stackBytes := X.bytes
  refine ⟨X.admits, X.cas, X.clock, hF, ?_, X.hears, X.method, X.code, X.here, X.tail, X.warmed, ?_, ?_, ?_⟩
  · have h := X.room
    have hU : ((T.setVm s.vm).setFrames (.invoking m args :: below)).localsInUse = s.localsInUse := by
      rw [State.localsInUse_invoking hF (meth := meth) (c := c) X.method X.code, State.localsInUse_invoking X.frames X.method X.code]
    simp only [State.hasRoom, Bool.and_eq_true, decide_eq_true_eq] at h ⊢
    obtain ⟨⟨⟨⟨h1, h2, h3, h4, h5, h6⟩, h7⟩, h8⟩, h9⟩ := h
    rw [X.frames, List.length_cons] at h2 h3
    have q1 := X.heapSize
    have q2 := X.used
    simp only [hF, hU, List.length_cons, State.stackLimits_setFrames, State.stackBytes_setFrames, hl9, hb9]
    refine ⟨⟨⟨⟨by omega, by omega, by omega, by omega, by omega, h6⟩, ?_⟩, ?_⟩, X.book⟩
    · show T.heap.size + R'.cells ≤ e.platform.maxCells
      omega
    · show T.slotsUsed + R'.slots ≤ e.platform.maxSlots
      omega
  · rw [State.stackLimits_setFrames]; rfl
  · rw [State.stackBytes_setFrames]; rfl
  · refine ⟨?_, Nat.le_refl _, Nat.le_refl _, ?_, ?_, fun a c9 h9 => ⟨c9, h9, rfl, rfl, fun _ _ => rfl⟩⟩
    · obtain ⟨t, ht, -⟩ := State.frames_cons hr
      show T.setVm s.vm = { ((T.setVm s.vm).setFrames (.invoking m args :: below)).setFrames (T.setVm s.vm).frames with heap := T.heap, slotsUsed := T.slotsUsed }
      rw [State.setFrames_setFrames, State.setFrames_self ht]
      rfl
    · show T.slotsUsed = T.slotsUsed + ((T.heap.toList.drop T.heap.size).map (·.slots.size)).sum
      rw [List.drop_eq_nil_of_le (Nat.le_of_eq Array.length_toList)]
      rfl
    · show ((T.heap.toList.drop T.heap.size).map (·.slots.size)).sum ≤ 0
      rw [List.drop_eq_nil_of_le (Nat.le_of_eq Array.length_toList)]
      exact Nat.le_refl _
/-- 'throw new E()': new; dup; invokespecial; athrow -/
theorem vx_throw0 {cc : ByteArray} {pc : Nat} (hexec : p.tables.exec = Jvm.exec) (hb : c.code = cc) (hl : l.stackTraces = false) {own cls : String} {names : List String} {ik ic mc ms : Nat} {A : Nat → Prop}
    (hown : s.vm.findClass own = some m.cls) (hcls : Bundle.fit cls = true) (hnames : ∀ n ∈ names, Bundle.fit n = true)
    (hk : (Cond.classLink own ik cls).before args s = true) (hini : (Cond.initialized cls).before args s = true) (hat : ∀ w ∈ vx_at0 own ic cls names, w.before args s = true)
    (hgood : ∀ w ∈ Cond.classLink own ik cls :: Cond.initialized cls :: vx_at0 own ic cls names, vx_ot w = true)
    (hU : vx_Zq Bundle.tN "UNASSIGNED_STACK" Bundle.steD A s s.heap) (hN : vx_Zq Bundle.tN "SUPPRESSED_SENTINEL" Bundle.listD A s s.heap) (hS : va_S A s.heap H locs) (hsize : ls.size = c.maxLocals)
    (d0 : decode cc pc = .ok (.new ik, 3)) (d3 : decode cc (pc + 3) = .ok (.dup, 1)) (d4 : decode cc (pc + 4) = .ok (.invokespecial ic, 3)) (d7 : decode cc (pc + 7) = .ok (.athrow, 1))
    (hout : ∀ x ∈ c.exceptionTable.toList, covers x (pc + 7) = false)
    (hRframes : names.length + 3 < R.frames) (hRlocals : (rest.map fun v => v.category).sum + (13 * (names.length + 1) + 42) ≤ R.locals) (hRcells : cells + 1 ≤ R.cells) (hRslots : slots + 6 ≤ R.slots) (hlocks : meth.locks = false)
    (hx : ∀ t : State, s.vm.Alike t.vm → H.size ≤ t.heap.size → (∀ q : Nat, q < H.size → t.heap[q]? = H[q]?) → XC cls s t)
    (hf : ∀ z ∈ locs, free z.base) (hc : cells + 1 ≤ mc) (hs : slots + 6 ≤ ms) :
    W p l e R s m args below meth c H locs cells slots (vx_MQ below Qc XC args s mc ms free) (F0 m pc ls rest) := by
  intro T hT X
  have htr : e.platform.stackTraces = false := (show e.platform.stackTraces = l.stackTraces by rw [X.admits.platform]).trans hl
  have Y := vx_rebase X (R' := { frames := R.frames, locals := R.locals, cells := 1, slots := 6 }) (Nat.le_refl _) (Nat.le_refl _) hRcells hRslots
  obtain ⟨s', hA⟩ : ∃ z, z = (T.setVm s.vm).setFrames (.invoking m args :: below) := ⟨_, rfl⟩
  rw [← hA] at Y
  have hvm : s'.vm = s.vm := by rw [hA]; rfl
  have hhp : s'.heap = H := by rw [hA]; exact hT
  have hW0 : s.WarmedH s'.vm := by rw [hvm]; exact State.WarmedH.refl s
  have hat' : ∀ w ∈ vx_at0 own ic cls names, w.before args s' = true := fun w hw => vx_ot_at hW0 hvm.symm (hgood w (List.mem_cons_of_mem _ (List.mem_cons_of_mem _ hw))) (hat w hw)
  have hk' : (Cond.classLink own ik cls).before args s' = true := vx_ot_at hW0 hvm.symm (hgood _ List.mem_cons_self) hk
  have hini' : (Cond.initialized cls).before args s' = true := vx_ot_at hW0 hvm.symm (hgood _ (List.mem_cons_of_mem _ List.mem_cons_self)) hini
  have hU' : vx_Zq Bundle.tN "UNASSIGNED_STACK" Bundle.steD A s' s'.heap := by rw [hhp]; exact vx_Zq.moved hW0.alike (hU.kept hS.2.1)
  have hN' : vx_Zq Bundle.tN "SUPPRESSED_SENTINEL" Bundle.listD A s' s'.heap := by rw [hhp]; exact vx_Zq.moved hW0.alike (hN.kept hS.2.1)
  have h : ∀ w ∈ Bundle.ownAtoms0 own ic cls names, w.before args s' = true := vx_own hat' (vx_isRefq hU'.1) (vx_isRefq hN'.1) hU'.2.word hN'.2.word
  have hown' : s'.vm.findClass own = some m.cls := by rw [hvm]; exact hown
  have hins : (Cond.instantiable cls 6).before args s' = true := h _ (by simp [Bundle.ownAtoms0])
  obtain ⟨vm₁, cX, kX, hfX, hkX, -, -, X₁, st1⟩ := Y.newCold hexec (own := own) (C := cls) (index := ik) (n := 6) hown' hk' hins hini'
    (g := F0 m pc ls rest) rfl (by rw [hb]; exact d0) (Nat.le_refl _) (Nat.le_refl _)
  generalize hT1 : (T.setVm vm₁).pushCell { cls := cX, slots := kX.instanceTypes.map defaultValue, vm := .none } = T1 at X₁ st1
  have hcat : (Value.ref T.heap.size).category = 1 := rfl
  have hcellA : T1.heap[T.heap.size]? = some (freshCell cX kX) := by rw [← hT1]; exact State.heap_pushCell_size _ _
  have d3' : decode c.code (pc + 3) = .ok (.dup, 1) := by rw [hb]; exact d3
  obtain ⟨U, hsteps, hrun, hend, hW, hsame, ce, hce, hO⟩ := X₁.ctorThrow0 hexec htr (own := own) (cls := cls) (names := names) (ic := ic) hown' hcls hnames h (fun x hx => nomatch hx) hfX hkX hcellA (by rw [hhp, hT]; exact Nat.le_refl _)
    (g := { method := m, pc := pc + 4, locals := ls, stack := .ref T.heap.size :: .ref T.heap.size :: rest, locked := none }) rfl hsize rfl rfl (rest := rest) rfl
    (by rw [hb]; exact d4) (by rw [hb]; exact d7) hout hRframes (by simp only [List.map_cons, List.sum_cons, hcat]; omega) hlocks
  obtain ⟨f1, f2⟩ := vx_frame hsame
  rw [hhp] at f1 f2
  have hWs : s.WarmedH U.vm := State.WarmedH.trans hW0 hW
  have hcl : s.vm.findClass cls = some ce.cls := by
    have h9 := hO.cls
    rw [hvm] at h9
    exact h9
  have hall : s.sameButNew ({ U with vm := s.vm } : State) locs mc ms := by
    subst hA
    obtain ⟨e1, e2⟩ := hsame
    rw [State.setFrames_setFrames] at e1
    have h2 : (T.setVm s.vm).sameButNew ({ U with vm := s.vm } : State) [] (0 + 1) (0 + 6) := ⟨e1, e2⟩
    have h3 := X.same.trans h2
    rw [List.append_nil] at h3
    exact h3.mono hc hs
  refine ⟨U, ?_, .threw T.heap.size, hrun, hend, Or.inr ⟨T.heap.size, rfl, cls, ce, locs, hx U hWs.alike f1 (fun q hq => f2 q hq (fun z hz => nomatch hz)), hce, hO.vm, hcl, hWs, hall, hf⟩⟩
  refine st1 _ ?_
  show Steps p.tables e below (T1.setTop { method := m, pc := pc + 3, locals := ls, stack := .ref T.heap.size :: rest, locked := none }) _
  jvm_step X₁.here [X₁.here.top, hexec, d3', Value.category]
  exact hsteps
/-- 'throw new E("text")': new; dup; ldc; invokespecial; athrow -/
theorem vx_throwS {cc : ByteArray} {pc : Nat} (hexec : p.tables.exec = Jvm.exec) (hb : c.code = cc) (hl : l.stackTraces = false) {own cls text : String} {names : List String} {ik is ic mc ms sa : Nat} {A : Nat → Prop}
    (hown : s.vm.findClass own = some m.cls) (hcls : Bundle.fit cls = true) (hnames : ∀ n ∈ names, Bundle.fit n = true)
    (hk : (Cond.classLink own ik cls).before args s = true) (hini : (Cond.initialized cls).before args s = true) (hstr : vk_R own is text sa s) (hat : ∀ w ∈ vx_atS own ic cls names, w.before args s = true)
    (hgood : ∀ w ∈ Cond.classLink own ik cls :: Cond.initialized cls :: vx_atS own ic cls names, vx_ot w = true)
    (hU : vx_Zq Bundle.tN "UNASSIGNED_STACK" Bundle.steD A s s.heap) (hN : vx_Zq Bundle.tN "SUPPRESSED_SENTINEL" Bundle.listD A s s.heap) (hS : va_S A s.heap H locs) (hsize : ls.size = c.maxLocals)
    (d0 : decode cc pc = .ok (.new ik, 3)) (d3 : decode cc (pc + 3) = .ok (.dup, 1)) (d4 : decode cc (pc + 4) = .ok (.ldc is, 2)) (d6 : decode cc (pc + 6) = .ok (.invokespecial ic, 3)) (d9 : decode cc (pc + 9) = .ok (.athrow, 1))
    (hout : ∀ x ∈ c.exceptionTable.toList, covers x (pc + 9) = false)
    (hRframes : names.length + 3 < R.frames) (hRlocals : (rest.map fun v => v.category).sum + (13 * (names.length + 1) + 43) ≤ R.locals) (hRcells : cells + 1 ≤ R.cells) (hRslots : slots + 6 ≤ R.slots) (hlocks : meth.locks = false)
    (hx : ∀ t : State, s.vm.Alike t.vm → H.size ≤ t.heap.size → (∀ q : Nat, q < H.size → t.heap[q]? = H[q]?) → XC cls s t)
    (hf : ∀ z ∈ locs, free z.base) (hc : cells + 1 ≤ mc) (hs : slots + 6 ≤ ms) :
    W p l e R s m args below meth c H locs cells slots (vx_MQ below Qc XC args s mc ms free) (F0 m pc ls rest) := by
  intro T hT X
  have htr : e.platform.stackTraces = false := (show e.platform.stackTraces = l.stackTraces by rw [X.admits.platform]).trans hl
  have Y := vx_rebase X (R' := { frames := R.frames, locals := R.locals, cells := 1, slots := 6 }) (Nat.le_refl _) (Nat.le_refl _) hRcells hRslots
  obtain ⟨s', hA⟩ : ∃ z, z = (T.setVm s.vm).setFrames (.invoking m args :: below) := ⟨_, rfl⟩
  rw [← hA] at Y
  have hvm : s'.vm = s.vm := by rw [hA]; rfl
  have hhp : s'.heap = H := by rw [hA]; exact hT
  have hW0 : s.WarmedH s'.vm := by rw [hvm]; exact State.WarmedH.refl s
  have hat' : ∀ w ∈ vx_atS own ic cls names, w.before args s' = true := fun w hw => vx_ot_at hW0 hvm.symm (hgood w (List.mem_cons_of_mem _ (List.mem_cons_of_mem _ hw))) (hat w hw)
  have hk' : (Cond.classLink own ik cls).before args s' = true := vx_ot_at hW0 hvm.symm (hgood _ List.mem_cons_self) hk
  have hini' : (Cond.initialized cls).before args s' = true := vx_ot_at hW0 hvm.symm (hgood _ (List.mem_cons_of_mem _ List.mem_cons_self)) hini
  have hU' : vx_Zq Bundle.tN "UNASSIGNED_STACK" Bundle.steD A s' s'.heap := by rw [hhp]; exact vx_Zq.moved hW0.alike (hU.kept hS.2.1)
  have hN' : vx_Zq Bundle.tN "SUPPRESSED_SENTINEL" Bundle.listD A s' s'.heap := by rw [hhp]; exact vx_Zq.moved hW0.alike (hN.kept hS.2.1)
  have h : ∀ w ∈ Bundle.ownAtoms own ic cls names, w.before args s' = true := vx_own hat' (vx_isRefq hU'.1) (vx_isRefq hN'.1) hU'.2.word hN'.2.word
  have hown' : s'.vm.findClass own = some m.cls := by rw [hvm]; exact hown
  have hins : (Cond.instantiable cls 6).before args s' = true := h _ (by simp [Bundle.ownAtoms])
  obtain ⟨vm₁, cX, kX, hfX, hkX, -, -, X₁, st1⟩ := Y.newCold hexec (own := own) (C := cls) (index := ik) (n := 6) hown' hk' hins hini'
    (g := F0 m pc ls rest) rfl (by rw [hb]; exact d0) (Nat.le_refl _) (Nat.le_refl _)
  generalize hT1 : (T.setVm vm₁).pushCell { cls := cX, slots := kX.instanceTypes.map defaultValue, vm := .none } = T1 at X₁ st1
  have hcat : (Value.ref T.heap.size).category = 1 := rfl
  have hcellA : T1.heap[T.heap.size]? = some (freshCell cX kX) := by rw [← hT1]; exact State.heap_pushCell_size _ _
  have d3' : decode c.code (pc + 3) = .ok (.dup, 1) := by rw [hb]; exact d3
  have d4' : decode c.code (pc + 4) = .ok (.ldc is, 2) := by rw [hb]; exact d4
  have hstr' : vk_R own is text sa s' := vk_R.warm hW0 hstr
  obtain ⟨U, hsteps, hrun, hend, hW, hsame, ce, hce, hO⟩ := X₁.ctorThrowS hexec htr (own := own) (cls := cls) (names := names) (ic := ic) hown' hcls hnames h (fun x hx => nomatch hx) hfX hkX hcellA (by rw [hhp, hT]; exact Nat.le_refl _) (msg := .ref sa) rfl
    (g := { method := m, pc := pc + 6, locals := ls, stack := .ref sa :: .ref T.heap.size :: .ref T.heap.size :: rest, locked := none }) rfl hsize rfl rfl (rest := rest) rfl
    (by rw [hb]; exact d6) (by rw [hb]; exact d9) hout hRframes (by simp only [List.map_cons, List.sum_cons, hcat]; omega) hlocks
  obtain ⟨f1, f2⟩ := vx_frame hsame
  rw [hhp] at f1 f2
  have hWs : s.WarmedH U.vm := State.WarmedH.trans hW0 hW
  have hcl : s.vm.findClass cls = some ce.cls := by
    have h9 := hO.cls
    rw [hvm] at h9
    exact h9
  have hall : s.sameButNew ({ U with vm := s.vm } : State) locs mc ms := by
    subst hA
    obtain ⟨e1, e2⟩ := hsame
    rw [State.setFrames_setFrames] at e1
    have h2 : (T.setVm s.vm).sameButNew ({ U with vm := s.vm } : State) [] (0 + 1) (0 + 6) := ⟨e1, e2⟩
    have h3 := X.same.trans h2
    rw [List.append_nil] at h3
    exact h3.mono hc hs
  refine ⟨U, ?_, .threw T.heap.size, hrun, hend, Or.inr ⟨T.heap.size, rfl, cls, ce, locs, hx U hWs.alike f1 (fun q hq => f2 q hq (fun z hz => nomatch hz)), hce, hO.vm, hcl, hWs, hall, hf⟩⟩
  refine st1 _ ?_
  show Steps p.tables e below (T1.setTop { method := m, pc := pc + 3, locals := ls, stack := .ref T.heap.size :: rest, locked := none }) _
  jvm_step X₁.here [X₁.here.top, hexec, d3', Value.category]
  exact X₁.ldcString hexec (own := own) (text := text) (index := is) (a := sa) hown' hstr'.1 hstr'.2
    (g := { method := m, pc := pc + 4, locals := ls, stack := .ref T.heap.size :: .ref T.heap.size :: rest, locked := none }) rfl d4' _ hsteps
/-- 'throw new E("text")', the text by a wide index -/
theorem vx_throwSW {cc : ByteArray} {pc : Nat} (hexec : p.tables.exec = Jvm.exec) (hb : c.code = cc) (hl : l.stackTraces = false) {own cls text : String} {names : List String} {ik is ic mc ms sa : Nat} {A : Nat → Prop}
    (hown : s.vm.findClass own = some m.cls) (hcls : Bundle.fit cls = true) (hnames : ∀ n ∈ names, Bundle.fit n = true)
    (hk : (Cond.classLink own ik cls).before args s = true) (hini : (Cond.initialized cls).before args s = true) (hstr : vk_R own is text sa s) (hat : ∀ w ∈ vx_atS own ic cls names, w.before args s = true)
    (hgood : ∀ w ∈ Cond.classLink own ik cls :: Cond.initialized cls :: vx_atS own ic cls names, vx_ot w = true)
    (hU : vx_Zq Bundle.tN "UNASSIGNED_STACK" Bundle.steD A s s.heap) (hN : vx_Zq Bundle.tN "SUPPRESSED_SENTINEL" Bundle.listD A s s.heap) (hS : va_S A s.heap H locs) (hsize : ls.size = c.maxLocals)
    (d0 : decode cc pc = .ok (.new ik, 3)) (d3 : decode cc (pc + 3) = .ok (.dup, 1)) (d4 : decode cc (pc + 4) = .ok (.ldc_w is, 3)) (d7 : decode cc (pc + 7) = .ok (.invokespecial ic, 3)) (d10 : decode cc (pc + 10) = .ok (.athrow, 1))
    (hout : ∀ x ∈ c.exceptionTable.toList, covers x (pc + 10) = false)
    (hRframes : names.length + 3 < R.frames) (hRlocals : (rest.map fun v => v.category).sum + (13 * (names.length + 1) + 43) ≤ R.locals) (hRcells : cells + 1 ≤ R.cells) (hRslots : slots + 6 ≤ R.slots) (hlocks : meth.locks = false)
    (hx : ∀ t : State, s.vm.Alike t.vm → H.size ≤ t.heap.size → (∀ q : Nat, q < H.size → t.heap[q]? = H[q]?) → XC cls s t)
    (hf : ∀ z ∈ locs, free z.base) (hc : cells + 1 ≤ mc) (hs : slots + 6 ≤ ms) :
    W p l e R s m args below meth c H locs cells slots (vx_MQ below Qc XC args s mc ms free) (F0 m pc ls rest) := by
  intro T hT X
  have htr : e.platform.stackTraces = false := (show e.platform.stackTraces = l.stackTraces by rw [X.admits.platform]).trans hl
  have Y := vx_rebase X (R' := { frames := R.frames, locals := R.locals, cells := 1, slots := 6 }) (Nat.le_refl _) (Nat.le_refl _) hRcells hRslots
  obtain ⟨s', hA⟩ : ∃ z, z = (T.setVm s.vm).setFrames (.invoking m args :: below) := ⟨_, rfl⟩
  rw [← hA] at Y
  have hvm : s'.vm = s.vm := by rw [hA]; rfl
  have hhp : s'.heap = H := by rw [hA]; exact hT
  have hW0 : s.WarmedH s'.vm := by rw [hvm]; exact State.WarmedH.refl s
  have hat' : ∀ w ∈ vx_atS own ic cls names, w.before args s' = true := fun w hw => vx_ot_at hW0 hvm.symm (hgood w (List.mem_cons_of_mem _ (List.mem_cons_of_mem _ hw))) (hat w hw)
  have hk' : (Cond.classLink own ik cls).before args s' = true := vx_ot_at hW0 hvm.symm (hgood _ List.mem_cons_self) hk
  have hini' : (Cond.initialized cls).before args s' = true := vx_ot_at hW0 hvm.symm (hgood _ (List.mem_cons_of_mem _ List.mem_cons_self)) hini
  have hU' : vx_Zq Bundle.tN "UNASSIGNED_STACK" Bundle.steD A s' s'.heap := by rw [hhp]; exact vx_Zq.moved hW0.alike (hU.kept hS.2.1)
  have hN' : vx_Zq Bundle.tN "SUPPRESSED_SENTINEL" Bundle.listD A s' s'.heap := by rw [hhp]; exact vx_Zq.moved hW0.alike (hN.kept hS.2.1)
  have h : ∀ w ∈ Bundle.ownAtoms own ic cls names, w.before args s' = true := vx_own hat' (vx_isRefq hU'.1) (vx_isRefq hN'.1) hU'.2.word hN'.2.word
  have hown' : s'.vm.findClass own = some m.cls := by rw [hvm]; exact hown
  have hins : (Cond.instantiable cls 6).before args s' = true := h _ (by simp [Bundle.ownAtoms])
  obtain ⟨vm₁, cX, kX, hfX, hkX, -, -, X₁, st1⟩ := Y.newCold hexec (own := own) (C := cls) (index := ik) (n := 6) hown' hk' hins hini'
    (g := F0 m pc ls rest) rfl (by rw [hb]; exact d0) (Nat.le_refl _) (Nat.le_refl _)
  generalize hT1 : (T.setVm vm₁).pushCell { cls := cX, slots := kX.instanceTypes.map defaultValue, vm := .none } = T1 at X₁ st1
  have hcat : (Value.ref T.heap.size).category = 1 := rfl
  have hcellA : T1.heap[T.heap.size]? = some (freshCell cX kX) := by rw [← hT1]; exact State.heap_pushCell_size _ _
  have d3' : decode c.code (pc + 3) = .ok (.dup, 1) := by rw [hb]; exact d3
  have d4' : decode c.code (pc + 4) = .ok (.ldc_w is, 3) := by rw [hb]; exact d4
  have hstr' : vk_R own is text sa s' := vk_R.warm hW0 hstr
  obtain ⟨U, hsteps, hrun, hend, hW, hsame, ce, hce, hO⟩ := X₁.ctorThrowS hexec htr (own := own) (cls := cls) (names := names) (ic := ic) hown' hcls hnames h (fun x hx => nomatch hx) hfX hkX hcellA (by rw [hhp, hT]; exact Nat.le_refl _) (msg := .ref sa) rfl
    (g := { method := m, pc := pc + 7, locals := ls, stack := .ref sa :: .ref T.heap.size :: .ref T.heap.size :: rest, locked := none }) rfl hsize rfl rfl (rest := rest) rfl
    (by rw [hb]; exact d7) (by rw [hb]; exact d10) hout hRframes (by simp only [List.map_cons, List.sum_cons, hcat]; omega) hlocks
  obtain ⟨f1, f2⟩ := vx_frame hsame
  rw [hhp] at f1 f2
  have hWs : s.WarmedH U.vm := State.WarmedH.trans hW0 hW
  have hcl : s.vm.findClass cls = some ce.cls := by
    have h9 := hO.cls
    rw [hvm] at h9
    exact h9
  have hall : s.sameButNew ({ U with vm := s.vm } : State) locs mc ms := by
    subst hA
    obtain ⟨e1, e2⟩ := hsame
    rw [State.setFrames_setFrames] at e1
    have h2 : (T.setVm s.vm).sameButNew ({ U with vm := s.vm } : State) [] (0 + 1) (0 + 6) := ⟨e1, e2⟩
    have h3 := X.same.trans h2
    rw [List.append_nil] at h3
    exact h3.mono hc hs
  refine ⟨U, ?_, .threw T.heap.size, hrun, hend, Or.inr ⟨T.heap.size, rfl, cls, ce, locs, hx U hWs.alike f1 (fun q hq => f2 q hq (fun z hz => nomatch hz)), hce, hO.vm, hcl, hWs, hall, hf⟩⟩
  refine st1 _ ?_
  show Steps p.tables e below (T1.setTop { method := m, pc := pc + 3, locals := ls, stack := .ref T.heap.size :: rest, locked := none }) _
  jvm_step X₁.here [X₁.here.top, hexec, d3', Value.category]
  exact X₁.ldcStringW hexec (own := own) (text := text) (index := is) (a := sa) hown' hstr'.1 hstr'.2
    (g := { method := m, pc := pc + 4, locals := ls, stack := .ref T.heap.size :: .ref T.heap.size :: rest, locked := none }) rfl d4' _ hsteps
end Ends
section Bodies
variable {l : Launch}
theorem vx_ofW {y : MethodName} {ws ws' : List Cond} {rm : Room} {Pc : Array Value → State → Prop} {Qc : Array Value → State → Outcome → State → Prop} {XC : String → State → State → Prop} {mc ms : Nat} {free : Addr → Prop} {cc : ByteArray} {maxL : Nat} {ret : Option FieldType}
    (hy : plainName y.cls = true) (hw : ws = Cond.code y cc maxL ret :: ws')
    (body : ∀ p e s m args below meth c s₁, BodyLoose p l y (headSpec ws rm) cc maxL ret e s m args below meth c s₁ → c.maxLocals = maxL → (∀ x ∈ c.exceptionTable.toList, False) → Pc args s →
      W p l e (headSpec ws rm).room s m args below meth c s.heap [] 0 0 (vx_MQ below Qc XC args s mc ms free) (entryFrame m args maxL)) : vx_Met l y ws rm Pc Qc XC mc ms free := by
  refine MetFree.of_bodyS (code := cc) (maxLocals := maxL) (ret := ret) hy ?_ ?_
  · intro args s m h hn
    obtain ⟨meth, c, h1, h2, h3, h4, h5, h6, -, -⟩ := Cond.code_spec hn (atoms_spec (ws := ws) h _ (by rw [hw]; exact List.mem_cons_self))
    exact ⟨meth, c, h1, h2, h3, h4, h5, h6⟩
  · intro p e s m args below meth c s₁ B hml hP _
    have hh0 : s₁.heap = s.heap := by rw [B.state]; rfl
    have ht : ∀ x ∈ c.exceptionTable.toList, False := by
      obtain ⟨meth9, c9, h1, h2, -, -, -, -, h7, -⟩ := Cond.code_spec B.named (atoms_spec (ws := ws) B.pre _ (by rw [hw]; exact List.mem_cons_self))
      cases Option.some.inj (h1.symm.trans B.method)
      cases Option.some.inj (h2.symm.trans (Stand.of_body B).code)
      intro x hx
      rw [Array.isEmpty_iff.mp h7] at hx
      cases hx
    obtain ⟨t, a1, o, b1, b2, b3⟩ := body p e s m args below meth c s₁ B hml ht hP s₁ hh0 (Stand.of_body B)
    exact ⟨t, o, a1, b1, b2, b3⟩
/-- the table of a body with handlers -/
theorem vx_table {p : Program} {x y : MethodName} {S : Spec} {cc bytes : ByteArray} {maxL maxL' : Nat} {ret ret' : Option FieldType} {e : Env} {s s₁ : State} {m : MethodId} {args : Array Value} {below : List Frame} {meth : Method} {c : Code} {hh : List (Nat × Nat × Nat × Nat)}
    (B : BodyLoose p l y S cc maxL ret e s m args below meth c s₁) (h : (Cond.codeWith y bytes maxL' ret' hh).before args s = true) : c.exceptionTable.toList = tableOf hh := by
  obtain ⟨m9, meth9, c9, hn9, h1, h2, -, -, h6, -⟩ := Cond.codeWith_spec h
  cases Option.some.inj (hn9.symm.trans B.named)
  cases Option.some.inj (h1.symm.trans B.method)
  cases Option.some.inj (h2.symm.trans (Stand.of_body B).code)
  rw [← h6, table_eq]
end Bodies
end VXA
/-! ===== END ===== -/
/-! ===== BEGIN a static call of a method with an exception table ===== -/
section VXS
variable {p : Program} {l : Launch} {e : Env} {R : Room} {s : State} {m : MethodId} {args : Array Value} {below : List Frame} {meth : Method} {c : Code} {T : State} {H : Heap} {locs : List Loc} {cells slots : Nat}
abbrev vx_CSW (R : Room) (s : State) (args : Array Value) (own : String) (index : Nat) (y : MethodName) (bytes : ByteArray) (maxL : Nat) (ret : Option FieldType) (hh : List (Nat × Nat × Nat × Nat)) (ws : List Cond) (rm : Room) (mc ms n : Nat) : Prop :=
  (rm.cells = mc ∧ rm.slots = ms ∧ rm.frames + 1 ≤ R.frames ∧ 8 + (maxL + 11) + rm.locals ≤ R.locals ∧ (∀ w ∈ ws, ∀ (a' : Array Value) (U : State), s.WarmedH U.vm → w.before a' U = true) ∧ Cond.codeWith y bytes maxL ret hh ∈ ws) ∧
  (Cond.codeWith y bytes maxL ret hh).before args s = true ∧ (Cond.initialized y.cls).before args s = true ∧ (y.cls ≠ "java/lang/invoke/MethodHandle" ∧ y.cls ≠ "java/lang/invoke/VarHandle") ∧
  (∀ sig, parseMethodDescriptor y.desc = some sig → n = sig.parameters.length) ∧ (Cond.methodLink own index y).before args s = true ∧ (Cond.static y).before args s = true
theorem vx_cwSW {own : String} {index maxL mc ms : Nat} {y : MethodName} {bytes : ByteArray} {ret : Option FieldType} {hh : List (Nat × Nat × Nat × Nat)} {Ts ws ws' : List Cond} {rm : Room} (n : Nat) (ht : ∀ w ∈ Ts, w.before args s = true) (hT : GoodIn Ts (va_wsS own index y ws)) (hw : ws = Cond.codeWith y bytes maxL ret hh :: ws') (hrc : rm.cells = mc) (hrs : rm.slots = ms)
    (hd : y.cls ≠ "java/lang/invoke/MethodHandle" ∧ y.cls ≠ "java/lang/invoke/VarHandle" ∧ (parseMethodDescriptor y.desc).map (fun d => d.parameters.length) = some n) (hR : rm.frames + 1 ≤ R.frames ∧ 8 + (maxL + 11) + rm.locals ≤ R.locals) :
    vx_CSW R s args own index y bytes maxL ret hh ws rm mc ms n := by
  have ok : ∀ w ∈ va_wsS own index y ws, w.before args s = true := fun w h => ht w (hT w h).1
  have hG : GoodIn Ts ws := fun w h => hT w (by unfold va_wsS; exact List.mem_append_right _ h)
  have hc : Cond.codeWith y bytes maxL ret hh ∈ ws := by rw [hw]; exact List.mem_cons_self
  refine ⟨⟨hrc, hrs, hR.1, hR.2, pay_in ht hG, hc⟩, ht _ (hG _ hc).1, ok _ (by simp [va_wsS]), ⟨hd.1, hd.2.1⟩, fun sig h => ?_, ok _ (by simp [va_wsS]), ok _ (by simp [va_wsS])⟩
  have h2 := hd.2.2
  rw [h] at h2
  exact (Option.some.inj h2).symm
theorem vx_callSW (X : Stand p l e R s m args below meth c T locs cells slots) (hexec : p.tables.exec = Jvm.exec) {own : String} {index : Nat} {y : MethodName} {bytes : ByteArray} {maxL : Nat} {ret : Option FieldType} {hh : List (Nat × Nat × Nat × Nat)}
    (hown : s.vm.findClass own = some m.cls) (hlink : (Cond.methodLink own index y).before args s = true) (hstat : (Cond.static y).before args s = true) (hinit : (Cond.initialized y.cls).before args s = true)
    (hcode : (Cond.codeWith y bytes maxL ret hh).before args s = true) (hy : y.cls ≠ "java/lang/invoke/MethodHandle" ∧ y.cls ≠ "java/lang/invoke/VarHandle")
    {W9 : Nat} {Pre : Pt → Array Value → Prop} {Post : Pt → Array Value → Option Value → Pt → Prop} (hK : Back l R p e below s args y 3 W9 Pre Post)
    {g : JFrame} (hg : g.method = m) (hsize : g.locals.size = c.maxLocals) {argsL rest : List Value} (hlen : ∀ sig, parseMethodDescriptor y.desc = some sig → argsL.length = sig.parameters.length)
    (hstack : g.stack = argsL.reverse ++ rest) (hW : 2 * g.monitorRoom + (rest.map fun v => v.category).sum ≤ W9) (hdg : decode c.code g.pc = .ok (.invokestatic index, 3))
    (hpre : ∀ vm₁, s.WarmedH vm₁ → Pre ⟨T.setVm vm₁, locs, cells, slots⟩ argsL.toArray) :
    ∃ (v : Option Value) (vm₁ : Vm) (B : Pt), s.WarmedH vm₁ ∧ Stand p l e R s m args below meth c B.U B.locs B.cells B.slots ∧ Post ⟨T.setVm vm₁, locs, cells, slots⟩ argsL.toArray v B ∧
      ∀ target, Steps p.tables e below (B.U.setTop { g with pc := g.pc + 3, stack := v.toList ++ rest }) target → Steps p.tables e below (T.setTop g) target := by
  obtain ⟨mk, methM, cM, hnamed, hmethM, -, -, -, -, -, -, hsigM⟩ := Cond.codeWith_spec hcode
  have hstatic : methM.isStatic = true := Cond.static_spec hnamed hmethM hstat
  obtain ⟨kP, hkP, -⟩ := className_of_methodNamed hnamed
  have hinitP : kP.init = .initialized := Cond.initialized_spec (findClass_of_methodNamed hnamed) hkP hinit
  obtain ⟨vm₁, X₁, hstep₁⟩ := X.invokestatic hexec hown hlink hnamed hmethM hstatic hkP hinitP hy (g := g) hg (argsL := argsL) (rest := rest) (hlen _ hsigM) hstack hdg
  obtain ⟨v, B, X', hpost, hsteps⟩ := hK m meth c ⟨T.setVm vm₁, locs, cells, slots⟩ { g with stack := rest } (.invokestatic index) mk argsL.toArray X₁ hg hsize hdg hW (X₁.named hnamed) (hpre vm₁ X₁.warmed)
  exact ⟨v, vm₁, B, X₁.warmed, X', hpost, fun target h => hstep₁ _ fun acts => by rw [doInvoke_state]; exact hsteps.trans h⟩
theorem vx_runSW {y : MethodName} {bytes cc : ByteArray} {maxL nL mc ms n index : Nat} {ret : Option FieldType} {hh : List (Nat × Nat × Nat × Nat)} {ws : List Cond} {rm : Room} {Pc : Array Value → State → Prop} {Qc : Array Value → State → Outcome → State → Prop} {free : Addr → Prop} {Ts : List Cond} {own : String} {As rest : List Value} {g : JFrame}
    (S : CallFix p m c cc nL s args Ts own) (hM : Met l y ws rm Pc Qc mc ms free) (cw : vx_CSW R s args own index y bytes maxL ret hh ws rm mc ms n) (hp : PreS s H Pc As)
    (hg : g.method = m) (hn : As.length = n) (hsize : g.locals.size = nL) (hstack : g.stack = As.reverse ++ rest) (hW : 2 * g.monitorRoom + (rest.map fun v => v.category).sum ≤ 8) (hdg : decode cc g.pc = .ok (.invokestatic index, 3)) (hf : cells + mc ≤ R.cells ∧ slots + ms ≤ R.slots) :
    va_Run p l e R s m args below meth c H locs cells slots mc ms g rest (Qc As.toArray) (free) := by
  obtain ⟨⟨hrc, hrs, hfr, hlo, hws, hcw⟩, hcode, hini, hy, hlen, hl, hstt⟩ := cw
  have hK : Back l R p e below s args y 3 8 (PreOf R mc ms Pc) (PostOf Qc mc ms free) := va_backW (hh := hh) (bytes := bytes) (maxL := maxL) (ret := ret) hM hp.1 hrc hrs hfr hlo hws hcw (fun a' U hW => word_at hW (Or.inl (by first | rfl | simp [Cond.onTables, Cond.keeps, Cond.steady])) hini)
  obtain ⟨hx, hb, hml, ho, -⟩ := S
  intro T hT X
  obtain ⟨v, vm₁, ⟨U', l2, c2, s2⟩, hW₁, X', ⟨g', mk, t, L, e1, e2, hq, h1, hL, h2, h3⟩, st⟩ := vx_callSW X hx (hh := hh) (bytes := bytes) (maxL := maxL) (ret := ret) ho hl hstt hini hcode hy hK hg (hsize.trans hml.symm) (argsL := As) (rest := rest) (fun sig h => hn.trans (hlen sig h)) hstack hW (by rw [hb]; exact hdg)
    (fun vm₁ hW₁ => ⟨hf.1, hf.2, hp.2 (T.setVm vm₁) hT hW₁⟩)
  dsimp only [Pt.U, Pt.locs, Pt.cells, Pt.slots] at X' e1 e2 h1 h2 h3 st
  subst h1; subst h2; subst h3
  exact ⟨v, (T.setVm vm₁).calling g' mk As.toArray, t, U', L, hT, X', hL, e1, e2, hq, st⟩
/-- not caught here, past rows that name other classes: it goes on to the caller -/
theorem vx_outP {p : Program} {l : Launch} {e : Env} {R : Room} {s : State} {m : MethodId} {args : Array Value} {below : List Frame} {meth : Method} {c : Code} {H : Heap} {locs : List Loc} {cells slots : Nat} {free : Addr → Prop} {ls : Array Slot} {rest : List Value} {Qc : Array Value → State → Outcome → State → Prop} {XC : String → State → State → Prop}
    {pc : Nat} {own E : String} {ce : Cell} {q : Addr} {mc ms : Nat} (hown : s.vm.findClass own = some m.cls) (hlocks : meth.locks = false)
    (hpass : ∀ z ∈ c.exceptionTable.toList, covers z pc = false ∨ (z.catchType ≠ 0 ∧ ∃ nm : String, (Cond.classLink own z.catchType nm).before args s = true ∧ va_Nc E nm s)) (hcell : H[q]? = some ce) (hv : ce.vm = .none) (hcl : s.vm.findClass E = some ce.cls)
    (hx : ∀ t : State, t.heap = H → s.vm.Alike t.vm → XC E s t) (hf : ∀ z ∈ locs, free z.base) (hc : cells ≤ mc) (hs : slots ≤ ms) :
    vx_W p l e R s m args below meth c H locs cells slots (vx_MQ below Qc XC args s mc ms free) (F0 m pc ls rest) q := by
  intro T hT X
  have hpl : e.platform.magicAccessors = ({} : Platform).magicAccessors := by rw [X.admits.platform]
  obtain ⟨vm', hW', X', st⟩ := X.outThrough hlocks q (g := F0 m pc ls rest) rfl rfl rfl (cell := ce) (by rw [hT]; exact hcell) (by rw [hv]; rfl)
    (by obtain ⟨k9, h9, -⟩ := Vm.findClass_spec hcl; exact ⟨k9, h9⟩) (fun z hz => by
      rcases hpass z hz with h | ⟨hz0, nm, hl1, hn1⟩
      · exact Or.inl h
      · obtain ⟨c6, hc6, hcl6⟩ := Cond.classLink_spec hown hl1 e.platform hpl
        obtain ⟨a8, b8, h1, h2, h3⟩ := hn1
        cases Option.some.inj (h1.symm.trans hcl)
        cases Option.some.inj (h2.symm.trans hc6)
        exact Or.inr ⟨hz0, _, hcl6, h3⟩)
  obtain ⟨g₀, hfr⟩ := X'.frames_eq
  have hcell9 : ((T.setVm vm').setFrames (.throwing q :: below)).heap[q]? = some ce := by
    show T.heap[q]? = some ce
    rw [hT]; exact hcell
  have hend : Ended ((T.setVm vm').setFrames (.throwing q :: below)) below (.threw q) := State.frames_setFrames _ (State.cur_lt_of_frames hfr)
  refine ⟨(T.setVm vm').setFrames (.throwing q :: below), ?_, .threw q, X'.here.running, hend, Or.inr ⟨q, rfl, E, ce, locs, hx _ hT (X'.ends _).1.alike, hcell9, hv, hcl, (X'.ends _).1, (X'.ends _).2.mono hc hs, hf⟩⟩
  rw [X.pushThrowing_eq]
  exact st
/-- a thing of a world lies in the heap -/
theorem vx_lt {D : va_G} {cl : List vw_C} {ws : va_W} {H1 : Heap} (h : va_P D cl ws H1) {k : Nat} {q : Nat × va_E} (hk : ws[k]? = some q) : q.1 < H1.size := (h k q hk).lt
end VXS
/-! ===== END ===== -/
/-! ===== BEGIN methods with a table of their own: called by a name, returning or throwing ===== -/
section VXH
/-! vx_backW, vx_callVX, vx_callSX, vx_callVW, vx_runVW, vx_runVX, vx_runSX, vx_ofWH follow the same proofs as their sisters above (Free/Laws.lean, Shelf42/LK1.lean); vx_outP calls Shelf42/NT130.lean (outThrough). -/
section
variable {l : Launch} {R : Room} {p : Program} {e : Env} {below : List Frame} {s : State} {sargs : Array Value} {y : MethodName} {len W9 : Nat}
theorem vx_backW {ws : List Cond} {rm : Room} {Pc : Array Value → State → Prop} {Qc : Array Value → State → Outcome → State → Prop} {XC : String → State → State → Prop} {mc ms : Nat} {free : Addr → Prop} {bytes : ByteArray} {maxL : Nat} {ret : Option FieldType} {hh : List (Nat × Nat × Nat × Nat)}
    (hM : vx_Met l y ws rm Pc Qc XC mc ms free) (hblind : FrameBlind Pc) (hrc : rm.cells = mc) (hrs : rm.slots = ms)
    (hframes : rm.frames + 1 ≤ R.frames) (hlocals : W9 + (maxL + 11) + rm.locals ≤ R.locals)
    (hws : ∀ w ∈ ws, ∀ a' U, s.WarmedH U.vm → w.before a' U = true) (hcode : Cond.codeWith y bytes maxL ret hh ∈ ws) (hinit : ∀ a' U, s.WarmedH U.vm → (Cond.initialized y.cls).before a' U = true) :
    vx_Back l R p e below s sargs y len W9 (PreOf R mc ms Pc) (PostOf Qc mc ms free) (vx_Post XC mc ms free) := by
  intro m meth c A g ig mk a X hg hsize hdg hW hn hp
  have h1 : (headSpec ws rm).pre.before a A.U = true := atoms_intro fun w hw => hws w hw _ _ X.warmed
  have h2 : (Cond.codeWith y bytes maxL ret hh).before a A.U = true := hws _ hcode _ _ X.warmed
  have h3 : (Cond.initialized y.cls).before a A.U = true := hinit _ _ X.warmed
  have h4 : A.cells + (headSpec ws rm).room.cells ≤ R.cells := by rw [show (headSpec ws rm).room.cells = mc from hrc]; exact hp.1
  have h5 : A.slots + (headSpec ws rm).room.slots ≤ R.slots := by rw [show (headSpec ws rm).room.slots = ms from hrs]; exact hp.2.1
  have hPc : Pc a (A.U.calling g mk a) := hblind _ _ _ _ hp.2.2
  obtain ⟨U, Ls, c0, s0⟩ := A
  dsimp only [Pt.U, Pt.locs, Pt.cells, Pt.slots] at h1 h2 h3 h4 h5 X hn hPc ⊢
  obtain ⟨m9, methY, cY, hn9, hmY, hcY, -, hlY, -⟩ := Cond.codeWith_spec h2
  cases Option.some.inj (hn9.symm.trans hn)
  obtain ⟨kY, hkY, -⟩ := className_of_methodNamed hn
  have hinitY : kY.init = .initialized := Cond.initialized_spec (findClass_of_methodNamed hn) hkY h3
  have h : At U g.method c below := by rw [hg]; exact X.here
  have hlocals9 : W9 + (maxL + 11) + (headSpec ws rm).room.locals ≤ R.locals := hlocals
  have happ : (headSpec ws rm).appliesLoose y e.platform (U.calling g mk a) = true :=
    Spec.appliesLoose_calling (g := g) h hdg hn hkY hinitY
      (X.room_calling (g := g) (R' := (headSpec ws rm).room) hsize hmY hcY hframes (by rw [hlY]; omega) h4 h5) h1
  obtain ⟨mid, hmid⟩ := h.above
  have hfr : (U.setTop g).frames = (.java g :: mid) ++ below := by rw [State.frames_setTop' g h.top, hmid]; rfl
  obtain ⟨o, s₂, hsteps, -, hend, hq⟩ := Steps.callFree hM p X.admits X.cas X.clock (acts := []) hfr happ hPc trivial
  have hq' : vx_Q Qc XC mc ms free a (U.calling g mk a) o s₂ := hq
  rw [State.frames_setTop' g h.top] at hend
  obtain ⟨g₀, hg0⟩ := Option.isSome_iff_exists.mp h.top
  obtain ⟨r, hr⟩ := State.topJava?_eq_some.mp hg0
  have hr' : (({ U with heap := s₂.heap, slotsUsed := s₂.slotsUsed } : State).setVm s₂.vm).frames = .java g₀ :: r := hr
  rcases hq' with ⟨hqc, L, hfe, hL⟩ | ⟨q, rfl, E, ce, L, hx, hce, hcv, hcl, hW₂, hsm, hL⟩
  · obtain ⟨⟨v, rfl⟩, hW₂, e2, q2, q3, q4, q5, q6⟩ := id hfe
    have e3 : s₂ = ({ (U.calling g mk a).setFrames s₂.frames with heap := s₂.heap, slotsUsed := s₂.slotsUsed } : State).setVm s₂.vm := by
      have : s₂ = ({ s₂ with vm := (U.calling g mk a).vm } : State).setVm s₂.vm := rfl
      rw [e2] at this
      exact this
    obtain ⟨c₂, i₂, len₂, hc₂, hd₂, hf₂⟩ := hend
    have hW' : U.WarmedH s₂.vm := hW₂
    have hcc : c₂ = c := by
      have h1 : s₂.code? g.method = U.code? g.method := by
        rw [State.code?_eq, State.code?_eq, hW'.alike.method?]
      exact Option.some.inj (hc₂.symm.trans (h1.trans h.code))
    subst hcc
    have hlen : len₂ = len := by rw [hdg] at hd₂; cases hd₂; rfl
    subst hlen
    have hs₂ : s₂ = (({ U with heap := s₂.heap, slotsUsed := s₂.slotsUsed } : State).setVm s₂.vm).setTop { g with pc := g.pc + len₂, stack := v.toList ++ g.stack } := by
      refine e3.trans ?_
      rw [hf₂, State.calling_eq h.top, State.setFrames_setFrames, State.setTop_of_frames _ hr', hr]
      rfl
    have hsame : U.sameButNew ({ U with heap := s₂.heap, slotsUsed := s₂.slotsUsed } : State) L mc ms := by
      refine ⟨?_, q2, q3, q4, q5, q6⟩
      obtain ⟨t, ht, -⟩ := State.frames_cons hr
      show ({ U with heap := s₂.heap, slotsUsed := s₂.slotsUsed } : State) = { U.setFrames U.frames with heap := s₂.heap, slotsUsed := s₂.slotsUsed }
      rw [State.setFrames_self ht]
    subst hg
    refine Or.inl ⟨v, ⟨(({ U with heap := s₂.heap, slotsUsed := s₂.slotsUsed } : State).setVm s₂.vm), Ls ++ L, c0 + mc, s0 + ms⟩,
      ⟨X.admits, X.cas, X.clock, X.frames, X.room, X.hears, X.method, X.code, (X.here.setHeapUsed s₂.heap s₂.slotsUsed).setVm hW'.alike, X.tail, State.WarmedH.trans X.warmed hW', X.limits, X.bytes, X.same.trans (hsame.setVm s.vm)⟩,
      ⟨g, mk, s₂, L, rfl, rfl, hqc, rfl, hL, rfl, rfl⟩, ?_⟩
    show Steps p.tables e below _ ((({ U with heap := s₂.heap, slotsUsed := s₂.slotsUsed } : State).setVm s₂.vm).setTop { g with pc := g.pc + len₂, stack := v.toList ++ g.stack })
    rw [← hs₂]
    exact hsteps
  · obtain ⟨e2, q2, q3, q4, q5, q6⟩ := id hsm
    have e3 : s₂ = ({ (U.calling g mk a).setFrames s₂.frames with heap := s₂.heap, slotsUsed := s₂.slotsUsed } : State).setVm s₂.vm := by
      have : s₂ = ({ s₂ with vm := (U.calling g mk a).vm } : State).setVm s₂.vm := rfl
      rw [e2] at this
      exact this
    have hf₂ : s₂.frames = .throwing q :: .java g :: U.frames.tail := hend
    have hW' : U.WarmedH s₂.vm := hW₂
    have hs₂ : s₂ = ((({ U with heap := s₂.heap, slotsUsed := s₂.slotsUsed } : State).setVm s₂.vm).setTop g).pushFrame (.throwing q) := by
      refine e3.trans ?_
      rw [hf₂, State.calling_eq h.top, State.setFrames_setFrames, State.pushFrame, State.frames_setTop _ hr', State.setTop_of_frames _ hr', State.setFrames_setFrames, hr]
      rfl
    have hsame : U.sameButNew ({ U with heap := s₂.heap, slotsUsed := s₂.slotsUsed } : State) L mc ms := by
      refine ⟨?_, q2, q3, q4, q5, q6⟩
      obtain ⟨t, ht, -⟩ := State.frames_cons hr
      show ({ U with heap := s₂.heap, slotsUsed := s₂.slotsUsed } : State) = { U.setFrames U.frames with heap := s₂.heap, slotsUsed := s₂.slotsUsed }
      rw [State.setFrames_self ht]
    subst hg
    refine Or.inr ⟨q, ⟨(({ U with heap := s₂.heap, slotsUsed := s₂.slotsUsed } : State).setVm s₂.vm), Ls ++ L, c0 + mc, s0 + ms⟩,
      ⟨X.admits, X.cas, X.clock, X.frames, X.room, X.hears, X.method, X.code, (X.here.setHeapUsed s₂.heap s₂.slotsUsed).setVm hW'.alike, X.tail, State.WarmedH.trans X.warmed hW', X.limits, X.bytes, X.same.trans (hsame.setVm s.vm)⟩,
      ⟨g, mk, s₂, L, E, ce, rfl, rfl, hx, hce, hcv, hcl, rfl, hL, rfl, rfl⟩, ?_⟩
    show Steps p.tables e below _ (((({ U with heap := s₂.heap, slotsUsed := s₂.slotsUsed } : State).setVm s₂.vm).setTop g).pushFrame (.throwing q))
    rw [← hs₂]
    exact hsteps
end
variable {p : Program} {l : Launch} {e : Env} {R : Room} {s : State} {m : MethodId} {args : Array Value} {below : List Frame} {meth : Method} {c : Code} {T : State} {H : Heap} {locs : List Loc} {cells slots : Nat}
theorem vx_callVX (X : Stand p l e R s m args below meth c T locs cells slots) (hexec : p.tables.exec = Jvm.exec) {own C : String} {index : Nat} {y : MethodName} {bytes : ByteArray} {maxL : Nat} {ret : Option FieldType} {hh : List (Nat × Nat × Nat × Nat)}
    (hown : s.vm.findClass own = some m.cls) (hlink : (Cond.methodLink own index y).before args s = true) (hinst : (Cond.instanceMethod y).before args s = true) (hsel : (Cond.selects C y y).before args s = true)
    (hcode : (Cond.codeWith y bytes maxL ret hh).before args s = true) (hy : y.cls ≠ "java/lang/invoke/MethodHandle" ∧ y.cls ≠ "java/lang/invoke/VarHandle")
    {W9 : Nat} {Pre : Pt → Array Value → Prop} {Post : Pt → Array Value → Option Value → Pt → Prop} {PostX : Pt → Array Value → Addr → Pt → Prop} (hK : vx_Back l R p e below s args y 3 W9 Pre Post PostX)
    {b : Addr} {cellB : Cell} (hcell : T.heap[b]? = some cellB) (hobj : cellB.vm.isStatics = false) (hcls : s.vm.findClass C = some cellB.cls)
    {g : JFrame} (hg : g.method = m) (hsize : g.locals.size = c.maxLocals) {argsL rest : List Value} (hlen : ∀ sig, parseMethodDescriptor y.desc = some sig → argsL.length = sig.parameters.length)
    (hstack : g.stack = argsL.reverse ++ .ref b :: rest) (hW : 2 * g.monitorRoom + (rest.map fun v => v.category).sum ≤ W9) (hdg : decode c.code g.pc = .ok (.invokevirtual index, 3))
    (hpre : ∀ vm₁, s.WarmedH vm₁ → Pre ⟨T.setVm vm₁, locs, cells, slots⟩ (Value.ref b :: argsL).toArray) :
    (∃ (v : Option Value) (vm₁ : Vm) (B : Pt), s.WarmedH vm₁ ∧ Stand p l e R s m args below meth c B.U B.locs B.cells B.slots ∧ Post ⟨T.setVm vm₁, locs, cells, slots⟩ (Value.ref b :: argsL).toArray v B ∧
      ∀ target, Steps p.tables e below (B.U.setTop { g with pc := g.pc + 3, stack := v.toList ++ rest }) target → Steps p.tables e below (T.setTop g) target) ∨
    (∃ (q : Addr) (vm₁ : Vm) (B : Pt), s.WarmedH vm₁ ∧ Stand p l e R s m args below meth c B.U B.locs B.cells B.slots ∧ PostX ⟨T.setVm vm₁, locs, cells, slots⟩ (Value.ref b :: argsL).toArray q B ∧
      Steps p.tables e below (T.setTop g) ((B.U.setTop { g with stack := rest }).pushFrame (.throwing q))) := by
  obtain ⟨mk, methM, hnamed, hmethM, hstM, habM⟩ := Cond.instanceMethod_spec hinst
  obtain ⟨m8, methM', cM, hn8, hmethM', -, -, -, -, -, -, hsigM⟩ := Cond.codeWith_spec hcode
  cases Option.some.inj (hn8.symm.trans hnamed)
  cases hmethM.symm.trans hmethM'
  obtain ⟨c2, r2, m2, q1, q2, q3, q4, kP, hkP, hkPi⟩ := Cond.selects_spec hsel
  cases hcls.symm.trans q1
  cases (State.methodFound?_of_named hnamed hy).symm.trans q2
  cases hnamed.symm.trans q3
  have hselP : selectMethod e.platform s.vm cellB.cls mk = .method mk := by rw [Launch.admits_selectMethod X.admits]; exact q4
  obtain ⟨vm₁, X₁, hstep₁⟩ := X.invokevirtual hexec hown hlink hnamed hmethM hstM hkP hkPi hy (a := b) (cell := cellB) hcell
    (fun z h => by rw [h] at hobj; cases hobj) hselP hmethM habM hkP hkPi (g := g) hg (argsL := argsL) (rest := rest) (hlen _ hsigM) hstack hdg
  rcases hK m meth c ⟨T.setVm vm₁, locs, cells, slots⟩ { g with stack := rest } (.invokevirtual index) mk (Value.ref b :: argsL).toArray X₁ hg hsize hdg hW (X₁.named hnamed) (hpre vm₁ X₁.warmed) with ⟨v, B, X', hpost, hsteps⟩ | ⟨q, B, X', hpost, hsteps⟩
  · exact Or.inl ⟨v, vm₁, B, X₁.warmed, X', hpost, fun target h => hstep₁ _ fun acts => by rw [doInvoke_state]; exact hsteps.trans h⟩
  · exact Or.inr ⟨q, vm₁, B, X₁.warmed, X', hpost, hstep₁ _ fun acts => by rw [doInvoke_state]; exact hsteps⟩
theorem vx_callSX (X : Stand p l e R s m args below meth c T locs cells slots) (hexec : p.tables.exec = Jvm.exec) {own : String} {index : Nat} {y : MethodName} {bytes : ByteArray} {maxL : Nat} {ret : Option FieldType} {hh : List (Nat × Nat × Nat × Nat)}
    (hown : s.vm.findClass own = some m.cls) (hlink : (Cond.methodLink own index y).before args s = true) (hstat : (Cond.static y).before args s = true) (hinit : (Cond.initialized y.cls).before args s = true)
    (hcode : (Cond.codeWith y bytes maxL ret hh).before args s = true) (hy : y.cls ≠ "java/lang/invoke/MethodHandle" ∧ y.cls ≠ "java/lang/invoke/VarHandle")
    {W9 : Nat} {Pre : Pt → Array Value → Prop} {Post : Pt → Array Value → Option Value → Pt → Prop} {PostX : Pt → Array Value → Addr → Pt → Prop} (hK : vx_Back l R p e below s args y 3 W9 Pre Post PostX)
    {g : JFrame} (hg : g.method = m) (hsize : g.locals.size = c.maxLocals) {argsL rest : List Value} (hlen : ∀ sig, parseMethodDescriptor y.desc = some sig → argsL.length = sig.parameters.length)
    (hstack : g.stack = argsL.reverse ++ rest) (hW : 2 * g.monitorRoom + (rest.map fun v => v.category).sum ≤ W9) (hdg : decode c.code g.pc = .ok (.invokestatic index, 3))
    (hpre : ∀ vm₁, s.WarmedH vm₁ → Pre ⟨T.setVm vm₁, locs, cells, slots⟩ argsL.toArray) :
    (∃ (v : Option Value) (vm₁ : Vm) (B : Pt), s.WarmedH vm₁ ∧ Stand p l e R s m args below meth c B.U B.locs B.cells B.slots ∧ Post ⟨T.setVm vm₁, locs, cells, slots⟩ argsL.toArray v B ∧
      ∀ target, Steps p.tables e below (B.U.setTop { g with pc := g.pc + 3, stack := v.toList ++ rest }) target → Steps p.tables e below (T.setTop g) target) ∨
    (∃ (q : Addr) (vm₁ : Vm) (B : Pt), s.WarmedH vm₁ ∧ Stand p l e R s m args below meth c B.U B.locs B.cells B.slots ∧ PostX ⟨T.setVm vm₁, locs, cells, slots⟩ argsL.toArray q B ∧
      Steps p.tables e below (T.setTop g) ((B.U.setTop { g with stack := rest }).pushFrame (.throwing q))) := by
  obtain ⟨mk, methM, cM, hnamed, hmethM, -, -, -, -, -, -, hsigM⟩ := Cond.codeWith_spec hcode
  have hstatic : methM.isStatic = true := Cond.static_spec hnamed hmethM hstat
  obtain ⟨kP, hkP, -⟩ := className_of_methodNamed hnamed
  have hinitP : kP.init = .initialized := Cond.initialized_spec (findClass_of_methodNamed hnamed) hkP hinit
  obtain ⟨vm₁, X₁, hstep₁⟩ := X.invokestatic hexec hown hlink hnamed hmethM hstatic hkP hinitP hy (g := g) hg (argsL := argsL) (rest := rest) (hlen _ hsigM) hstack hdg
  rcases hK m meth c ⟨T.setVm vm₁, locs, cells, slots⟩ { g with stack := rest } (.invokestatic index) mk argsL.toArray X₁ hg hsize hdg hW (X₁.named hnamed) (hpre vm₁ X₁.warmed) with ⟨v, B, X', hpost, hsteps⟩ | ⟨q, B, X', hpost, hsteps⟩
  · exact Or.inl ⟨v, vm₁, B, X₁.warmed, X', hpost, fun target h => hstep₁ _ fun acts => by rw [doInvoke_state]; exact hsteps.trans h⟩
  · exact Or.inr ⟨q, vm₁, B, X₁.warmed, X', hpost, hstep₁ _ fun acts => by rw [doInvoke_state]; exact hsteps⟩
theorem vx_callVW (X : Stand p l e R s m args below meth c T locs cells slots) (hexec : p.tables.exec = Jvm.exec) {own C : String} {index : Nat} {y : MethodName} {bytes : ByteArray} {maxL : Nat} {ret : Option FieldType} {hh : List (Nat × Nat × Nat × Nat)}
    (hown : s.vm.findClass own = some m.cls) (hlink : (Cond.methodLink own index y).before args s = true) (hinst : (Cond.instanceMethod y).before args s = true) (hsel : (Cond.selects C y y).before args s = true)
    (hcode : (Cond.codeWith y bytes maxL ret hh).before args s = true) (hy : y.cls ≠ "java/lang/invoke/MethodHandle" ∧ y.cls ≠ "java/lang/invoke/VarHandle")
    {W9 : Nat} {Pre : Pt → Array Value → Prop} {Post : Pt → Array Value → Option Value → Pt → Prop} (hK : Back l R p e below s args y 3 W9 Pre Post)
    {b : Addr} {cellB : Cell} (hcell : T.heap[b]? = some cellB) (hobj : cellB.vm.isStatics = false) (hcls : s.vm.findClass C = some cellB.cls)
    {g : JFrame} (hg : g.method = m) (hsize : g.locals.size = c.maxLocals) {argsL rest : List Value} (hlen : ∀ sig, parseMethodDescriptor y.desc = some sig → argsL.length = sig.parameters.length)
    (hstack : g.stack = argsL.reverse ++ .ref b :: rest) (hW : 2 * g.monitorRoom + (rest.map fun v => v.category).sum ≤ W9) (hdg : decode c.code g.pc = .ok (.invokevirtual index, 3))
    (hpre : ∀ vm₁, s.WarmedH vm₁ → Pre ⟨T.setVm vm₁, locs, cells, slots⟩ (Value.ref b :: argsL).toArray) :
    ∃ (v : Option Value) (vm₁ : Vm) (B : Pt), s.WarmedH vm₁ ∧ Stand p l e R s m args below meth c B.U B.locs B.cells B.slots ∧ Post ⟨T.setVm vm₁, locs, cells, slots⟩ (Value.ref b :: argsL).toArray v B ∧
      ∀ target, Steps p.tables e below (B.U.setTop { g with pc := g.pc + 3, stack := v.toList ++ rest }) target → Steps p.tables e below (T.setTop g) target := by
  obtain ⟨mk, methM, hnamed, hmethM, hstM, habM⟩ := Cond.instanceMethod_spec hinst
  obtain ⟨m8, methM', cM, hn8, hmethM', -, -, -, -, -, -, hsigM⟩ := Cond.codeWith_spec hcode
  cases Option.some.inj (hn8.symm.trans hnamed)
  cases hmethM.symm.trans hmethM'
  obtain ⟨c2, r2, m2, q1, q2, q3, q4, kP, hkP, hkPi⟩ := Cond.selects_spec hsel
  cases hcls.symm.trans q1
  cases (State.methodFound?_of_named hnamed hy).symm.trans q2
  cases hnamed.symm.trans q3
  have hselP : selectMethod e.platform s.vm cellB.cls mk = .method mk := by rw [Launch.admits_selectMethod X.admits]; exact q4
  obtain ⟨vm₁, X₁, hstep₁⟩ := X.invokevirtual hexec hown hlink hnamed hmethM hstM hkP hkPi hy (a := b) (cell := cellB) hcell
    (fun z h => by rw [h] at hobj; cases hobj) hselP hmethM habM hkP hkPi (g := g) hg (argsL := argsL) (rest := rest) (hlen _ hsigM) hstack hdg
  obtain ⟨v, B, X', hpost, hsteps⟩ := hK m meth c ⟨T.setVm vm₁, locs, cells, slots⟩ { g with stack := rest } (.invokevirtual index) mk (Value.ref b :: argsL).toArray X₁ hg hsize hdg hW (X₁.named hnamed) (hpre vm₁ X₁.warmed)
  exact ⟨v, vm₁, B, X₁.warmed, X', hpost, fun target h => hstep₁ _ fun acts => by rw [doInvoke_state]; exact hsteps.trans h⟩
abbrev vx_CVW (R : Room) (s : State) (args : Array Value) (own C : String) (index : Nat) (y : MethodName) (bytes : ByteArray) (maxL : Nat) (ret : Option FieldType) (hh : List (Nat × Nat × Nat × Nat)) (ws : List Cond) (rm : Room) (mc ms n : Nat) : Prop :=
  (rm.cells = mc ∧ rm.slots = ms ∧ rm.frames + 1 ≤ R.frames ∧ 8 + (maxL + 11) + rm.locals ≤ R.locals ∧ (∀ w ∈ ws, ∀ (a' : Array Value) (U : State), s.WarmedH U.vm → w.before a' U = true) ∧ Cond.codeWith y bytes maxL ret hh ∈ ws) ∧
  (Cond.codeWith y bytes maxL ret hh).before args s = true ∧ (Cond.initialized y.cls).before args s = true ∧ (y.cls ≠ "java/lang/invoke/MethodHandle" ∧ y.cls ≠ "java/lang/invoke/VarHandle") ∧
  (∀ sig, parseMethodDescriptor y.desc = some sig → n = sig.parameters.length) ∧ (Cond.methodLink own index y).before args s = true ∧ (Cond.instanceMethod y).before args s = true ∧ (Cond.selects C y y).before args s = true
theorem vx_cwVW {own C : String} {index maxL mc ms : Nat} {y : MethodName} {bytes : ByteArray} {ret : Option FieldType} {hh : List (Nat × Nat × Nat × Nat)} {Ts ws ws' : List Cond} {rm : Room} (n : Nat) (ht : ∀ w ∈ Ts, w.before args s = true) (hT : GoodIn Ts (wsV own index C y ws)) (hw : ws = Cond.codeWith y bytes maxL ret hh :: ws') (hrc : rm.cells = mc) (hrs : rm.slots = ms)
    (hd : y.cls = C ∧ y.cls ≠ "java/lang/invoke/MethodHandle" ∧ y.cls ≠ "java/lang/invoke/VarHandle" ∧ (parseMethodDescriptor y.desc).map (fun d => d.parameters.length) = some n) (hR : rm.frames + 1 ≤ R.frames ∧ 8 + (maxL + 11) + rm.locals ≤ R.locals) :
    vx_CVW R s args own C index y bytes maxL ret hh ws rm mc ms n := by
  obtain ⟨hC, hd⟩ := hd
  subst hC
  have ok : ∀ w ∈ wsV own index y.cls y ws, w.before args s = true := fun w h => ht w (hT w h).1
  have hG : GoodIn Ts ws := fun w h => hT w (by unfold wsV; exact List.mem_append_right _ h)
  have hc : Cond.codeWith y bytes maxL ret hh ∈ ws := by rw [hw]; exact List.mem_cons_self
  refine ⟨⟨hrc, hrs, hR.1, hR.2, pay_in ht hG, hc⟩, ht _ (hG _ hc).1, ok _ (by simp [wsV]), ⟨hd.1, hd.2.1⟩, fun sig h => ?_, ok _ (by simp [wsV]), ok _ (by simp [wsV]), ok _ (by simp [wsV])⟩
  have h2 := hd.2.2
  rw [h] at h2
  exact (Option.some.inj h2).symm
theorem vx_runVW {y : MethodName} {bytes cc : ByteArray} {maxL nL mc ms n index : Nat} {ret : Option FieldType} {hh : List (Nat × Nat × Nat × Nat)} {ws : List Cond} {rm : Room} {Pc : Array Value → State → Prop} {Qc : Array Value → State → Outcome → State → Prop} {free : Addr → Prop} {Ts : List Cond} {own C : String} {b : Addr} {As rest : List Value} {g : JFrame}
    (S : CallFix p m c cc nL s args Ts own) (hM : Met l y ws rm Pc Qc mc ms free) (cw : vx_CVW R s args own C index y bytes maxL ret hh ws rm mc ms n) (hp : PreV s H C b Pc As)
    (hg : g.method = m) (hn : As.length = n) (hsize : g.locals.size = nL) (hstack : g.stack = As.reverse ++ .ref b :: rest) (hW : 2 * g.monitorRoom + (rest.map fun v => v.category).sum ≤ 8) (hdg : decode cc g.pc = .ok (.invokevirtual index, 3)) (hf : cells + mc ≤ R.cells ∧ slots + ms ≤ R.slots) :
    va_Run p l e R s m args below meth c H locs cells slots mc ms g rest (Qc (Value.ref b :: As).toArray) free := by
  obtain ⟨⟨hrc, hrs, hfr, hlo, hws, hcw⟩, hcode, hini, hy, hlen, hl, hin, hse⟩ := cw
  have hK : Back l R p e below s args y 3 8 (PreOf R mc ms Pc) (PostOf Qc mc ms free) := va_backW (hh := hh) (bytes := bytes) (maxL := maxL) (ret := ret) hM hp.1 hrc hrs hfr hlo hws hcw (fun a' U hW => word_at hW (Or.inl (by first | rfl | simp [Cond.onTables, Cond.keeps, Cond.steady])) hini)
  obtain ⟨hx, hb, hml, ho, -⟩ := S
  obtain ⟨-, ⟨cellB, hcB, hoB, hclB⟩, hPc⟩ := hp
  intro T hT X
  obtain ⟨v, vm₁, ⟨U', l2, c2, s2⟩, hW₁, X', ⟨g', mk, t, L, e1, e2, hq, h1, hL, h2, h3⟩, st⟩ := vx_callVW X hx (C := C) (hh := hh) (bytes := bytes) (maxL := maxL) (ret := ret) ho hl hin hse hcode hy hK (by rw [hT]; exact hcB) hoB hclB hg (hsize.trans hml.symm) (argsL := As) (rest := rest) (fun sig h => hn.trans (hlen sig h)) hstack hW (by rw [hb]; exact hdg)
    (fun vm₁ hW₁ => ⟨hf.1, hf.2, hPc (T.setVm vm₁) hT hW₁⟩)
  dsimp only [Pt.U, Pt.locs, Pt.cells, Pt.slots] at X' e1 e2 h1 h2 h3 st
  subst h1; subst h2; subst h3
  exact ⟨v, (T.setVm vm₁).calling g' mk (Value.ref b :: As).toArray, t, U', L, hT, X', hL, e1, e2, hq, st⟩
section
variable {y : MethodName} {bytes cc : ByteArray} {maxL nL mc ms n index : Nat} {ret : Option FieldType} {ws : List Cond} {rm : Room} {Pc : Array Value → State → Prop} {Qc : Array Value → State → Outcome → State → Prop} {XC : String → State → State → Prop} {free : Addr → Prop} {Ts : List Cond} {own C : String} {b : Addr} {As rest : List Value} {g : JFrame}
theorem vx_runVX {hh : List (Nat × Nat × Nat × Nat)} (S : CallFix p m c cc nL s args Ts own) (hM : vx_Met l y ws rm Pc Qc XC mc ms free) (cw : vx_CVW R s args own C index y bytes maxL ret hh ws rm mc ms n) (hp : PreV s H C b Pc As)
    (hg : g.method = m) (hn : As.length = n) (hsize : g.locals.size = nL) (hstack : g.stack = As.reverse ++ .ref b :: rest) (hW : 2 * g.monitorRoom + (rest.map fun v => v.category).sum ≤ 8) (hdg : decode cc g.pc = .ok (.invokevirtual index, 3)) (hf : cells + mc ≤ R.cells ∧ slots + ms ≤ R.slots) :
    vx_Run p l e R s m args below meth c H locs cells slots mc ms g rest (Qc (Value.ref b :: As).toArray) XC free := by
  obtain ⟨⟨hrc, hrs, hfr, hlo, hws, hcw⟩, hcode, hini, hy, hlen, hl, hin, hse⟩ := cw
  have hK : vx_Back l R p e below s args y 3 8 (PreOf R mc ms Pc) (PostOf Qc mc ms free) (vx_Post XC mc ms free) := vx_backW (hh := hh) (bytes := bytes) (maxL := maxL) (ret := ret) hM hp.1 hrc hrs hfr hlo hws hcw (fun a' U hW => word_at hW (Or.inl (by first | rfl | simp [Cond.onTables, Cond.keeps, Cond.steady])) hini)
  obtain ⟨hx, hb, hml, ho, -⟩ := S
  obtain ⟨-, ⟨cellB, hcB, hoB, hclB⟩, hPc⟩ := hp
  intro T hT X
  rcases vx_callVX X hx (C := C) (hh := hh) (bytes := bytes) (maxL := maxL) (ret := ret) ho hl hin hse hcode hy hK (by rw [hT]; exact hcB) hoB hclB hg (hsize.trans hml.symm) (argsL := As) (rest := rest) (fun sig h => hn.trans (hlen sig h)) hstack hW (by rw [hb]; exact hdg)
    (fun vm₁ hW₁ => ⟨hf.1, hf.2, hPc (T.setVm vm₁) hT hW₁⟩) with ⟨v, vm₁, ⟨U', l2, c2, s2⟩, hW₁, X', ⟨g', mk, t, L, e1, e2, hq, h1, hL, h2, h3⟩, st⟩ | ⟨q, vm₁, ⟨U', l2, c2, s2⟩, hW₁, X', ⟨g', mk, t, L, E, ce, e1, e2, hq, hce, hcv, hcl, h1, hL, h2, h3⟩, st⟩
  · dsimp only [Pt.U, Pt.locs, Pt.cells, Pt.slots] at X' e1 e2 h1 h2 h3 st
    subst h1; subst h2; subst h3
    exact Or.inl ⟨v, (T.setVm vm₁).calling g' mk (Value.ref b :: As).toArray, t, U', L, hT, X', hL, e1, e2, hq, st⟩
  · dsimp only [Pt.U, Pt.locs, Pt.cells, Pt.slots] at X' e1 e2 h1 h2 h3 st hcl
    subst h1; subst h2; subst h3
    exact Or.inr ⟨q, (T.setVm vm₁).calling g' mk (Value.ref b :: As).toArray, t, U', L, E, ce, hT, X', hL, e1, e2, hq, hce, hcv, vx_cls hW₁ hcl, st⟩
theorem vx_runSX {hh : List (Nat × Nat × Nat × Nat)} (S : CallFix p m c cc nL s args Ts own) (hM : vx_Met l y ws rm Pc Qc XC mc ms free) (cw : vx_CSW R s args own index y bytes maxL ret hh ws rm mc ms n) (hp : PreS s H Pc As)
    (hg : g.method = m) (hn : As.length = n) (hsize : g.locals.size = nL) (hstack : g.stack = As.reverse ++ rest) (hW : 2 * g.monitorRoom + (rest.map fun v => v.category).sum ≤ 8) (hdg : decode cc g.pc = .ok (.invokestatic index, 3)) (hf : cells + mc ≤ R.cells ∧ slots + ms ≤ R.slots) :
    vx_Run p l e R s m args below meth c H locs cells slots mc ms g rest (Qc As.toArray) XC free := by
  obtain ⟨⟨hrc, hrs, hfr, hlo, hws, hcw⟩, hcode, hini, hy, hlen, hl, hstt⟩ := cw
  have hK : vx_Back l R p e below s args y 3 8 (PreOf R mc ms Pc) (PostOf Qc mc ms free) (vx_Post XC mc ms free) := vx_backW (hh := hh) (bytes := bytes) (maxL := maxL) (ret := ret) hM hp.1 hrc hrs hfr hlo hws hcw (fun a' U hW => word_at hW (Or.inl (by first | rfl | simp [Cond.onTables, Cond.keeps, Cond.steady])) hini)
  obtain ⟨hx, hb, hml, ho, -⟩ := S
  intro T hT X
  rcases vx_callSX X hx (hh := hh) (bytes := bytes) (maxL := maxL) (ret := ret) ho hl hstt hini hcode hy hK hg (hsize.trans hml.symm) (argsL := As) (rest := rest) (fun sig h => hn.trans (hlen sig h)) hstack hW (by rw [hb]; exact hdg)
    (fun vm₁ hW₁ => ⟨hf.1, hf.2, hp.2 (T.setVm vm₁) hT hW₁⟩) with ⟨v, vm₁, ⟨U', l2, c2, s2⟩, hW₁, X', ⟨g', mk, t, L, e1, e2, hq, h1, hL, h2, h3⟩, st⟩ | ⟨q, vm₁, ⟨U', l2, c2, s2⟩, hW₁, X', ⟨g', mk, t, L, E, ce, e1, e2, hq, hce, hcv, hcl, h1, hL, h2, h3⟩, st⟩
  · dsimp only [Pt.U, Pt.locs, Pt.cells, Pt.slots] at X' e1 e2 h1 h2 h3 st
    subst h1; subst h2; subst h3
    exact Or.inl ⟨v, (T.setVm vm₁).calling g' mk As.toArray, t, U', L, hT, X', hL, e1, e2, hq, st⟩
  · dsimp only [Pt.U, Pt.locs, Pt.cells, Pt.slots] at X' e1 e2 h1 h2 h3 st hcl
    subst h1; subst h2; subst h3
    exact Or.inr ⟨q, (T.setVm vm₁).calling g' mk As.toArray, t, U', L, E, ce, hT, X', hL, e1, e2, hq, hce, hcv, vx_cls hW₁ hcl, st⟩
end
end VXH
theorem vx_ofWH {l : Launch} {y : MethodName} {ws ws' : List Cond} {rm : Room} {Pc : Array Value → State → Prop} {Qc : Array Value → State → Outcome → State → Prop} {XC : String → State → State → Prop} {mc ms : Nat} {free : Addr → Prop} {cc : ByteArray} {maxL : Nat} {ret : Option FieldType} {hh : List (Nat × Nat × Nat × Nat)}
    (hy : plainName y.cls = true) (hw : ws = Cond.codeWith y cc maxL ret hh :: ws')
    (body : ∀ p e s m args below meth c s₁, BodyLoose p l y (headSpec ws rm) cc maxL ret e s m args below meth c s₁ → c.maxLocals = maxL → Pc args s →
      W p l e (headSpec ws rm).room s m args below meth c s.heap [] 0 0 (vx_MQ below Qc XC args s mc ms free) (entryFrame m args maxL)) : vx_Met l y ws rm Pc Qc XC mc ms free := by
  refine MetFree.of_bodyS (code := cc) (maxLocals := maxL) (ret := ret) hy ?_ ?_
  · intro args s m h hn
    obtain ⟨m9, meth, c, hn9, h1, h2, h3, h4, -, h5, h6, -⟩ := Cond.codeWith_spec (atoms_spec (ws := ws) h _ (by rw [hw]; exact List.mem_cons_self))
    cases hn.symm.trans hn9
    exact ⟨meth, c, h1, h2, h3, h4, h5, h6⟩
  · intro p e s m args below meth c s₁ B hml hP _
    have hh0 : s₁.heap = s.heap := by rw [B.state]; rfl
    obtain ⟨t, a1, o, b1, b2, b3⟩ := body p e s m args below meth c s₁ B hml hP s₁ hh0 (Stand.of_body B)
    exact ⟨t, o, a1, b1, b2, b3⟩
/-! ===== END ===== -/

/-! ===== BEGIN printed: names, fields, word lists, decode rows ===== -/
def RX0 : String := "BridgeBells$Bridge"
def TX0 : u_T := fun k => match k with
  | 0 => ("BridgeBells$Bridge", "minute", "I", false)
  | 1 => ("BridgeBells$Bridge", "angle", "I", false)
  | 2 => ("BridgeBells$Bridge", "counterpoise", "I", false)
  | 3 => ("BridgeBells$Bridge", "ice", "I", false)
  | 4 => ("BridgeBells$Bridge", "code", "I", false)
  | 5 => ("BridgeBells$Bridge", "waitedInAll", "I", false)
  | 6 => ("BridgeBells$Bridge", "cold", "[I", true)
  | 7 => ("BridgeBells$Bridge", "travellers", "LBridgeBells$Travellers;", true)
  | 8 => ("BridgeBells$Bridge", "passing", "I", false)
  | 9 => ("BridgeBells$Bridge", "toGo", "I", false)
  | _ => ("BridgeBells$Bridge", "latestWasBarge", "Z", false)
def tyX0 : Nat → FieldType := fun k => match k with
  | 0 => .int
  | 1 => .int
  | 2 => .int
  | 3 => .int
  | 4 => .int
  | 5 => .int
  | 6 => .array .int
  | 7 => .object "BridgeBells$Travellers"
  | 8 => .int
  | 9 => .int
  | _ => .boolean
abbrev wsX00 : List Cond := u_ws RX0 TX0 11
theorem nmX0 : ∀ a, a < 11 → ∀ b, b < 11 → a ≠ b → (TX0 a).2.1 ≠ (TX0 b).2.1 := by decide +kernel
theorem tyX0_ok : ∀ k, k < 11 → parseFieldDescriptor (TX0 k).2.2.1 = some (tyX0 k) := by decide +kernel
abbrev cX0_init : ByteArray := prog_2_method_1_code
def yX0_init : MethodName := ⟨RX0, "<init>", "()V"⟩
abbrev cX0_copyFrom : ByteArray := prog_2_method_2_code
def yX0_copyFrom : MethodName := ⟨RX0, "copyFrom", "(LBridgeBells$Bridge;)V"⟩
abbrev cX0_goOn : ByteArray := prog_2_method_3_code
def yX0_goOn : MethodName := ⟨RX0, "goOn", "(I)V"⟩
abbrev cX0_goOneMinute : ByteArray := prog_2_method_4_code
def yX0_goOneMinute : MethodName := ⟨RX0, "goOneMinute", "()V"⟩
abbrev cX0_speedTowards : ByteArray := prog_2_method_5_code
def yX0_speedTowards : MethodName := ⟨RX0, "speedTowards", "(Z)I"⟩
abbrev cX0_servedNext : ByteArray := prog_2_method_6_code
def yX0_servedNext : MethodName := ⟨RX0, "servedNext", "()I"⟩
abbrev cX0_serve : ByteArray := prog_2_method_7_code
def yX0_serve : MethodName := ⟨RX0, "serve", "(I)V"⟩
abbrev cX0_goOnPassing : ByteArray := prog_2_method_8_code
def yX0_goOnPassing : MethodName := ⟨RX0, "goOnPassing", "()V"⟩
abbrev cX0_freeze : ByteArray := prog_2_method_9_code
def yX0_freeze : MethodName := ⟨RX0, "freeze", "()V"⟩
abbrev cX0_total : ByteArray := prog_2_method_10_code
def yX0_total : MethodName := ⟨RX0, "total", "(I)I"⟩
abbrev cX0_factOf : ByteArray := prog_2_method_11_code
def yX0_factOf : MethodName := ⟨RX0, "factOf", "(II)I"⟩
def RX1 : String := "BridgeBells$Travellers"
def TX1 : u_T := fun k => match k with
  | 0 => ("BridgeBells$Travellers", "number", "I", false)
  | 1 => ("BridgeBells$Travellers", "passed", "I", false)
  | 2 => ("BridgeBells$Travellers", "bargesWaiting", "I", false)
  | 3 => ("BridgeBells$Travellers", "cartsWaiting", "I", false)
  | 4 => ("BridgeBells$Travellers", "barge", "[I", true)
  | 5 => ("BridgeBells$Travellers", "needs", "[I", true)
  | 6 => ("BridgeBells$Travellers", "state", "[I", true)
  | 7 => ("BridgeBells$Travellers", "came", "[I", true)
  | 8 => ("BridgeBells$Travellers", "passedIn", "[I", true)
  | 9 => ("BridgeBells$Travellers", "waitEnd", "[I", true)
  | 10 => ("BridgeBells$Travellers", "firstBarge", "I", false)
  | _ => ("BridgeBells$Travellers", "firstCart", "I", false)
def tyX1 : Nat → FieldType := fun k => match k with
  | 0 => .int
  | 1 => .int
  | 2 => .int
  | 3 => .int
  | 4 => .array .int
  | 5 => .array .int
  | 6 => .array .int
  | 7 => .array .int
  | 8 => .array .int
  | 9 => .array .int
  | 10 => .int
  | _ => .int
abbrev wsX10 : List Cond := u_ws RX1 TX1 12
theorem nmX1 : ∀ a, a < 12 → ∀ b, b < 12 → a ≠ b → (TX1 a).2.1 ≠ (TX1 b).2.1 := by decide +kernel
theorem tyX1_ok : ∀ k, k < 12 → parseFieldDescriptor (TX1 k).2.2.1 = some (tyX1 k) := by decide +kernel
abbrev cX1_init : ByteArray := prog_3_method_1_code
def yX1_init : MethodName := ⟨RX1, "<init>", "()V"⟩
abbrev cX1_copyFrom : ByteArray := prog_3_method_2_code
def yX1_copyFrom : MethodName := ⟨RX1, "copyFrom", "(LBridgeBells$Travellers;)V"⟩
abbrev cX1_has : ByteArray := prog_3_method_3_code
def yX1_has : MethodName := ⟨RX1, "has", "(I)Z"⟩
abbrev cX1_add : ByteArray := prog_3_method_4_code
def yX1_add : MethodName := ⟨RX1, "add", "(ZII)I"⟩
abbrev cX1_endWait : ByteArray := prog_3_method_5_code
def yX1_endWait : MethodName := ⟨RX1, "endWait", "(III)V"⟩
abbrev cX1_endPassage : ByteArray := prog_3_method_6_code
def yX1_endPassage : MethodName := ⟨RX1, "endPassage", "(II)V"⟩
abbrev cX1_waited : ByteArray := prog_3_method_7_code
def yX1_waited : MethodName := ⟨RX1, "waited", "(II)I"⟩
abbrev cX1_firstOfAll : ByteArray := prog_3_method_8_code
def yX1_firstOfAll : MethodName := ⟨RX1, "firstOfAll", "()I"⟩
abbrev cX1_firstBargeElseCart : ByteArray := prog_3_method_9_code
def yX1_firstBargeElseCart : MethodName := ⟨RX1, "firstBargeElseCart", "()I"⟩
abbrev cX1_firstCartElseBarge : ByteArray := prog_3_method_10_code
def yX1_firstCartElseBarge : MethodName := ⟨RX1, "firstCartElseBarge", "()I"⟩
abbrev cX1_seeWhoWaits : ByteArray := prog_3_method_11_code
def yX1_seeWhoWaits : MethodName := ⟨RX1, "seeWhoWaits", "()V"⟩
def RX2 : String := "BridgeBells"
def TX2 : u_T := fun k => match k with
  | 0 => ("BridgeBells", "bridge", "LBridgeBells$Bridge;", true)
  | _ => ("BridgeBells", "trial", "LBridgeBells$Bridge;", true)
def tyX2 : Nat → FieldType := fun k => match k with
  | 0 => .object "BridgeBells$Bridge"
  | _ => .object "BridgeBells$Bridge"
abbrev wsX20 : List Cond := u_ws RX2 TX2 2
theorem nmX2 : ∀ a, a < 2 → ∀ b, b < 2 → a ≠ b → (TX2 a).2.1 ≠ (TX2 b).2.1 := by decide +kernel
theorem tyX2_ok : ∀ k, k < 2 → parseFieldDescriptor (TX2 k).2.2.1 = some (tyX2 k) := by decide +kernel
abbrev cX2_init : ByteArray := prog_1_method_1_code
def yX2_init : MethodName := ⟨RX2, "<init>", "()V"⟩
abbrev cX2_come : ByteArray := prog_1_method_2_code
def yX2_come : MethodName := ⟨RX2, "come", "(ZI)I"⟩
abbrev cX2_leave : ByteArray := prog_1_method_3_code
def yX2_leave : MethodName := ⟨RX2, "leave", "(I)I"⟩
abbrev cX2_ring : ByteArray := prog_1_method_4_code
def yX2_ring : MethodName := ⟨RX2, "ring", "(I)I"⟩
abbrev cX2_poise : ByteArray := prog_1_method_5_code
def yX2_poise : MethodName := ⟨RX2, "poise", "(I)I"⟩
abbrev cX2_setCold : ByteArray := prog_1_method_6_code
def yX2_setCold : MethodName := ⟨RX2, "setCold", "(II)I"⟩
abbrev cX2_crack : ByteArray := prog_1_method_7_code
def yX2_crack : MethodName := ⟨RX2, "crack", "()I"⟩
abbrev cX2_traveller : ByteArray := prog_1_method_8_code
def yX2_traveller : MethodName := ⟨RX2, "traveller", "(II)I"⟩
abbrev cX2_count : ByteArray := prog_1_method_9_code
def yX2_count : MethodName := ⟨RX2, "count", "(I)I"⟩
abbrev cX2_speed : ByteArray := prog_1_method_10_code
def yX2_speed : MethodName := ⟨RX2, "speed", "(Z)I"⟩
abbrev cX2_pass : ByteArray := prog_1_method_11_code
def yX2_pass : MethodName := ⟨RX2, "pass", "(I)I"⟩
abbrev cX2_when : ByteArray := prog_1_method_12_code
def yX2_when : MethodName := ⟨RX2, "when", "(I)I"⟩
abbrev cX2_foresee : ByteArray := prog_1_method_13_code
def yX2_foresee : MethodName := ⟨RX2, "foresee", "(II)I"⟩
abbrev cX2_bestCode : ByteArray := prog_1_method_14_code
def yX2_bestCode : MethodName := ⟨RX2, "bestCode", "(I)I"⟩
abbrev cX2_bestPoise : ByteArray := prog_1_method_15_code
def yX2_bestPoise : MethodName := ⟨RX2, "bestPoise", "(I)I"⟩
abbrev cX2_mean : ByteArray := prog_1_method_16_code
def yX2_mean : MethodName := ⟨RX2, "mean", "()D"⟩
abbrev cX2_digest : ByteArray := prog_1_method_17_code
def yX2_digest : MethodName := ⟨RX2, "digest", "()J"⟩
abbrev cX2_isSpan : ByteArray := prog_1_method_18_code
def yX2_isSpan : MethodName := ⟨RX2, "isSpan", "(I)Z"⟩
abbrev cX2_waitWith : ByteArray := prog_1_method_19_code
def yX2_waitWith : MethodName := ⟨RX2, "waitWith", "(III)I"⟩
def RX3 : String := "BridgeBellsModel$State"
def TX3 : u_T := fun k => match k with
  | _ => ("", "", "", false)
def tyX3 : Nat → FieldType := fun k => match k with
  | _ => .int
abbrev wsX30 : List Cond := u_ws RX3 TX3 0
theorem nmX3 : ∀ a, a < 0 → ∀ b, b < 0 → a ≠ b → (TX3 a).2.1 ≠ (TX3 b).2.1 := by decide +kernel
theorem tyX3_ok : ∀ k, k < 0 → parseFieldDescriptor (TX3 k).2.2.1 = some (tyX3 k) := by decide +kernel
def RX4 : String := "BridgeBellsModel"
def TX4 : u_T := fun k => match k with
  | _ => ("", "", "", false)
def tyX4 : Nat → FieldType := fun k => match k with
  | _ => .int
abbrev wsX40 : List Cond := u_ws RX4 TX4 0
theorem nmX4 : ∀ a, a < 0 → ∀ b, b < 0 → a ≠ b → (TX4 a).2.1 ≠ (TX4 b).2.1 := by decide +kernel
theorem tyX4_ok : ∀ k, k < 0 → parseFieldDescriptor (TX4 k).2.2.1 = some (tyX4 k) := by decide +kernel
def RJ9 : String := "java/lang/Math"
def TJ9 : u_T := fun k => match k with
  | _ => ("", "", "", false)
def tyJ9 : Nat → FieldType := fun k => match k with
  | _ => .int
abbrev wsJ90 : List Cond := u_ws RJ9 TJ9 0
theorem nmJ9 : ∀ a, a < 0 → ∀ b, b < 0 → a ≠ b → (TJ9 a).2.1 ≠ (TJ9 b).2.1 := by decide +kernel
theorem tyJ9_ok : ∀ k, k < 0 → parseFieldDescriptor (TJ9 k).2.2.1 = some (tyJ9 k) := by decide +kernel
abbrev cJ9_floorMod_7cf53 : ByteArray := prog_11_method_50_code
def yJ9_floorMod_7cf53 : MethodName := ⟨RJ9, "floorMod", "(II)I"⟩
abbrev cJ9_max_7cf53 : ByteArray := prog_11_method_65_code
def yJ9_max_7cf53 : MethodName := ⟨RJ9, "max", "(II)I"⟩
abbrev cJ9_min_7cf53 : ByteArray := prog_11_method_69_code
def yJ9_min_7cf53 : MethodName := ⟨RJ9, "min", "(II)I"⟩
def RJ0 : String := "java/lang/String"
def TJ0 : u_T := fun k => match k with
  | _ => ("", "", "", false)
def tyJ0 : Nat → FieldType := fun k => match k with
  | _ => .int
abbrev wsJ00 : List Cond := u_ws RJ0 TJ0 0
theorem nmJ0 : ∀ a, a < 0 → ∀ b, b < 0 → a ≠ b → (TJ0 a).2.1 ≠ (TJ0 b).2.1 := by decide +kernel
theorem tyJ0_ok : ∀ k, k < 0 → parseFieldDescriptor (TJ0 k).2.2.1 = some (tyJ0 k) := by decide +kernel
def RJ10 : String := "java/lang/System"
def TJ10 : u_T := fun k => match k with
  | _ => ("", "", "", false)
def tyJ10 : Nat → FieldType := fun k => match k with
  | _ => .int
abbrev wsJ100 : List Cond := u_ws RJ10 TJ10 0
theorem nmJ10 : ∀ a, a < 0 → ∀ b, b < 0 → a ≠ b → (TJ10 a).2.1 ≠ (TJ10 b).2.1 := by decide +kernel
theorem tyJ10_ok : ∀ k, k < 0 → parseFieldDescriptor (TJ10 k).2.2.1 = some (tyJ10 k) := by decide +kernel
def RL : String := "BridgeBellsLaw"
abbrev cL_below : ByteArray := method_2_code
def yL_below : MethodName := ⟨RL, "below", "(II)I"⟩
abbrev cL_cell : ByteArray := method_3_code
def yL_cell : MethodName := ⟨RL, "cell", "([II)I"⟩
abbrev cL_bridge : ByteArray := method_4_code
def yL_bridge : MethodName := ⟨RL, "bridge", "([I)LBridgeBells;"⟩
abbrev cL_leave : ByteArray := method_5_code
def yL_leave : MethodName := ⟨RL, "leave", "(LBridgeBells;I)I"⟩
abbrev cL_poise : ByteArray := method_6_code
def yL_poise : MethodName := ⟨RL, "poise", "(LBridgeBells;I)I"⟩
abbrev cL_law : ByteArray := code
def yL_law : MethodName := ⟨RL, "law", "([I)Z"⟩
def wsX1_init : List Cond := .code yX1_init cX1_init 1 none :: ([.methodLink RX1 3 objectInit, .instanceMethod objectInit, .code objectInit ⟨#[0xb1]⟩ 1 none, .fieldLink RX1 9 "BridgeBells$Travellers" "number" "I", .fieldLink RX1 15 "BridgeBells$Travellers" "passed" "I", .fieldLink RX1 18 "BridgeBells$Travellers" "bargesWaiting" "I", .fieldLink RX1 21 "BridgeBells$Travellers" "cartsWaiting" "I", .arrayClass .int, .fieldLink RX1 24 "BridgeBells$Travellers" "barge" "[I", .fieldLink RX1 28 "BridgeBells$Travellers" "needs" "[I", .fieldLink RX1 31 "BridgeBells$Travellers" "state" "[I", .fieldLink RX1 34 "BridgeBells$Travellers" "came" "[I", .fieldLink RX1 37 "BridgeBells$Travellers" "passedIn" "[I", .fieldLink RX1 40 "BridgeBells$Travellers" "waitEnd" "[I", .fieldLink RX1 43 "BridgeBells$Travellers" "firstBarge" "I", .fieldLink RX1 46 "BridgeBells$Travellers" "firstCart" "I"] ++ wsX10)
def wsX0_init_r1 : List Cond := [Cond.methodLink RX0 3 objectInit, Cond.instanceMethod objectInit, Cond.code objectInit ⟨#[0xb1]⟩ 1 none, Cond.fieldLink RX0 9 "BridgeBells$Bridge" "minute" "I", Cond.fieldLink RX0 15 "BridgeBells$Bridge" "angle" "I", Cond.fieldLink RX0 18 "BridgeBells$Bridge" "counterpoise" "I", Cond.fieldLink RX0 21 "BridgeBells$Bridge" "ice" "I", Cond.fieldLink RX0 24 "BridgeBells$Bridge" "code" "I", Cond.fieldLink RX0 27 "BridgeBells$Bridge" "waitedInAll" "I", Cond.arrayClass .int, Cond.fieldLink RX0 30 "BridgeBells$Bridge" "cold" "[I", Cond.classLink RX0 34 RX1, Cond.instantiable RX1 12, Cond.initialized RX1, Cond.fieldLink RX0 37 "BridgeBells$Bridge" "travellers" "LBridgeBells$Travellers;", Cond.fieldLink RX0 41 "BridgeBells$Bridge" "passing" "I", Cond.fieldLink RX0 44 "BridgeBells$Bridge" "toGo" "I", Cond.fieldLink RX0 47 "BridgeBells$Bridge" "latestWasBarge" "Z", Cond.instanceMethod yX1_init, Cond.code yX1_init cX1_init 1 none, Cond.methodLink RX1 3 objectInit, Cond.fieldLink RX1 9 "BridgeBells$Travellers" "number" "I", Cond.fieldLink RX1 15 "BridgeBells$Travellers" "passed" "I", Cond.fieldLink RX1 18 "BridgeBells$Travellers" "bargesWaiting" "I"]
def wsX0_init_r2 : List Cond := [Cond.fieldLink RX1 21 "BridgeBells$Travellers" "cartsWaiting" "I", Cond.fieldLink RX1 24 "BridgeBells$Travellers" "barge" "[I", Cond.fieldLink RX1 28 "BridgeBells$Travellers" "needs" "[I", Cond.fieldLink RX1 31 "BridgeBells$Travellers" "state" "[I", Cond.fieldLink RX1 34 "BridgeBells$Travellers" "came" "[I", Cond.fieldLink RX1 37 "BridgeBells$Travellers" "passedIn" "[I", Cond.fieldLink RX1 40 "BridgeBells$Travellers" "waitEnd" "[I", Cond.fieldLink RX1 43 "BridgeBells$Travellers" "firstBarge" "I", Cond.fieldLink RX1 46 "BridgeBells$Travellers" "firstCart" "I"]
def wsX0_init : List Cond := .code yX0_init cX0_init 1 none :: ((wsX0_init_r1 ++ wsX0_init_r2) ++ wsX00 ++ wsX10)
def wsX1_copyFrom : List Cond := .code yX1_copyFrom cX1_copyFrom 2 none :: ([.fieldLink RX1 9 "BridgeBells$Travellers" "number" "I", .fieldLink RX1 15 "BridgeBells$Travellers" "passed" "I", .fieldLink RX1 18 "BridgeBells$Travellers" "bargesWaiting" "I", .fieldLink RX1 21 "BridgeBells$Travellers" "cartsWaiting" "I", .fieldLink RX1 24 "BridgeBells$Travellers" "barge" "[I", .methodLink RX1 49 arraycopyName, .native arraycopyName, .static arraycopyName, .initialized "java/lang/System", .fieldLink RX1 28 "BridgeBells$Travellers" "needs" "[I", .fieldLink RX1 31 "BridgeBells$Travellers" "state" "[I", .fieldLink RX1 34 "BridgeBells$Travellers" "came" "[I", .fieldLink RX1 37 "BridgeBells$Travellers" "passedIn" "[I", .fieldLink RX1 40 "BridgeBells$Travellers" "waitEnd" "[I", .fieldLink RX1 43 "BridgeBells$Travellers" "firstBarge" "I", .fieldLink RX1 46 "BridgeBells$Travellers" "firstCart" "I"] ++ wsX10)
def wsX0_copyFrom_r1 : List Cond := [Cond.fieldLink RX0 9 "BridgeBells$Bridge" "minute" "I", Cond.fieldLink RX0 15 "BridgeBells$Bridge" "angle" "I", Cond.fieldLink RX0 18 "BridgeBells$Bridge" "counterpoise" "I", Cond.fieldLink RX0 21 "BridgeBells$Bridge" "ice" "I", Cond.fieldLink RX0 24 "BridgeBells$Bridge" "code" "I", Cond.fieldLink RX0 27 "BridgeBells$Bridge" "waitedInAll" "I", Cond.fieldLink RX0 30 "BridgeBells$Bridge" "cold" "[I", Cond.methodLink RX0 51 arraycopyName, Cond.native arraycopyName, Cond.static arraycopyName, Cond.initialized "java/lang/System", Cond.fieldLink RX0 37 "BridgeBells$Bridge" "travellers" "LBridgeBells$Travellers;", Cond.fieldLink RX0 41 "BridgeBells$Bridge" "passing" "I", Cond.fieldLink RX0 44 "BridgeBells$Bridge" "toGo" "I", Cond.fieldLink RX0 47 "BridgeBells$Bridge" "latestWasBarge" "Z", Cond.methodLink RX0 57 yX1_copyFrom, Cond.instanceMethod yX1_copyFrom, Cond.selects RX1 yX1_copyFrom yX1_copyFrom, Cond.initialized RX1, Cond.code yX1_copyFrom cX1_copyFrom 2 none, Cond.fieldLink RX1 9 "BridgeBells$Travellers" "number" "I", Cond.fieldLink RX1 15 "BridgeBells$Travellers" "passed" "I", Cond.fieldLink RX1 18 "BridgeBells$Travellers" "bargesWaiting" "I", Cond.fieldLink RX1 21 "BridgeBells$Travellers" "cartsWaiting" "I"]
def wsX0_copyFrom_r2 : List Cond := [Cond.fieldLink RX1 24 "BridgeBells$Travellers" "barge" "[I", Cond.methodLink RX1 49 arraycopyName, Cond.fieldLink RX1 28 "BridgeBells$Travellers" "needs" "[I", Cond.fieldLink RX1 31 "BridgeBells$Travellers" "state" "[I", Cond.fieldLink RX1 34 "BridgeBells$Travellers" "came" "[I", Cond.fieldLink RX1 37 "BridgeBells$Travellers" "passedIn" "[I", Cond.fieldLink RX1 40 "BridgeBells$Travellers" "waitEnd" "[I", Cond.fieldLink RX1 43 "BridgeBells$Travellers" "firstBarge" "I", Cond.fieldLink RX1 46 "BridgeBells$Travellers" "firstCart" "I"]
def wsX0_copyFrom : List Cond := .code yX0_copyFrom cX0_copyFrom 2 none :: ((wsX0_copyFrom_r1 ++ wsX0_copyFrom_r2) ++ wsX00 ++ wsX10)
def wsX1_firstOfAll : List Cond := .code yX1_firstOfAll cX1_firstOfAll 1 (some .int) :: ([.fieldLink RX1 43 "BridgeBells$Travellers" "firstBarge" "I", .fieldLink RX1 46 "BridgeBells$Travellers" "firstCart" "I", .methodLink RX1 58 Lib.Math.min.name, .static Lib.Math.min.name, .initialized "java/lang/Math", .code Lib.Math.min.name Lib.Math.min.code 2 (some .int)] ++ wsX10)
def wsX1_firstBargeElseCart : List Cond := .code yX1_firstBargeElseCart cX1_firstBargeElseCart 1 (some .int) :: ([.fieldLink RX1 43 "BridgeBells$Travellers" "firstBarge" "I", .fieldLink RX1 46 "BridgeBells$Travellers" "firstCart" "I"] ++ wsX10)
def wsX1_firstCartElseBarge : List Cond := .code yX1_firstCartElseBarge cX1_firstCartElseBarge 1 (some .int) :: ([.fieldLink RX1 46 "BridgeBells$Travellers" "firstCart" "I", .fieldLink RX1 43 "BridgeBells$Travellers" "firstBarge" "I"] ++ wsX10)
def wsX0_servedNext : List Cond := .code yX0_servedNext cX0_servedNext 1 (some .int) :: ([.fieldLink RX0 41 "BridgeBells$Bridge" "passing" "I", .fieldLink RX0 24 "BridgeBells$Bridge" "code" "I", .fieldLink RX0 37 "BridgeBells$Bridge" "travellers" "LBridgeBells$Travellers;", .fieldLink RX0 47 "BridgeBells$Bridge" "latestWasBarge" "Z", .methodLink RX0 90 yX1_firstOfAll, .instanceMethod yX1_firstOfAll, .selects RX1 yX1_firstOfAll yX1_firstOfAll, .initialized RX1, .code yX1_firstOfAll cX1_firstOfAll 1 (some .int), .fieldLink RX1 43 "BridgeBells$Travellers" "firstBarge" "I", .fieldLink RX1 46 "BridgeBells$Travellers" "firstCart" "I", .methodLink RX1 58 Lib.Math.min.name, .static Lib.Math.min.name, .initialized "java/lang/Math", .code Lib.Math.min.name Lib.Math.min.code 2 (some .int), .methodLink RX0 93 yX1_firstBargeElseCart, .instanceMethod yX1_firstBargeElseCart, .selects RX1 yX1_firstBargeElseCart yX1_firstBargeElseCart, .code yX1_firstBargeElseCart cX1_firstBargeElseCart 1 (some .int), .methodLink RX0 96 yX1_firstCartElseBarge, .instanceMethod yX1_firstCartElseBarge, .selects RX1 yX1_firstCartElseBarge yX1_firstCartElseBarge, .code yX1_firstCartElseBarge cX1_firstCartElseBarge 1 (some .int)] ++ wsX00 ++ wsX10)
def wsX1_has : List Cond := .code yX1_has cX1_has 2 (some .boolean) :: ([.fieldLink RX1 9 "BridgeBells$Travellers" "number" "I"] ++ wsX10)
def wsX1_seeWhoWaits : List Cond := .code yX1_seeWhoWaits cX1_seeWhoWaits 2 none :: ([.fieldLink RX1 18 "BridgeBells$Travellers" "bargesWaiting" "I", .fieldLink RX1 21 "BridgeBells$Travellers" "cartsWaiting" "I", .fieldLink RX1 43 "BridgeBells$Travellers" "firstBarge" "I", .fieldLink RX1 46 "BridgeBells$Travellers" "firstCart" "I", .fieldLink RX1 9 "BridgeBells$Travellers" "number" "I", .fieldLink RX1 31 "BridgeBells$Travellers" "state" "[I", .fieldLink RX1 24 "BridgeBells$Travellers" "barge" "[I"] ++ wsX10)
def wsX1_endWait : List Cond := .code yX1_endWait cX1_endWait 4 none :: ([.fieldLink RX1 31 "BridgeBells$Travellers" "state" "[I", .fieldLink RX1 40 "BridgeBells$Travellers" "waitEnd" "[I", .methodLink RX1 55 yX1_seeWhoWaits, .instanceMethod yX1_seeWhoWaits, .selects RX1 yX1_seeWhoWaits yX1_seeWhoWaits, .initialized RX1, .code yX1_seeWhoWaits cX1_seeWhoWaits 2 none, .fieldLink RX1 18 "BridgeBells$Travellers" "bargesWaiting" "I", .fieldLink RX1 21 "BridgeBells$Travellers" "cartsWaiting" "I", .fieldLink RX1 43 "BridgeBells$Travellers" "firstBarge" "I", .fieldLink RX1 46 "BridgeBells$Travellers" "firstCart" "I", .fieldLink RX1 9 "BridgeBells$Travellers" "number" "I", .fieldLink RX1 24 "BridgeBells$Travellers" "barge" "[I"] ++ wsX10)
def wsX0_speedTowards : List Cond := .code yX0_speedTowards cX0_speedTowards 4 (some .int) :: ([.fieldLink RX0 18 "BridgeBells$Bridge" "counterpoise" "I", .fieldLink RX0 21 "BridgeBells$Bridge" "ice" "I", .methodLink RX0 84 Lib.Math.max.name, .static Lib.Math.max.name, .initialized "java/lang/Math", .code Lib.Math.max.name Lib.Math.max.code 2 (some .int)] ++ wsX00)
def wsX0_serve_r1 : List Cond := [Cond.fieldLink RX0 37 "BridgeBells$Bridge" "travellers" "LBridgeBells$Travellers;", Cond.fieldLink RX0 103 "BridgeBells$Travellers" "barge" "[I", Cond.fieldLink RX0 15 "BridgeBells$Bridge" "angle" "I", Cond.fieldLink RX0 41 "BridgeBells$Bridge" "passing" "I", Cond.fieldLink RX0 106 "BridgeBells$Travellers" "needs" "[I", Cond.fieldLink RX0 44 "BridgeBells$Bridge" "toGo" "I", Cond.fieldLink RX0 47 "BridgeBells$Bridge" "latestWasBarge" "Z", Cond.fieldLink RX0 9 "BridgeBells$Bridge" "minute" "I", Cond.methodLink RX0 117 Lib.Math.min.name, Cond.static Lib.Math.min.name, Cond.initialized "java/lang/Math", Cond.code Lib.Math.min.name Lib.Math.min.code 2 (some .int), Cond.methodLink RX0 84 Lib.Math.max.name, Cond.static Lib.Math.max.name, Cond.code Lib.Math.max.name Lib.Math.max.code 2 (some .int), Cond.methodLink RX0 99 yX1_has, Cond.instanceMethod yX1_has, Cond.selects RX1 yX1_has yX1_has, Cond.initialized RX1, Cond.code yX1_has cX1_has 2 (some .boolean), Cond.fieldLink RX1 9 "BridgeBells$Travellers" "number" "I", Cond.methodLink RX0 109 yX1_endWait, Cond.instanceMethod yX1_endWait, Cond.selects RX1 yX1_endWait yX1_endWait]
def wsX0_serve_r2 : List Cond := [Cond.code yX1_endWait cX1_endWait 4 none, Cond.fieldLink RX1 31 "BridgeBells$Travellers" "state" "[I", Cond.fieldLink RX1 40 "BridgeBells$Travellers" "waitEnd" "[I", Cond.methodLink RX1 55 yX1_seeWhoWaits, Cond.instanceMethod yX1_seeWhoWaits, Cond.selects RX1 yX1_seeWhoWaits yX1_seeWhoWaits, Cond.code yX1_seeWhoWaits cX1_seeWhoWaits 2 none, Cond.fieldLink RX1 18 "BridgeBells$Travellers" "bargesWaiting" "I", Cond.fieldLink RX1 21 "BridgeBells$Travellers" "cartsWaiting" "I", Cond.fieldLink RX1 43 "BridgeBells$Travellers" "firstBarge" "I", Cond.fieldLink RX1 46 "BridgeBells$Travellers" "firstCart" "I", Cond.fieldLink RX1 24 "BridgeBells$Travellers" "barge" "[I", Cond.methodLink RX0 113 yX0_speedTowards, Cond.instanceMethod yX0_speedTowards, Cond.selects RX0 yX0_speedTowards yX0_speedTowards, Cond.initialized RX0, Cond.code yX0_speedTowards cX0_speedTowards 4 (some .int), Cond.fieldLink RX0 18 "BridgeBells$Bridge" "counterpoise" "I", Cond.fieldLink RX0 21 "BridgeBells$Bridge" "ice" "I"]
def wsX0_serve : List Cond := .code yX0_serve cX0_serve 3 none :: ((wsX0_serve_r1 ++ wsX0_serve_r2) ++ wsX00 ++ wsX10)
def wsX1_endPassage : List Cond := .code yX1_endPassage cX1_endPassage 3 none :: ([.fieldLink RX1 31 "BridgeBells$Travellers" "state" "[I", .fieldLink RX1 37 "BridgeBells$Travellers" "passedIn" "[I", .fieldLink RX1 15 "BridgeBells$Travellers" "passed" "I"] ++ wsX10)
def wsX0_goOnPassing : List Cond := .code yX0_goOnPassing cX0_goOnPassing 1 none :: ([.fieldLink RX0 37 "BridgeBells$Bridge" "travellers" "LBridgeBells$Travellers;", .fieldLink RX0 41 "BridgeBells$Bridge" "passing" "I", .fieldLink RX0 44 "BridgeBells$Bridge" "toGo" "I", .fieldLink RX0 9 "BridgeBells$Bridge" "minute" "I", .methodLink RX0 99 yX1_has, .instanceMethod yX1_has, .selects RX1 yX1_has yX1_has, .initialized RX1, .code yX1_has cX1_has 2 (some .boolean), .fieldLink RX1 9 "BridgeBells$Travellers" "number" "I", .methodLink RX0 120 yX1_endPassage, .instanceMethod yX1_endPassage, .selects RX1 yX1_endPassage yX1_endPassage, .code yX1_endPassage cX1_endPassage 3 none, .fieldLink RX1 31 "BridgeBells$Travellers" "state" "[I", .fieldLink RX1 37 "BridgeBells$Travellers" "passedIn" "[I", .fieldLink RX1 15 "BridgeBells$Travellers" "passed" "I"] ++ wsX00 ++ wsX10)
def wsJ9_floorMod_7cf53 : List Cond := .code yJ9_floorMod_7cf53 cJ9_floorMod_7cf53 3 (some .int) :: ([])
def wsX0_freeze : List Cond := .code yX0_freeze cX0_freeze 2 none :: ([.fieldLink RX0 9 "BridgeBells$Bridge" "minute" "I", .fieldLink RX0 21 "BridgeBells$Bridge" "ice" "I", .fieldLink RX0 30 "BridgeBells$Bridge" "cold" "[I", .methodLink RX0 117 Lib.Math.min.name, .static Lib.Math.min.name, .initialized "java/lang/Math", .code Lib.Math.min.name Lib.Math.min.code 2 (some .int), .methodLink RX0 84 Lib.Math.max.name, .static Lib.Math.max.name, .code Lib.Math.max.name Lib.Math.max.code 2 (some .int), .methodLink RX0 124 yJ9_floorMod_7cf53, .static yJ9_floorMod_7cf53, .initialized RJ9, .code yJ9_floorMod_7cf53 cJ9_floorMod_7cf53 3 (some .int)] ++ wsX00)
def wsX0_goOneMinute_r1 : List Cond := [Cond.fieldLink RX0 27 "BridgeBells$Bridge" "waitedInAll" "I", Cond.fieldLink RX0 37 "BridgeBells$Bridge" "travellers" "LBridgeBells$Travellers;", Cond.fieldLink RX0 75 "BridgeBells$Travellers" "bargesWaiting" "I", Cond.fieldLink RX0 78 "BridgeBells$Travellers" "cartsWaiting" "I", Cond.fieldLink RX0 9 "BridgeBells$Bridge" "minute" "I", Cond.methodLink RX0 64 yX0_servedNext, Cond.instanceMethod yX0_servedNext, Cond.selects RX0 yX0_servedNext yX0_servedNext, Cond.initialized RX0, Cond.code yX0_servedNext cX0_servedNext 1 (some .int), Cond.fieldLink RX0 41 "BridgeBells$Bridge" "passing" "I", Cond.fieldLink RX0 24 "BridgeBells$Bridge" "code" "I", Cond.fieldLink RX0 47 "BridgeBells$Bridge" "latestWasBarge" "Z", Cond.methodLink RX0 90 yX1_firstOfAll, Cond.instanceMethod yX1_firstOfAll, Cond.selects RX1 yX1_firstOfAll yX1_firstOfAll, Cond.initialized RX1, Cond.code yX1_firstOfAll cX1_firstOfAll 1 (some .int), Cond.fieldLink RX1 43 "BridgeBells$Travellers" "firstBarge" "I", Cond.fieldLink RX1 46 "BridgeBells$Travellers" "firstCart" "I", Cond.methodLink RX1 58 Lib.Math.min.name, Cond.static Lib.Math.min.name, Cond.initialized "java/lang/Math", Cond.code Lib.Math.min.name Lib.Math.min.code 2 (some .int)]
def wsX0_goOneMinute_r2 : List Cond := [Cond.methodLink RX0 93 yX1_firstBargeElseCart, Cond.instanceMethod yX1_firstBargeElseCart, Cond.selects RX1 yX1_firstBargeElseCart yX1_firstBargeElseCart, Cond.code yX1_firstBargeElseCart cX1_firstBargeElseCart 1 (some .int), Cond.methodLink RX0 96 yX1_firstCartElseBarge, Cond.instanceMethod yX1_firstCartElseBarge, Cond.selects RX1 yX1_firstCartElseBarge yX1_firstCartElseBarge, Cond.code yX1_firstCartElseBarge cX1_firstCartElseBarge 1 (some .int), Cond.methodLink RX0 68 yX0_serve, Cond.instanceMethod yX0_serve, Cond.selects RX0 yX0_serve yX0_serve, Cond.code yX0_serve cX0_serve 3 none, Cond.fieldLink RX0 103 "BridgeBells$Travellers" "barge" "[I", Cond.fieldLink RX0 15 "BridgeBells$Bridge" "angle" "I", Cond.fieldLink RX0 106 "BridgeBells$Travellers" "needs" "[I", Cond.fieldLink RX0 44 "BridgeBells$Bridge" "toGo" "I", Cond.methodLink RX0 117 Lib.Math.min.name, Cond.methodLink RX0 84 Lib.Math.max.name, Cond.static Lib.Math.max.name, Cond.code Lib.Math.max.name Lib.Math.max.code 2 (some .int), Cond.methodLink RX0 99 yX1_has, Cond.instanceMethod yX1_has, Cond.selects RX1 yX1_has yX1_has, Cond.code yX1_has cX1_has 2 (some .boolean)]
def wsX0_goOneMinute_r3 : List Cond := [Cond.fieldLink RX1 9 "BridgeBells$Travellers" "number" "I", Cond.methodLink RX0 109 yX1_endWait, Cond.instanceMethod yX1_endWait, Cond.selects RX1 yX1_endWait yX1_endWait, Cond.code yX1_endWait cX1_endWait 4 none, Cond.fieldLink RX1 31 "BridgeBells$Travellers" "state" "[I", Cond.fieldLink RX1 40 "BridgeBells$Travellers" "waitEnd" "[I", Cond.methodLink RX1 55 yX1_seeWhoWaits, Cond.instanceMethod yX1_seeWhoWaits, Cond.selects RX1 yX1_seeWhoWaits yX1_seeWhoWaits, Cond.code yX1_seeWhoWaits cX1_seeWhoWaits 2 none, Cond.fieldLink RX1 18 "BridgeBells$Travellers" "bargesWaiting" "I", Cond.fieldLink RX1 21 "BridgeBells$Travellers" "cartsWaiting" "I", Cond.fieldLink RX1 24 "BridgeBells$Travellers" "barge" "[I", Cond.methodLink RX0 113 yX0_speedTowards, Cond.instanceMethod yX0_speedTowards, Cond.selects RX0 yX0_speedTowards yX0_speedTowards, Cond.code yX0_speedTowards cX0_speedTowards 4 (some .int), Cond.fieldLink RX0 18 "BridgeBells$Bridge" "counterpoise" "I", Cond.fieldLink RX0 21 "BridgeBells$Bridge" "ice" "I", Cond.methodLink RX0 72 yX0_goOnPassing, Cond.instanceMethod yX0_goOnPassing, Cond.selects RX0 yX0_goOnPassing yX0_goOnPassing, Cond.code yX0_goOnPassing cX0_goOnPassing 1 none]
def wsX0_goOneMinute_r4 : List Cond := [Cond.methodLink RX0 120 yX1_endPassage, Cond.instanceMethod yX1_endPassage, Cond.selects RX1 yX1_endPassage yX1_endPassage, Cond.code yX1_endPassage cX1_endPassage 3 none, Cond.fieldLink RX1 37 "BridgeBells$Travellers" "passedIn" "[I", Cond.fieldLink RX1 15 "BridgeBells$Travellers" "passed" "I", Cond.methodLink RX0 81 yX0_freeze, Cond.instanceMethod yX0_freeze, Cond.selects RX0 yX0_freeze yX0_freeze, Cond.code yX0_freeze cX0_freeze 2 none, Cond.fieldLink RX0 30 "BridgeBells$Bridge" "cold" "[I", Cond.methodLink RX0 124 yJ9_floorMod_7cf53, Cond.static yJ9_floorMod_7cf53, Cond.initialized RJ9, Cond.code yJ9_floorMod_7cf53 cJ9_floorMod_7cf53 3 (some .int)]
def wsX0_goOneMinute : List Cond := .code yX0_goOneMinute cX0_goOneMinute 1 none :: ((wsX0_goOneMinute_r1 ++ (wsX0_goOneMinute_r2 ++ (wsX0_goOneMinute_r3 ++ wsX0_goOneMinute_r4))) ++ wsX00 ++ wsX10)
def wsX0_goOn_r1 : List Cond := [Cond.methodLink RX0 61 yX0_goOneMinute, Cond.instanceMethod yX0_goOneMinute, Cond.selects RX0 yX0_goOneMinute yX0_goOneMinute, Cond.initialized RX0, Cond.code yX0_goOneMinute cX0_goOneMinute 1 none, Cond.fieldLink RX0 27 "BridgeBells$Bridge" "waitedInAll" "I", Cond.fieldLink RX0 37 "BridgeBells$Bridge" "travellers" "LBridgeBells$Travellers;", Cond.fieldLink RX0 75 "BridgeBells$Travellers" "bargesWaiting" "I", Cond.fieldLink RX0 78 "BridgeBells$Travellers" "cartsWaiting" "I", Cond.fieldLink RX0 9 "BridgeBells$Bridge" "minute" "I", Cond.methodLink RX0 64 yX0_servedNext, Cond.instanceMethod yX0_servedNext, Cond.selects RX0 yX0_servedNext yX0_servedNext, Cond.code yX0_servedNext cX0_servedNext 1 (some .int), Cond.fieldLink RX0 41 "BridgeBells$Bridge" "passing" "I", Cond.fieldLink RX0 24 "BridgeBells$Bridge" "code" "I", Cond.fieldLink RX0 47 "BridgeBells$Bridge" "latestWasBarge" "Z", Cond.methodLink RX0 90 yX1_firstOfAll, Cond.instanceMethod yX1_firstOfAll, Cond.selects RX1 yX1_firstOfAll yX1_firstOfAll, Cond.initialized RX1, Cond.code yX1_firstOfAll cX1_firstOfAll 1 (some .int), Cond.fieldLink RX1 43 "BridgeBells$Travellers" "firstBarge" "I", Cond.fieldLink RX1 46 "BridgeBells$Travellers" "firstCart" "I"]
def wsX0_goOn_r2 : List Cond := [Cond.methodLink RX1 58 Lib.Math.min.name, Cond.static Lib.Math.min.name, Cond.initialized "java/lang/Math", Cond.code Lib.Math.min.name Lib.Math.min.code 2 (some .int), Cond.methodLink RX0 93 yX1_firstBargeElseCart, Cond.instanceMethod yX1_firstBargeElseCart, Cond.selects RX1 yX1_firstBargeElseCart yX1_firstBargeElseCart, Cond.code yX1_firstBargeElseCart cX1_firstBargeElseCart 1 (some .int), Cond.methodLink RX0 96 yX1_firstCartElseBarge, Cond.instanceMethod yX1_firstCartElseBarge, Cond.selects RX1 yX1_firstCartElseBarge yX1_firstCartElseBarge, Cond.code yX1_firstCartElseBarge cX1_firstCartElseBarge 1 (some .int), Cond.methodLink RX0 68 yX0_serve, Cond.instanceMethod yX0_serve, Cond.selects RX0 yX0_serve yX0_serve, Cond.code yX0_serve cX0_serve 3 none, Cond.fieldLink RX0 103 "BridgeBells$Travellers" "barge" "[I", Cond.fieldLink RX0 15 "BridgeBells$Bridge" "angle" "I", Cond.fieldLink RX0 106 "BridgeBells$Travellers" "needs" "[I", Cond.fieldLink RX0 44 "BridgeBells$Bridge" "toGo" "I", Cond.methodLink RX0 117 Lib.Math.min.name, Cond.methodLink RX0 84 Lib.Math.max.name, Cond.static Lib.Math.max.name, Cond.code Lib.Math.max.name Lib.Math.max.code 2 (some .int)]
def wsX0_goOn_r3 : List Cond := [Cond.methodLink RX0 99 yX1_has, Cond.instanceMethod yX1_has, Cond.selects RX1 yX1_has yX1_has, Cond.code yX1_has cX1_has 2 (some .boolean), Cond.fieldLink RX1 9 "BridgeBells$Travellers" "number" "I", Cond.methodLink RX0 109 yX1_endWait, Cond.instanceMethod yX1_endWait, Cond.selects RX1 yX1_endWait yX1_endWait, Cond.code yX1_endWait cX1_endWait 4 none, Cond.fieldLink RX1 31 "BridgeBells$Travellers" "state" "[I", Cond.fieldLink RX1 40 "BridgeBells$Travellers" "waitEnd" "[I", Cond.methodLink RX1 55 yX1_seeWhoWaits, Cond.instanceMethod yX1_seeWhoWaits, Cond.selects RX1 yX1_seeWhoWaits yX1_seeWhoWaits, Cond.code yX1_seeWhoWaits cX1_seeWhoWaits 2 none, Cond.fieldLink RX1 18 "BridgeBells$Travellers" "bargesWaiting" "I", Cond.fieldLink RX1 21 "BridgeBells$Travellers" "cartsWaiting" "I", Cond.fieldLink RX1 24 "BridgeBells$Travellers" "barge" "[I", Cond.methodLink RX0 113 yX0_speedTowards, Cond.instanceMethod yX0_speedTowards, Cond.selects RX0 yX0_speedTowards yX0_speedTowards, Cond.code yX0_speedTowards cX0_speedTowards 4 (some .int), Cond.fieldLink RX0 18 "BridgeBells$Bridge" "counterpoise" "I", Cond.fieldLink RX0 21 "BridgeBells$Bridge" "ice" "I"]
def wsX0_goOn_r4 : List Cond := [Cond.methodLink RX0 72 yX0_goOnPassing, Cond.instanceMethod yX0_goOnPassing, Cond.selects RX0 yX0_goOnPassing yX0_goOnPassing, Cond.code yX0_goOnPassing cX0_goOnPassing 1 none, Cond.methodLink RX0 120 yX1_endPassage, Cond.instanceMethod yX1_endPassage, Cond.selects RX1 yX1_endPassage yX1_endPassage, Cond.code yX1_endPassage cX1_endPassage 3 none, Cond.fieldLink RX1 37 "BridgeBells$Travellers" "passedIn" "[I", Cond.fieldLink RX1 15 "BridgeBells$Travellers" "passed" "I", Cond.methodLink RX0 81 yX0_freeze, Cond.instanceMethod yX0_freeze, Cond.selects RX0 yX0_freeze yX0_freeze, Cond.code yX0_freeze cX0_freeze 2 none, Cond.fieldLink RX0 30 "BridgeBells$Bridge" "cold" "[I", Cond.methodLink RX0 124 yJ9_floorMod_7cf53, Cond.static yJ9_floorMod_7cf53, Cond.initialized RJ9, Cond.code yJ9_floorMod_7cf53 cJ9_floorMod_7cf53 3 (some .int)]
def wsX0_goOn : List Cond := .code yX0_goOn cX0_goOn 3 none :: ((wsX0_goOn_r1 ++ (wsX0_goOn_r2 ++ (wsX0_goOn_r3 ++ wsX0_goOn_r4))) ++ wsX00 ++ wsX10)
def wsX0_total_r1 : List Cond := [Cond.fieldLink RX0 9 "BridgeBells$Bridge" "minute" "I", Cond.fieldLink RX0 15 "BridgeBells$Bridge" "angle" "I", Cond.fieldLink RX0 18 "BridgeBells$Bridge" "counterpoise" "I", Cond.fieldLink RX0 21 "BridgeBells$Bridge" "ice" "I", Cond.fieldLink RX0 24 "BridgeBells$Bridge" "code" "I", Cond.fieldLink RX0 37 "BridgeBells$Bridge" "travellers" "LBridgeBells$Travellers;", Cond.fieldLink RX0 127 "BridgeBells$Travellers" "number" "I", Cond.fieldLink RX0 75 "BridgeBells$Travellers" "bargesWaiting" "I", Cond.fieldLink RX0 78 "BridgeBells$Travellers" "cartsWaiting" "I", Cond.fieldLink RX0 130 "BridgeBells$Travellers" "passed" "I", Cond.fieldLink RX0 27 "BridgeBells$Bridge" "waitedInAll" "I", Cond.fieldLink RX0 41 "BridgeBells$Bridge" "passing" "I", Cond.methodLink RX0 64 yX0_servedNext, Cond.instanceMethod yX0_servedNext, Cond.selects RX0 yX0_servedNext yX0_servedNext, Cond.initialized RX0, Cond.code yX0_servedNext cX0_servedNext 1 (some .int), Cond.fieldLink RX0 47 "BridgeBells$Bridge" "latestWasBarge" "Z", Cond.methodLink RX0 90 yX1_firstOfAll, Cond.instanceMethod yX1_firstOfAll, Cond.selects RX1 yX1_firstOfAll yX1_firstOfAll, Cond.initialized RX1, Cond.code yX1_firstOfAll cX1_firstOfAll 1 (some .int), Cond.fieldLink RX1 43 "BridgeBells$Travellers" "firstBarge" "I"]
def wsX0_total_r2 : List Cond := [Cond.fieldLink RX1 46 "BridgeBells$Travellers" "firstCart" "I", Cond.methodLink RX1 58 Lib.Math.min.name, Cond.static Lib.Math.min.name, Cond.initialized "java/lang/Math", Cond.code Lib.Math.min.name Lib.Math.min.code 2 (some .int), Cond.methodLink RX0 93 yX1_firstBargeElseCart, Cond.instanceMethod yX1_firstBargeElseCart, Cond.selects RX1 yX1_firstBargeElseCart yX1_firstBargeElseCart, Cond.code yX1_firstBargeElseCart cX1_firstBargeElseCart 1 (some .int), Cond.methodLink RX0 96 yX1_firstCartElseBarge, Cond.instanceMethod yX1_firstCartElseBarge, Cond.selects RX1 yX1_firstCartElseBarge yX1_firstCartElseBarge, Cond.code yX1_firstCartElseBarge cX1_firstCartElseBarge 1 (some .int)]
def wsX0_total : List Cond := .code yX0_total cX0_total 2 (some .int) :: ((wsX0_total_r1 ++ wsX0_total_r2) ++ wsX00 ++ wsX10)
def wsX1_waited : List Cond := .code yX1_waited cX1_waited 4 (some .int) :: ([.fieldLink RX1 31 "BridgeBells$Travellers" "state" "[I", .fieldLink RX1 40 "BridgeBells$Travellers" "waitEnd" "[I", .fieldLink RX1 34 "BridgeBells$Travellers" "came" "[I"] ++ wsX10)
def wsX0_factOf : List Cond := .code yX0_factOf cX0_factOf 3 (some .int) :: ([.fieldLink RX0 37 "BridgeBells$Bridge" "travellers" "LBridgeBells$Travellers;", .fieldLink RX0 103 "BridgeBells$Travellers" "barge" "[I", .fieldLink RX0 106 "BridgeBells$Travellers" "needs" "[I", .fieldLink RX0 133 "BridgeBells$Travellers" "state" "[I", .fieldLink RX0 136 "BridgeBells$Travellers" "came" "[I", .fieldLink RX0 9 "BridgeBells$Bridge" "minute" "I", .fieldLink RX0 41 "BridgeBells$Bridge" "passing" "I", .fieldLink RX0 44 "BridgeBells$Bridge" "toGo" "I", .fieldLink RX0 142 "BridgeBells$Travellers" "passedIn" "[I", .methodLink RX0 139 yX1_waited, .instanceMethod yX1_waited, .selects RX1 yX1_waited yX1_waited, .initialized RX1, .code yX1_waited cX1_waited 4 (some .int), .fieldLink RX1 31 "BridgeBells$Travellers" "state" "[I", .fieldLink RX1 40 "BridgeBells$Travellers" "waitEnd" "[I", .fieldLink RX1 34 "BridgeBells$Travellers" "came" "[I"] ++ wsX00 ++ wsX10)
def wsX1_add : List Cond := .code yX1_add cX1_add 5 (some .int) :: ([.fieldLink RX1 9 "BridgeBells$Travellers" "number" "I", .fieldLink RX1 24 "BridgeBells$Travellers" "barge" "[I", .fieldLink RX1 28 "BridgeBells$Travellers" "needs" "[I", .fieldLink RX1 31 "BridgeBells$Travellers" "state" "[I", .fieldLink RX1 34 "BridgeBells$Travellers" "came" "[I", .fieldLink RX1 37 "BridgeBells$Travellers" "passedIn" "[I", .methodLink RX1 55 yX1_seeWhoWaits, .instanceMethod yX1_seeWhoWaits, .selects RX1 yX1_seeWhoWaits yX1_seeWhoWaits, .initialized RX1, .code yX1_seeWhoWaits cX1_seeWhoWaits 2 none, .fieldLink RX1 18 "BridgeBells$Travellers" "bargesWaiting" "I", .fieldLink RX1 21 "BridgeBells$Travellers" "cartsWaiting" "I", .fieldLink RX1 43 "BridgeBells$Travellers" "firstBarge" "I", .fieldLink RX1 46 "BridgeBells$Travellers" "firstCart" "I"] ++ wsX10)
def wsX2_init_r1 : List Cond := [Cond.methodLink RX2 1 objectInit, Cond.instanceMethod objectInit, Cond.code objectInit ⟨#[0xb1]⟩ 1 none, Cond.classLink RX2 7 RX0, Cond.instantiable RX0 11, Cond.initialized RX0, Cond.fieldLink RX2 10 "BridgeBells" "bridge" "LBridgeBells$Bridge;", Cond.fieldLink RX2 16 "BridgeBells" "trial" "LBridgeBells$Bridge;", Cond.instanceMethod yX0_init, Cond.code yX0_init cX0_init 1 none, Cond.methodLink RX0 3 objectInit, Cond.fieldLink RX0 9 "BridgeBells$Bridge" "minute" "I", Cond.fieldLink RX0 15 "BridgeBells$Bridge" "angle" "I", Cond.fieldLink RX0 18 "BridgeBells$Bridge" "counterpoise" "I", Cond.fieldLink RX0 21 "BridgeBells$Bridge" "ice" "I", Cond.fieldLink RX0 24 "BridgeBells$Bridge" "code" "I", Cond.fieldLink RX0 27 "BridgeBells$Bridge" "waitedInAll" "I", Cond.arrayClass .int, Cond.fieldLink RX0 30 "BridgeBells$Bridge" "cold" "[I", Cond.classLink RX0 34 RX1, Cond.instantiable RX1 12, Cond.initialized RX1, Cond.fieldLink RX0 37 "BridgeBells$Bridge" "travellers" "LBridgeBells$Travellers;", Cond.fieldLink RX0 41 "BridgeBells$Bridge" "passing" "I"]
def wsX2_init_r2 : List Cond := [Cond.fieldLink RX0 44 "BridgeBells$Bridge" "toGo" "I", Cond.fieldLink RX0 47 "BridgeBells$Bridge" "latestWasBarge" "Z", Cond.instanceMethod yX1_init, Cond.code yX1_init cX1_init 1 none, Cond.methodLink RX1 3 objectInit, Cond.fieldLink RX1 9 "BridgeBells$Travellers" "number" "I", Cond.fieldLink RX1 15 "BridgeBells$Travellers" "passed" "I", Cond.fieldLink RX1 18 "BridgeBells$Travellers" "bargesWaiting" "I", Cond.fieldLink RX1 21 "BridgeBells$Travellers" "cartsWaiting" "I", Cond.fieldLink RX1 24 "BridgeBells$Travellers" "barge" "[I", Cond.fieldLink RX1 28 "BridgeBells$Travellers" "needs" "[I", Cond.fieldLink RX1 31 "BridgeBells$Travellers" "state" "[I", Cond.fieldLink RX1 34 "BridgeBells$Travellers" "came" "[I", Cond.fieldLink RX1 37 "BridgeBells$Travellers" "passedIn" "[I", Cond.fieldLink RX1 40 "BridgeBells$Travellers" "waitEnd" "[I", Cond.fieldLink RX1 43 "BridgeBells$Travellers" "firstBarge" "I", Cond.fieldLink RX1 46 "BridgeBells$Travellers" "firstCart" "I"]
def wsX2_init : List Cond := .code yX2_init cX2_init 1 none :: ((wsX2_init_r1 ++ wsX2_init_r2) ++ wsX00 ++ wsX20 ++ wsX10)
def wsX2_come_r1 : List Cond := [Cond.classLink RX2 19 "java/lang/IllegalArgumentException", Cond.initialized "java/lang/IllegalArgumentException", Cond.classLink RX2 36 "java/lang/IllegalStateException", Cond.initialized "java/lang/IllegalStateException", Cond.fieldLink RX2 10 "BridgeBells" "bridge" "LBridgeBells$Bridge;", Cond.fieldLink RX2 26 "BridgeBells$Bridge" "travellers" "LBridgeBells$Travellers;", Cond.fieldLink RX2 30 "BridgeBells$Travellers" "number" "I", Cond.fieldLink RX2 41 "BridgeBells$Bridge" "minute" "I", Cond.methodLink RX2 44 yX1_add, Cond.instanceMethod yX1_add, Cond.selects RX1 yX1_add yX1_add, Cond.initialized RX1, Cond.code yX1_add cX1_add 5 (some .int), Cond.fieldLink RX1 9 "BridgeBells$Travellers" "number" "I", Cond.fieldLink RX1 24 "BridgeBells$Travellers" "barge" "[I", Cond.fieldLink RX1 28 "BridgeBells$Travellers" "needs" "[I", Cond.fieldLink RX1 31 "BridgeBells$Travellers" "state" "[I", Cond.fieldLink RX1 34 "BridgeBells$Travellers" "came" "[I", Cond.fieldLink RX1 37 "BridgeBells$Travellers" "passedIn" "[I", Cond.methodLink RX1 55 yX1_seeWhoWaits, Cond.instanceMethod yX1_seeWhoWaits, Cond.selects RX1 yX1_seeWhoWaits yX1_seeWhoWaits, Cond.code yX1_seeWhoWaits cX1_seeWhoWaits 2 none, Cond.fieldLink RX1 18 "BridgeBells$Travellers" "bargesWaiting" "I"]
def wsX2_come_r2 : List Cond := [Cond.fieldLink RX1 21 "BridgeBells$Travellers" "cartsWaiting" "I", Cond.fieldLink RX1 43 "BridgeBells$Travellers" "firstBarge" "I", Cond.fieldLink RX1 46 "BridgeBells$Travellers" "firstCart" "I"]
def wsX2_come : List Cond := .code yX2_come cX2_come 3 (some .int) :: ((wsX2_come_r1 ++ wsX2_come_r2) ++ wsX20 ++ wsX00 ++ wsX10 ++ (vx_atS RX2 23 "java/lang/IllegalArgumentException" ["java/lang/RuntimeException", "java/lang/Exception"]).filter goodWord ++ (vx_atS RX2 40 "java/lang/IllegalStateException" ["java/lang/RuntimeException", "java/lang/Exception"]).filter goodWord)
def wsX2_leave_r1 : List Cond := [Cond.classLink RX2 52 "java/lang/IndexOutOfBoundsException", Cond.initialized "java/lang/IndexOutOfBoundsException", Cond.classLink RX2 36 "java/lang/IllegalStateException", Cond.initialized "java/lang/IllegalStateException", Cond.fieldLink RX2 10 "BridgeBells" "bridge" "LBridgeBells$Bridge;", Cond.fieldLink RX2 26 "BridgeBells$Bridge" "travellers" "LBridgeBells$Travellers;", Cond.fieldLink RX2 57 "BridgeBells$Travellers" "state" "[I", Cond.fieldLink RX2 41 "BridgeBells$Bridge" "minute" "I", Cond.methodLink RX2 48 yX1_has, Cond.instanceMethod yX1_has, Cond.selects RX1 yX1_has yX1_has, Cond.initialized RX1, Cond.code yX1_has cX1_has 2 (some .boolean), Cond.fieldLink RX1 9 "BridgeBells$Travellers" "number" "I", Cond.methodLink RX2 63 yX1_endWait, Cond.instanceMethod yX1_endWait, Cond.selects RX1 yX1_endWait yX1_endWait, Cond.code yX1_endWait cX1_endWait 4 none, Cond.fieldLink RX1 31 "BridgeBells$Travellers" "state" "[I", Cond.fieldLink RX1 40 "BridgeBells$Travellers" "waitEnd" "[I", Cond.methodLink RX1 55 yX1_seeWhoWaits, Cond.instanceMethod yX1_seeWhoWaits, Cond.selects RX1 yX1_seeWhoWaits yX1_seeWhoWaits, Cond.code yX1_seeWhoWaits cX1_seeWhoWaits 2 none]
def wsX2_leave_r2 : List Cond := [Cond.fieldLink RX1 18 "BridgeBells$Travellers" "bargesWaiting" "I", Cond.fieldLink RX1 21 "BridgeBells$Travellers" "cartsWaiting" "I", Cond.fieldLink RX1 43 "BridgeBells$Travellers" "firstBarge" "I", Cond.fieldLink RX1 46 "BridgeBells$Travellers" "firstCart" "I", Cond.fieldLink RX1 24 "BridgeBells$Travellers" "barge" "[I", Cond.methodLink RX2 67 yX1_waited, Cond.instanceMethod yX1_waited, Cond.selects RX1 yX1_waited yX1_waited, Cond.code yX1_waited cX1_waited 4 (some .int), Cond.fieldLink RX1 34 "BridgeBells$Travellers" "came" "[I"]
def wsX2_leave : List Cond := .code yX2_leave cX2_leave 2 (some .int) :: ((wsX2_leave_r1 ++ wsX2_leave_r2) ++ wsX20 ++ wsX00 ++ wsX10 ++ (vx_atS RX2 56 "java/lang/IndexOutOfBoundsException" ["java/lang/RuntimeException", "java/lang/Exception"]).filter goodWord ++ (vx_atS RX2 40 "java/lang/IllegalStateException" ["java/lang/RuntimeException", "java/lang/Exception"]).filter goodWord)
def wsX2_ring : List Cond := .code yX2_ring cX2_ring 3 (some .int) :: ([.classLink RX2 19 "java/lang/IllegalArgumentException", .initialized "java/lang/IllegalArgumentException", .fieldLink RX2 10 "BridgeBells" "bridge" "LBridgeBells$Bridge;", .fieldLink RX2 73 "BridgeBells$Bridge" "code" "I"] ++ wsX20 ++ wsX00 ++ (vx_atS RX2 23 "java/lang/IllegalArgumentException" ["java/lang/RuntimeException", "java/lang/Exception"]).filter goodWord)
def wsX2_poise : List Cond := .code yX2_poise cX2_poise 3 (some .int) :: ([.classLink RX2 19 "java/lang/IllegalArgumentException", .initialized "java/lang/IllegalArgumentException", .classLink RX2 36 "java/lang/IllegalStateException", .initialized "java/lang/IllegalStateException", .fieldLink RX2 10 "BridgeBells" "bridge" "LBridgeBells$Bridge;", .fieldLink RX2 78 "BridgeBells$Bridge" "angle" "I", .fieldLink RX2 83 "BridgeBells$Bridge" "counterpoise" "I"] ++ wsX20 ++ wsX00 ++ (vx_atS RX2 23 "java/lang/IllegalArgumentException" ["java/lang/RuntimeException", "java/lang/Exception"]).filter goodWord ++ (vx_atS RX2 40 "java/lang/IllegalStateException" ["java/lang/RuntimeException", "java/lang/Exception"]).filter goodWord)
def wsX2_setCold : List Cond := .code yX2_setCold cX2_setCold 4 (some .int) :: ([.classLink RX2 52 "java/lang/IndexOutOfBoundsException", .initialized "java/lang/IndexOutOfBoundsException", .classLink RX2 19 "java/lang/IllegalArgumentException", .initialized "java/lang/IllegalArgumentException", .fieldLink RX2 10 "BridgeBells" "bridge" "LBridgeBells$Bridge;", .fieldLink RX2 90 "BridgeBells$Bridge" "cold" "[I"] ++ wsX20 ++ wsX00 ++ (vx_atS RX2 56 "java/lang/IndexOutOfBoundsException" ["java/lang/RuntimeException", "java/lang/Exception"]).filter goodWord ++ (vx_atS RX2 23 "java/lang/IllegalArgumentException" ["java/lang/RuntimeException", "java/lang/Exception"]).filter goodWord)
def wsX2_crack : List Cond := .code yX2_crack cX2_crack 1 (some .int) :: ([.fieldLink RX2 10 "BridgeBells" "bridge" "LBridgeBells$Bridge;", .fieldLink RX2 93 "BridgeBells$Bridge" "ice" "I", .methodLink RX2 96 Lib.Math.max.name, .static Lib.Math.max.name, .initialized "java/lang/Math", .code Lib.Math.max.name Lib.Math.max.code 2 (some .int)] ++ wsX20 ++ wsX00)
def wsX2_traveller_r1 : List Cond := [Cond.classLink RX2 52 "java/lang/IndexOutOfBoundsException", Cond.initialized "java/lang/IndexOutOfBoundsException", Cond.fieldLink RX2 10 "BridgeBells" "bridge" "LBridgeBells$Bridge;", Cond.fieldLink RX2 26 "BridgeBells$Bridge" "travellers" "LBridgeBells$Travellers;", Cond.methodLink RX2 48 yX1_has, Cond.instanceMethod yX1_has, Cond.selects RX1 yX1_has yX1_has, Cond.initialized RX1, Cond.code yX1_has cX1_has 2 (some .boolean), Cond.fieldLink RX1 9 "BridgeBells$Travellers" "number" "I", Cond.methodLink RX2 103 yX0_factOf, Cond.instanceMethod yX0_factOf, Cond.selects RX0 yX0_factOf yX0_factOf, Cond.initialized RX0, Cond.code yX0_factOf cX0_factOf 3 (some .int), Cond.fieldLink RX0 37 "BridgeBells$Bridge" "travellers" "LBridgeBells$Travellers;", Cond.fieldLink RX0 103 "BridgeBells$Travellers" "barge" "[I", Cond.fieldLink RX0 106 "BridgeBells$Travellers" "needs" "[I", Cond.fieldLink RX0 133 "BridgeBells$Travellers" "state" "[I", Cond.fieldLink RX0 136 "BridgeBells$Travellers" "came" "[I", Cond.fieldLink RX0 9 "BridgeBells$Bridge" "minute" "I", Cond.fieldLink RX0 41 "BridgeBells$Bridge" "passing" "I", Cond.fieldLink RX0 44 "BridgeBells$Bridge" "toGo" "I", Cond.fieldLink RX0 142 "BridgeBells$Travellers" "passedIn" "[I"]
def wsX2_traveller_r2 : List Cond := [Cond.methodLink RX0 139 yX1_waited, Cond.instanceMethod yX1_waited, Cond.selects RX1 yX1_waited yX1_waited, Cond.code yX1_waited cX1_waited 4 (some .int), Cond.fieldLink RX1 31 "BridgeBells$Travellers" "state" "[I", Cond.fieldLink RX1 40 "BridgeBells$Travellers" "waitEnd" "[I", Cond.fieldLink RX1 34 "BridgeBells$Travellers" "came" "[I"]
def wsX2_traveller : List Cond := .code yX2_traveller cX2_traveller 3 (some .int) :: ((wsX2_traveller_r1 ++ wsX2_traveller_r2) ++ wsX20 ++ wsX00 ++ wsX10 ++ (vx_atS RX2 56 "java/lang/IndexOutOfBoundsException" ["java/lang/RuntimeException", "java/lang/Exception"]).filter goodWord)
def wsX2_count_r1 : List Cond := [Cond.classLink RX2 52 "java/lang/IndexOutOfBoundsException", Cond.initialized "java/lang/IndexOutOfBoundsException", Cond.fieldLink RX2 10 "BridgeBells" "bridge" "LBridgeBells$Bridge;", Cond.methodLink RX2 108 yX0_total, Cond.instanceMethod yX0_total, Cond.selects RX0 yX0_total yX0_total, Cond.initialized RX0, Cond.code yX0_total cX0_total 2 (some .int), Cond.fieldLink RX0 9 "BridgeBells$Bridge" "minute" "I", Cond.fieldLink RX0 15 "BridgeBells$Bridge" "angle" "I", Cond.fieldLink RX0 18 "BridgeBells$Bridge" "counterpoise" "I", Cond.fieldLink RX0 21 "BridgeBells$Bridge" "ice" "I", Cond.fieldLink RX0 24 "BridgeBells$Bridge" "code" "I", Cond.fieldLink RX0 37 "BridgeBells$Bridge" "travellers" "LBridgeBells$Travellers;", Cond.fieldLink RX0 127 "BridgeBells$Travellers" "number" "I", Cond.fieldLink RX0 75 "BridgeBells$Travellers" "bargesWaiting" "I", Cond.fieldLink RX0 78 "BridgeBells$Travellers" "cartsWaiting" "I", Cond.fieldLink RX0 130 "BridgeBells$Travellers" "passed" "I", Cond.fieldLink RX0 27 "BridgeBells$Bridge" "waitedInAll" "I", Cond.fieldLink RX0 41 "BridgeBells$Bridge" "passing" "I", Cond.methodLink RX0 64 yX0_servedNext, Cond.instanceMethod yX0_servedNext, Cond.selects RX0 yX0_servedNext yX0_servedNext, Cond.code yX0_servedNext cX0_servedNext 1 (some .int)]
def wsX2_count_r2 : List Cond := [Cond.fieldLink RX0 47 "BridgeBells$Bridge" "latestWasBarge" "Z", Cond.methodLink RX0 90 yX1_firstOfAll, Cond.instanceMethod yX1_firstOfAll, Cond.selects RX1 yX1_firstOfAll yX1_firstOfAll, Cond.initialized RX1, Cond.code yX1_firstOfAll cX1_firstOfAll 1 (some .int), Cond.fieldLink RX1 43 "BridgeBells$Travellers" "firstBarge" "I", Cond.fieldLink RX1 46 "BridgeBells$Travellers" "firstCart" "I", Cond.methodLink RX1 58 Lib.Math.min.name, Cond.static Lib.Math.min.name, Cond.initialized "java/lang/Math", Cond.code Lib.Math.min.name Lib.Math.min.code 2 (some .int), Cond.methodLink RX0 93 yX1_firstBargeElseCart, Cond.instanceMethod yX1_firstBargeElseCart, Cond.selects RX1 yX1_firstBargeElseCart yX1_firstBargeElseCart, Cond.code yX1_firstBargeElseCart cX1_firstBargeElseCart 1 (some .int), Cond.methodLink RX0 96 yX1_firstCartElseBarge, Cond.instanceMethod yX1_firstCartElseBarge, Cond.selects RX1 yX1_firstCartElseBarge yX1_firstCartElseBarge, Cond.code yX1_firstCartElseBarge cX1_firstCartElseBarge 1 (some .int)]
def wsX2_count : List Cond := .code yX2_count cX2_count 2 (some .int) :: ((wsX2_count_r1 ++ wsX2_count_r2) ++ wsX20 ++ wsX00 ++ wsX10 ++ (vx_atS RX2 56 "java/lang/IndexOutOfBoundsException" ["java/lang/RuntimeException", "java/lang/Exception"]).filter goodWord)
def wsX2_speed : List Cond := .code yX2_speed cX2_speed 2 (some .int) :: ([.fieldLink RX2 10 "BridgeBells" "bridge" "LBridgeBells$Bridge;", .methodLink RX2 112 yX0_speedTowards, .instanceMethod yX0_speedTowards, .selects RX0 yX0_speedTowards yX0_speedTowards, .initialized RX0, .code yX0_speedTowards cX0_speedTowards 4 (some .int), .fieldLink RX0 18 "BridgeBells$Bridge" "counterpoise" "I", .fieldLink RX0 21 "BridgeBells$Bridge" "ice" "I", .methodLink RX0 84 Lib.Math.max.name, .static Lib.Math.max.name, .initialized "java/lang/Math", .code Lib.Math.max.name Lib.Math.max.code 2 (some .int)] ++ wsX20 ++ wsX00)
def wsX2_isSpan : List Cond := .code yX2_isSpan cX2_isSpan 1 (some .boolean) :: ([])
def wsX2_pass_r1 : List Cond := [Cond.classLink RX2 19 "java/lang/IllegalArgumentException", Cond.initialized "java/lang/IllegalArgumentException", Cond.fieldLink RX2 10 "BridgeBells" "bridge" "LBridgeBells$Bridge;", Cond.fieldLink RX2 26 "BridgeBells$Bridge" "travellers" "LBridgeBells$Travellers;", Cond.fieldLink RX2 121 "BridgeBells$Travellers" "passed" "I", Cond.methodLink RX2 116 yX2_isSpan, Cond.static yX2_isSpan, Cond.initialized RX2, Cond.code yX2_isSpan cX2_isSpan 1 (some .boolean), Cond.methodLink RX2 124 yX0_goOn, Cond.instanceMethod yX0_goOn, Cond.selects RX0 yX0_goOn yX0_goOn, Cond.initialized RX0, Cond.code yX0_goOn cX0_goOn 3 none, Cond.methodLink RX0 61 yX0_goOneMinute, Cond.instanceMethod yX0_goOneMinute, Cond.selects RX0 yX0_goOneMinute yX0_goOneMinute, Cond.code yX0_goOneMinute cX0_goOneMinute 1 none, Cond.fieldLink RX0 27 "BridgeBells$Bridge" "waitedInAll" "I", Cond.fieldLink RX0 37 "BridgeBells$Bridge" "travellers" "LBridgeBells$Travellers;", Cond.fieldLink RX0 75 "BridgeBells$Travellers" "bargesWaiting" "I", Cond.fieldLink RX0 78 "BridgeBells$Travellers" "cartsWaiting" "I", Cond.fieldLink RX0 9 "BridgeBells$Bridge" "minute" "I", Cond.methodLink RX0 64 yX0_servedNext]
def wsX2_pass_r2 : List Cond := [Cond.instanceMethod yX0_servedNext, Cond.selects RX0 yX0_servedNext yX0_servedNext, Cond.code yX0_servedNext cX0_servedNext 1 (some .int), Cond.fieldLink RX0 41 "BridgeBells$Bridge" "passing" "I", Cond.fieldLink RX0 24 "BridgeBells$Bridge" "code" "I", Cond.fieldLink RX0 47 "BridgeBells$Bridge" "latestWasBarge" "Z", Cond.methodLink RX0 90 yX1_firstOfAll, Cond.instanceMethod yX1_firstOfAll, Cond.selects RX1 yX1_firstOfAll yX1_firstOfAll, Cond.initialized RX1, Cond.code yX1_firstOfAll cX1_firstOfAll 1 (some .int), Cond.fieldLink RX1 43 "BridgeBells$Travellers" "firstBarge" "I", Cond.fieldLink RX1 46 "BridgeBells$Travellers" "firstCart" "I", Cond.methodLink RX1 58 Lib.Math.min.name, Cond.static Lib.Math.min.name, Cond.initialized "java/lang/Math", Cond.code Lib.Math.min.name Lib.Math.min.code 2 (some .int), Cond.methodLink RX0 93 yX1_firstBargeElseCart, Cond.instanceMethod yX1_firstBargeElseCart, Cond.selects RX1 yX1_firstBargeElseCart yX1_firstBargeElseCart, Cond.code yX1_firstBargeElseCart cX1_firstBargeElseCart 1 (some .int), Cond.methodLink RX0 96 yX1_firstCartElseBarge, Cond.instanceMethod yX1_firstCartElseBarge, Cond.selects RX1 yX1_firstCartElseBarge yX1_firstCartElseBarge]
def wsX2_pass_r3 : List Cond := [Cond.code yX1_firstCartElseBarge cX1_firstCartElseBarge 1 (some .int), Cond.methodLink RX0 68 yX0_serve, Cond.instanceMethod yX0_serve, Cond.selects RX0 yX0_serve yX0_serve, Cond.code yX0_serve cX0_serve 3 none, Cond.fieldLink RX0 103 "BridgeBells$Travellers" "barge" "[I", Cond.fieldLink RX0 15 "BridgeBells$Bridge" "angle" "I", Cond.fieldLink RX0 106 "BridgeBells$Travellers" "needs" "[I", Cond.fieldLink RX0 44 "BridgeBells$Bridge" "toGo" "I", Cond.methodLink RX0 117 Lib.Math.min.name, Cond.methodLink RX0 84 Lib.Math.max.name, Cond.static Lib.Math.max.name, Cond.code Lib.Math.max.name Lib.Math.max.code 2 (some .int), Cond.methodLink RX0 99 yX1_has, Cond.instanceMethod yX1_has, Cond.selects RX1 yX1_has yX1_has, Cond.code yX1_has cX1_has 2 (some .boolean), Cond.fieldLink RX1 9 "BridgeBells$Travellers" "number" "I", Cond.methodLink RX0 109 yX1_endWait, Cond.instanceMethod yX1_endWait, Cond.selects RX1 yX1_endWait yX1_endWait, Cond.code yX1_endWait cX1_endWait 4 none, Cond.fieldLink RX1 31 "BridgeBells$Travellers" "state" "[I", Cond.fieldLink RX1 40 "BridgeBells$Travellers" "waitEnd" "[I"]
def wsX2_pass_r4 : List Cond := [Cond.methodLink RX1 55 yX1_seeWhoWaits, Cond.instanceMethod yX1_seeWhoWaits, Cond.selects RX1 yX1_seeWhoWaits yX1_seeWhoWaits, Cond.code yX1_seeWhoWaits cX1_seeWhoWaits 2 none, Cond.fieldLink RX1 18 "BridgeBells$Travellers" "bargesWaiting" "I", Cond.fieldLink RX1 21 "BridgeBells$Travellers" "cartsWaiting" "I", Cond.fieldLink RX1 24 "BridgeBells$Travellers" "barge" "[I", Cond.methodLink RX0 113 yX0_speedTowards, Cond.instanceMethod yX0_speedTowards, Cond.selects RX0 yX0_speedTowards yX0_speedTowards, Cond.code yX0_speedTowards cX0_speedTowards 4 (some .int), Cond.fieldLink RX0 18 "BridgeBells$Bridge" "counterpoise" "I", Cond.fieldLink RX0 21 "BridgeBells$Bridge" "ice" "I", Cond.methodLink RX0 72 yX0_goOnPassing, Cond.instanceMethod yX0_goOnPassing, Cond.selects RX0 yX0_goOnPassing yX0_goOnPassing, Cond.code yX0_goOnPassing cX0_goOnPassing 1 none, Cond.methodLink RX0 120 yX1_endPassage, Cond.instanceMethod yX1_endPassage, Cond.selects RX1 yX1_endPassage yX1_endPassage, Cond.code yX1_endPassage cX1_endPassage 3 none, Cond.fieldLink RX1 37 "BridgeBells$Travellers" "passedIn" "[I", Cond.fieldLink RX1 15 "BridgeBells$Travellers" "passed" "I", Cond.methodLink RX0 81 yX0_freeze]
def wsX2_pass_r5 : List Cond := [Cond.instanceMethod yX0_freeze, Cond.selects RX0 yX0_freeze yX0_freeze, Cond.code yX0_freeze cX0_freeze 2 none, Cond.fieldLink RX0 30 "BridgeBells$Bridge" "cold" "[I", Cond.methodLink RX0 124 yJ9_floorMod_7cf53, Cond.static yJ9_floorMod_7cf53, Cond.initialized RJ9, Cond.code yJ9_floorMod_7cf53 cJ9_floorMod_7cf53 3 (some .int)]
def wsX2_pass : List Cond := .code yX2_pass cX2_pass 3 (some .int) :: ((wsX2_pass_r1 ++ (wsX2_pass_r2 ++ (wsX2_pass_r3 ++ (wsX2_pass_r4 ++ wsX2_pass_r5)))) ++ wsX20 ++ wsX00 ++ wsX10 ++ (vx_atS RX2 23 "java/lang/IllegalArgumentException" ["java/lang/RuntimeException", "java/lang/Exception"]).filter goodWord)
def wsX2_when_r1 : List Cond := [Cond.classLink RX2 52 "java/lang/IndexOutOfBoundsException", Cond.initialized "java/lang/IndexOutOfBoundsException", Cond.fieldLink RX2 10 "BridgeBells" "bridge" "LBridgeBells$Bridge;", Cond.fieldLink RX2 26 "BridgeBells$Bridge" "travellers" "LBridgeBells$Travellers;", Cond.fieldLink RX2 16 "BridgeBells" "trial" "LBridgeBells$Bridge;", Cond.fieldLink RX2 57 "BridgeBells$Travellers" "state" "[I", Cond.methodLink RX2 48 yX1_has, Cond.instanceMethod yX1_has, Cond.selects RX1 yX1_has yX1_has, Cond.initialized RX1, Cond.code yX1_has cX1_has 2 (some .boolean), Cond.fieldLink RX1 9 "BridgeBells$Travellers" "number" "I", Cond.methodLink RX2 128 yX0_copyFrom, Cond.instanceMethod yX0_copyFrom, Cond.selects RX0 yX0_copyFrom yX0_copyFrom, Cond.initialized RX0, Cond.code yX0_copyFrom cX0_copyFrom 2 none, Cond.fieldLink RX0 9 "BridgeBells$Bridge" "minute" "I", Cond.fieldLink RX0 15 "BridgeBells$Bridge" "angle" "I", Cond.fieldLink RX0 18 "BridgeBells$Bridge" "counterpoise" "I", Cond.fieldLink RX0 21 "BridgeBells$Bridge" "ice" "I", Cond.fieldLink RX0 24 "BridgeBells$Bridge" "code" "I", Cond.fieldLink RX0 27 "BridgeBells$Bridge" "waitedInAll" "I", Cond.fieldLink RX0 30 "BridgeBells$Bridge" "cold" "[I"]
def wsX2_when_r2 : List Cond := [Cond.methodLink RX0 51 arraycopyName, Cond.native arraycopyName, Cond.static arraycopyName, Cond.initialized "java/lang/System", Cond.fieldLink RX0 37 "BridgeBells$Bridge" "travellers" "LBridgeBells$Travellers;", Cond.fieldLink RX0 41 "BridgeBells$Bridge" "passing" "I", Cond.fieldLink RX0 44 "BridgeBells$Bridge" "toGo" "I", Cond.fieldLink RX0 47 "BridgeBells$Bridge" "latestWasBarge" "Z", Cond.methodLink RX0 57 yX1_copyFrom, Cond.instanceMethod yX1_copyFrom, Cond.selects RX1 yX1_copyFrom yX1_copyFrom, Cond.code yX1_copyFrom cX1_copyFrom 2 none, Cond.fieldLink RX1 15 "BridgeBells$Travellers" "passed" "I", Cond.fieldLink RX1 18 "BridgeBells$Travellers" "bargesWaiting" "I", Cond.fieldLink RX1 21 "BridgeBells$Travellers" "cartsWaiting" "I", Cond.fieldLink RX1 24 "BridgeBells$Travellers" "barge" "[I", Cond.methodLink RX1 49 arraycopyName, Cond.fieldLink RX1 28 "BridgeBells$Travellers" "needs" "[I", Cond.fieldLink RX1 31 "BridgeBells$Travellers" "state" "[I", Cond.fieldLink RX1 34 "BridgeBells$Travellers" "came" "[I", Cond.fieldLink RX1 37 "BridgeBells$Travellers" "passedIn" "[I", Cond.fieldLink RX1 40 "BridgeBells$Travellers" "waitEnd" "[I", Cond.fieldLink RX1 43 "BridgeBells$Travellers" "firstBarge" "I", Cond.fieldLink RX1 46 "BridgeBells$Travellers" "firstCart" "I"]
def wsX2_when_r3 : List Cond := [Cond.methodLink RX2 132 yX0_goOneMinute, Cond.instanceMethod yX0_goOneMinute, Cond.selects RX0 yX0_goOneMinute yX0_goOneMinute, Cond.code yX0_goOneMinute cX0_goOneMinute 1 none, Cond.fieldLink RX0 75 "BridgeBells$Travellers" "bargesWaiting" "I", Cond.fieldLink RX0 78 "BridgeBells$Travellers" "cartsWaiting" "I", Cond.methodLink RX0 64 yX0_servedNext, Cond.instanceMethod yX0_servedNext, Cond.selects RX0 yX0_servedNext yX0_servedNext, Cond.code yX0_servedNext cX0_servedNext 1 (some .int), Cond.methodLink RX0 90 yX1_firstOfAll, Cond.instanceMethod yX1_firstOfAll, Cond.selects RX1 yX1_firstOfAll yX1_firstOfAll, Cond.code yX1_firstOfAll cX1_firstOfAll 1 (some .int), Cond.methodLink RX1 58 Lib.Math.min.name, Cond.static Lib.Math.min.name, Cond.initialized "java/lang/Math", Cond.code Lib.Math.min.name Lib.Math.min.code 2 (some .int), Cond.methodLink RX0 93 yX1_firstBargeElseCart, Cond.instanceMethod yX1_firstBargeElseCart, Cond.selects RX1 yX1_firstBargeElseCart yX1_firstBargeElseCart, Cond.code yX1_firstBargeElseCart cX1_firstBargeElseCart 1 (some .int), Cond.methodLink RX0 96 yX1_firstCartElseBarge, Cond.instanceMethod yX1_firstCartElseBarge]
def wsX2_when_r4 : List Cond := [Cond.selects RX1 yX1_firstCartElseBarge yX1_firstCartElseBarge, Cond.code yX1_firstCartElseBarge cX1_firstCartElseBarge 1 (some .int), Cond.methodLink RX0 68 yX0_serve, Cond.instanceMethod yX0_serve, Cond.selects RX0 yX0_serve yX0_serve, Cond.code yX0_serve cX0_serve 3 none, Cond.fieldLink RX0 103 "BridgeBells$Travellers" "barge" "[I", Cond.fieldLink RX0 106 "BridgeBells$Travellers" "needs" "[I", Cond.methodLink RX0 117 Lib.Math.min.name, Cond.methodLink RX0 84 Lib.Math.max.name, Cond.static Lib.Math.max.name, Cond.code Lib.Math.max.name Lib.Math.max.code 2 (some .int), Cond.methodLink RX0 99 yX1_has, Cond.methodLink RX0 109 yX1_endWait, Cond.instanceMethod yX1_endWait, Cond.selects RX1 yX1_endWait yX1_endWait, Cond.code yX1_endWait cX1_endWait 4 none, Cond.methodLink RX1 55 yX1_seeWhoWaits, Cond.instanceMethod yX1_seeWhoWaits, Cond.selects RX1 yX1_seeWhoWaits yX1_seeWhoWaits, Cond.code yX1_seeWhoWaits cX1_seeWhoWaits 2 none, Cond.methodLink RX0 113 yX0_speedTowards, Cond.instanceMethod yX0_speedTowards, Cond.selects RX0 yX0_speedTowards yX0_speedTowards]
def wsX2_when_r5 : List Cond := [Cond.code yX0_speedTowards cX0_speedTowards 4 (some .int), Cond.methodLink RX0 72 yX0_goOnPassing, Cond.instanceMethod yX0_goOnPassing, Cond.selects RX0 yX0_goOnPassing yX0_goOnPassing, Cond.code yX0_goOnPassing cX0_goOnPassing 1 none, Cond.methodLink RX0 120 yX1_endPassage, Cond.instanceMethod yX1_endPassage, Cond.selects RX1 yX1_endPassage yX1_endPassage, Cond.code yX1_endPassage cX1_endPassage 3 none, Cond.methodLink RX0 81 yX0_freeze, Cond.instanceMethod yX0_freeze, Cond.selects RX0 yX0_freeze yX0_freeze, Cond.code yX0_freeze cX0_freeze 2 none, Cond.methodLink RX0 124 yJ9_floorMod_7cf53, Cond.static yJ9_floorMod_7cf53, Cond.initialized RJ9, Cond.code yJ9_floorMod_7cf53 cJ9_floorMod_7cf53 3 (some .int)]
def wsX2_when : List Cond := .code yX2_when cX2_when 3 (some .int) :: ((wsX2_when_r1 ++ (wsX2_when_r2 ++ (wsX2_when_r3 ++ (wsX2_when_r4 ++ wsX2_when_r5)))) ++ wsX20 ++ wsX00 ++ wsX10 ++ (vx_atS RX2 56 "java/lang/IndexOutOfBoundsException" ["java/lang/RuntimeException", "java/lang/Exception"]).filter goodWord)
def wsX2_foresee_r1 : List Cond := [Cond.classLink RX2 19 "java/lang/IllegalArgumentException", Cond.initialized "java/lang/IllegalArgumentException", Cond.classLink RX2 52 "java/lang/IndexOutOfBoundsException", Cond.initialized "java/lang/IndexOutOfBoundsException", Cond.fieldLink RX2 16 "BridgeBells" "trial" "LBridgeBells$Bridge;", Cond.fieldLink RX2 10 "BridgeBells" "bridge" "LBridgeBells$Bridge;", Cond.fieldLink RX2 26 "BridgeBells$Bridge" "travellers" "LBridgeBells$Travellers;", Cond.fieldLink RX2 121 "BridgeBells$Travellers" "passed" "I", Cond.fieldLink RX2 137 "BridgeBells$Bridge" "waitedInAll" "I", Cond.fieldLink RX2 78 "BridgeBells$Bridge" "angle" "I", Cond.fieldLink RX2 93 "BridgeBells$Bridge" "ice" "I", Cond.methodLink RX2 116 yX2_isSpan, Cond.static yX2_isSpan, Cond.initialized RX2, Cond.code yX2_isSpan cX2_isSpan 1 (some .boolean), Cond.methodLink RX2 128 yX0_copyFrom, Cond.instanceMethod yX0_copyFrom, Cond.selects RX0 yX0_copyFrom yX0_copyFrom, Cond.initialized RX0, Cond.code yX0_copyFrom cX0_copyFrom 2 none, Cond.fieldLink RX0 9 "BridgeBells$Bridge" "minute" "I", Cond.fieldLink RX0 15 "BridgeBells$Bridge" "angle" "I", Cond.fieldLink RX0 18 "BridgeBells$Bridge" "counterpoise" "I", Cond.fieldLink RX0 21 "BridgeBells$Bridge" "ice" "I"]
def wsX2_foresee_r2 : List Cond := [Cond.fieldLink RX0 24 "BridgeBells$Bridge" "code" "I", Cond.fieldLink RX0 27 "BridgeBells$Bridge" "waitedInAll" "I", Cond.fieldLink RX0 30 "BridgeBells$Bridge" "cold" "[I", Cond.methodLink RX0 51 arraycopyName, Cond.native arraycopyName, Cond.static arraycopyName, Cond.initialized "java/lang/System", Cond.fieldLink RX0 37 "BridgeBells$Bridge" "travellers" "LBridgeBells$Travellers;", Cond.fieldLink RX0 41 "BridgeBells$Bridge" "passing" "I", Cond.fieldLink RX0 44 "BridgeBells$Bridge" "toGo" "I", Cond.fieldLink RX0 47 "BridgeBells$Bridge" "latestWasBarge" "Z", Cond.methodLink RX0 57 yX1_copyFrom, Cond.instanceMethod yX1_copyFrom, Cond.selects RX1 yX1_copyFrom yX1_copyFrom, Cond.initialized RX1, Cond.code yX1_copyFrom cX1_copyFrom 2 none, Cond.fieldLink RX1 9 "BridgeBells$Travellers" "number" "I", Cond.fieldLink RX1 15 "BridgeBells$Travellers" "passed" "I", Cond.fieldLink RX1 18 "BridgeBells$Travellers" "bargesWaiting" "I", Cond.fieldLink RX1 21 "BridgeBells$Travellers" "cartsWaiting" "I", Cond.fieldLink RX1 24 "BridgeBells$Travellers" "barge" "[I", Cond.methodLink RX1 49 arraycopyName, Cond.fieldLink RX1 28 "BridgeBells$Travellers" "needs" "[I", Cond.fieldLink RX1 31 "BridgeBells$Travellers" "state" "[I"]
def wsX2_foresee_r3 : List Cond := [Cond.fieldLink RX1 34 "BridgeBells$Travellers" "came" "[I", Cond.fieldLink RX1 37 "BridgeBells$Travellers" "passedIn" "[I", Cond.fieldLink RX1 40 "BridgeBells$Travellers" "waitEnd" "[I", Cond.fieldLink RX1 43 "BridgeBells$Travellers" "firstBarge" "I", Cond.fieldLink RX1 46 "BridgeBells$Travellers" "firstCart" "I", Cond.methodLink RX2 124 yX0_goOn, Cond.instanceMethod yX0_goOn, Cond.selects RX0 yX0_goOn yX0_goOn, Cond.code yX0_goOn cX0_goOn 3 none, Cond.methodLink RX0 61 yX0_goOneMinute, Cond.instanceMethod yX0_goOneMinute, Cond.selects RX0 yX0_goOneMinute yX0_goOneMinute, Cond.code yX0_goOneMinute cX0_goOneMinute 1 none, Cond.fieldLink RX0 75 "BridgeBells$Travellers" "bargesWaiting" "I", Cond.fieldLink RX0 78 "BridgeBells$Travellers" "cartsWaiting" "I", Cond.methodLink RX0 64 yX0_servedNext, Cond.instanceMethod yX0_servedNext, Cond.selects RX0 yX0_servedNext yX0_servedNext, Cond.code yX0_servedNext cX0_servedNext 1 (some .int), Cond.methodLink RX0 90 yX1_firstOfAll, Cond.instanceMethod yX1_firstOfAll, Cond.selects RX1 yX1_firstOfAll yX1_firstOfAll, Cond.code yX1_firstOfAll cX1_firstOfAll 1 (some .int), Cond.methodLink RX1 58 Lib.Math.min.name]
def wsX2_foresee_r4 : List Cond := [Cond.static Lib.Math.min.name, Cond.initialized "java/lang/Math", Cond.code Lib.Math.min.name Lib.Math.min.code 2 (some .int), Cond.methodLink RX0 93 yX1_firstBargeElseCart, Cond.instanceMethod yX1_firstBargeElseCart, Cond.selects RX1 yX1_firstBargeElseCart yX1_firstBargeElseCart, Cond.code yX1_firstBargeElseCart cX1_firstBargeElseCart 1 (some .int), Cond.methodLink RX0 96 yX1_firstCartElseBarge, Cond.instanceMethod yX1_firstCartElseBarge, Cond.selects RX1 yX1_firstCartElseBarge yX1_firstCartElseBarge, Cond.code yX1_firstCartElseBarge cX1_firstCartElseBarge 1 (some .int), Cond.methodLink RX0 68 yX0_serve, Cond.instanceMethod yX0_serve, Cond.selects RX0 yX0_serve yX0_serve, Cond.code yX0_serve cX0_serve 3 none, Cond.fieldLink RX0 103 "BridgeBells$Travellers" "barge" "[I", Cond.fieldLink RX0 106 "BridgeBells$Travellers" "needs" "[I", Cond.methodLink RX0 117 Lib.Math.min.name, Cond.methodLink RX0 84 Lib.Math.max.name, Cond.static Lib.Math.max.name, Cond.code Lib.Math.max.name Lib.Math.max.code 2 (some .int), Cond.methodLink RX0 99 yX1_has, Cond.instanceMethod yX1_has, Cond.selects RX1 yX1_has yX1_has]
def wsX2_foresee_r5 : List Cond := [Cond.code yX1_has cX1_has 2 (some .boolean), Cond.methodLink RX0 109 yX1_endWait, Cond.instanceMethod yX1_endWait, Cond.selects RX1 yX1_endWait yX1_endWait, Cond.code yX1_endWait cX1_endWait 4 none, Cond.methodLink RX1 55 yX1_seeWhoWaits, Cond.instanceMethod yX1_seeWhoWaits, Cond.selects RX1 yX1_seeWhoWaits yX1_seeWhoWaits, Cond.code yX1_seeWhoWaits cX1_seeWhoWaits 2 none, Cond.methodLink RX0 113 yX0_speedTowards, Cond.instanceMethod yX0_speedTowards, Cond.selects RX0 yX0_speedTowards yX0_speedTowards, Cond.code yX0_speedTowards cX0_speedTowards 4 (some .int), Cond.methodLink RX0 72 yX0_goOnPassing, Cond.instanceMethod yX0_goOnPassing, Cond.selects RX0 yX0_goOnPassing yX0_goOnPassing, Cond.code yX0_goOnPassing cX0_goOnPassing 1 none, Cond.methodLink RX0 120 yX1_endPassage, Cond.instanceMethod yX1_endPassage, Cond.selects RX1 yX1_endPassage yX1_endPassage, Cond.code yX1_endPassage cX1_endPassage 3 none, Cond.methodLink RX0 81 yX0_freeze, Cond.instanceMethod yX0_freeze, Cond.selects RX0 yX0_freeze yX0_freeze]
def wsX2_foresee_r6 : List Cond := [Cond.code yX0_freeze cX0_freeze 2 none, Cond.methodLink RX0 124 yJ9_floorMod_7cf53, Cond.static yJ9_floorMod_7cf53, Cond.initialized RJ9, Cond.code yJ9_floorMod_7cf53 cJ9_floorMod_7cf53 3 (some .int)]
def wsX2_foresee : List Cond := .code yX2_foresee cX2_foresee 3 (some .int) :: ((wsX2_foresee_r1 ++ (wsX2_foresee_r2 ++ (wsX2_foresee_r3 ++ (wsX2_foresee_r4 ++ (wsX2_foresee_r5 ++ wsX2_foresee_r6))))) ++ wsX20 ++ wsX00 ++ wsX10 ++ (vx_atS RX2 23 "java/lang/IllegalArgumentException" ["java/lang/RuntimeException", "java/lang/Exception"]).filter goodWord ++ (vx_atS RX2 56 "java/lang/IndexOutOfBoundsException" ["java/lang/RuntimeException", "java/lang/Exception"]).filter goodWord)
def wsX2_waitWith_r1 : List Cond := [Cond.fieldLink RX2 16 "BridgeBells" "trial" "LBridgeBells$Bridge;", Cond.fieldLink RX2 10 "BridgeBells" "bridge" "LBridgeBells$Bridge;", Cond.fieldLink RX2 73 "BridgeBells$Bridge" "code" "I", Cond.fieldLink RX2 83 "BridgeBells$Bridge" "counterpoise" "I", Cond.fieldLink RX2 137 "BridgeBells$Bridge" "waitedInAll" "I", Cond.methodLink RX2 128 yX0_copyFrom, Cond.instanceMethod yX0_copyFrom, Cond.selects RX0 yX0_copyFrom yX0_copyFrom, Cond.initialized RX0, Cond.code yX0_copyFrom cX0_copyFrom 2 none, Cond.fieldLink RX0 9 "BridgeBells$Bridge" "minute" "I", Cond.fieldLink RX0 15 "BridgeBells$Bridge" "angle" "I", Cond.fieldLink RX0 18 "BridgeBells$Bridge" "counterpoise" "I", Cond.fieldLink RX0 21 "BridgeBells$Bridge" "ice" "I", Cond.fieldLink RX0 24 "BridgeBells$Bridge" "code" "I", Cond.fieldLink RX0 27 "BridgeBells$Bridge" "waitedInAll" "I", Cond.fieldLink RX0 30 "BridgeBells$Bridge" "cold" "[I", Cond.methodLink RX0 51 arraycopyName, Cond.native arraycopyName, Cond.static arraycopyName, Cond.initialized "java/lang/System", Cond.fieldLink RX0 37 "BridgeBells$Bridge" "travellers" "LBridgeBells$Travellers;", Cond.fieldLink RX0 41 "BridgeBells$Bridge" "passing" "I", Cond.fieldLink RX0 44 "BridgeBells$Bridge" "toGo" "I"]
def wsX2_waitWith_r2 : List Cond := [Cond.fieldLink RX0 47 "BridgeBells$Bridge" "latestWasBarge" "Z", Cond.methodLink RX0 57 yX1_copyFrom, Cond.instanceMethod yX1_copyFrom, Cond.selects RX1 yX1_copyFrom yX1_copyFrom, Cond.initialized RX1, Cond.code yX1_copyFrom cX1_copyFrom 2 none, Cond.fieldLink RX1 9 "BridgeBells$Travellers" "number" "I", Cond.fieldLink RX1 15 "BridgeBells$Travellers" "passed" "I", Cond.fieldLink RX1 18 "BridgeBells$Travellers" "bargesWaiting" "I", Cond.fieldLink RX1 21 "BridgeBells$Travellers" "cartsWaiting" "I", Cond.fieldLink RX1 24 "BridgeBells$Travellers" "barge" "[I", Cond.methodLink RX1 49 arraycopyName, Cond.fieldLink RX1 28 "BridgeBells$Travellers" "needs" "[I", Cond.fieldLink RX1 31 "BridgeBells$Travellers" "state" "[I", Cond.fieldLink RX1 34 "BridgeBells$Travellers" "came" "[I", Cond.fieldLink RX1 37 "BridgeBells$Travellers" "passedIn" "[I", Cond.fieldLink RX1 40 "BridgeBells$Travellers" "waitEnd" "[I", Cond.fieldLink RX1 43 "BridgeBells$Travellers" "firstBarge" "I", Cond.fieldLink RX1 46 "BridgeBells$Travellers" "firstCart" "I", Cond.methodLink RX2 124 yX0_goOn, Cond.instanceMethod yX0_goOn, Cond.selects RX0 yX0_goOn yX0_goOn, Cond.code yX0_goOn cX0_goOn 3 none, Cond.methodLink RX0 61 yX0_goOneMinute]
def wsX2_waitWith_r3 : List Cond := [Cond.instanceMethod yX0_goOneMinute, Cond.selects RX0 yX0_goOneMinute yX0_goOneMinute, Cond.code yX0_goOneMinute cX0_goOneMinute 1 none, Cond.fieldLink RX0 75 "BridgeBells$Travellers" "bargesWaiting" "I", Cond.fieldLink RX0 78 "BridgeBells$Travellers" "cartsWaiting" "I", Cond.methodLink RX0 64 yX0_servedNext, Cond.instanceMethod yX0_servedNext, Cond.selects RX0 yX0_servedNext yX0_servedNext, Cond.code yX0_servedNext cX0_servedNext 1 (some .int), Cond.methodLink RX0 90 yX1_firstOfAll, Cond.instanceMethod yX1_firstOfAll, Cond.selects RX1 yX1_firstOfAll yX1_firstOfAll, Cond.code yX1_firstOfAll cX1_firstOfAll 1 (some .int), Cond.methodLink RX1 58 Lib.Math.min.name, Cond.static Lib.Math.min.name, Cond.initialized "java/lang/Math", Cond.code Lib.Math.min.name Lib.Math.min.code 2 (some .int), Cond.methodLink RX0 93 yX1_firstBargeElseCart, Cond.instanceMethod yX1_firstBargeElseCart, Cond.selects RX1 yX1_firstBargeElseCart yX1_firstBargeElseCart, Cond.code yX1_firstBargeElseCart cX1_firstBargeElseCart 1 (some .int), Cond.methodLink RX0 96 yX1_firstCartElseBarge, Cond.instanceMethod yX1_firstCartElseBarge, Cond.selects RX1 yX1_firstCartElseBarge yX1_firstCartElseBarge]
def wsX2_waitWith_r4 : List Cond := [Cond.code yX1_firstCartElseBarge cX1_firstCartElseBarge 1 (some .int), Cond.methodLink RX0 68 yX0_serve, Cond.instanceMethod yX0_serve, Cond.selects RX0 yX0_serve yX0_serve, Cond.code yX0_serve cX0_serve 3 none, Cond.fieldLink RX0 103 "BridgeBells$Travellers" "barge" "[I", Cond.fieldLink RX0 106 "BridgeBells$Travellers" "needs" "[I", Cond.methodLink RX0 117 Lib.Math.min.name, Cond.methodLink RX0 84 Lib.Math.max.name, Cond.static Lib.Math.max.name, Cond.code Lib.Math.max.name Lib.Math.max.code 2 (some .int), Cond.methodLink RX0 99 yX1_has, Cond.instanceMethod yX1_has, Cond.selects RX1 yX1_has yX1_has, Cond.code yX1_has cX1_has 2 (some .boolean), Cond.methodLink RX0 109 yX1_endWait, Cond.instanceMethod yX1_endWait, Cond.selects RX1 yX1_endWait yX1_endWait, Cond.code yX1_endWait cX1_endWait 4 none, Cond.methodLink RX1 55 yX1_seeWhoWaits, Cond.instanceMethod yX1_seeWhoWaits, Cond.selects RX1 yX1_seeWhoWaits yX1_seeWhoWaits, Cond.code yX1_seeWhoWaits cX1_seeWhoWaits 2 none, Cond.methodLink RX0 113 yX0_speedTowards]
def wsX2_waitWith_r5 : List Cond := [Cond.instanceMethod yX0_speedTowards, Cond.selects RX0 yX0_speedTowards yX0_speedTowards, Cond.code yX0_speedTowards cX0_speedTowards 4 (some .int), Cond.methodLink RX0 72 yX0_goOnPassing, Cond.instanceMethod yX0_goOnPassing, Cond.selects RX0 yX0_goOnPassing yX0_goOnPassing, Cond.code yX0_goOnPassing cX0_goOnPassing 1 none, Cond.methodLink RX0 120 yX1_endPassage, Cond.instanceMethod yX1_endPassage, Cond.selects RX1 yX1_endPassage yX1_endPassage, Cond.code yX1_endPassage cX1_endPassage 3 none, Cond.methodLink RX0 81 yX0_freeze, Cond.instanceMethod yX0_freeze, Cond.selects RX0 yX0_freeze yX0_freeze, Cond.code yX0_freeze cX0_freeze 2 none, Cond.methodLink RX0 124 yJ9_floorMod_7cf53, Cond.static yJ9_floorMod_7cf53, Cond.initialized RJ9, Cond.code yJ9_floorMod_7cf53 cJ9_floorMod_7cf53 3 (some .int)]
def wsX2_waitWith : List Cond := .code yX2_waitWith cX2_waitWith 4 (some .int) :: ((wsX2_waitWith_r1 ++ (wsX2_waitWith_r2 ++ (wsX2_waitWith_r3 ++ (wsX2_waitWith_r4 ++ wsX2_waitWith_r5)))) ++ wsX20 ++ wsX00 ++ wsX10)
def wsX2_bestCode_r1 : List Cond := [Cond.classLink RX2 19 "java/lang/IllegalArgumentException", Cond.initialized "java/lang/IllegalArgumentException", Cond.fieldLink RX2 10 "BridgeBells" "bridge" "LBridgeBells$Bridge;", Cond.fieldLink RX2 83 "BridgeBells$Bridge" "counterpoise" "I", Cond.methodLink RX2 116 yX2_isSpan, Cond.static yX2_isSpan, Cond.initialized RX2, Cond.code yX2_isSpan cX2_isSpan 1 (some .boolean), Cond.methodLink RX2 140 yX2_waitWith, Cond.instanceMethod yX2_waitWith, Cond.selects RX2 yX2_waitWith yX2_waitWith, Cond.code yX2_waitWith cX2_waitWith 4 (some .int), Cond.fieldLink RX2 16 "BridgeBells" "trial" "LBridgeBells$Bridge;", Cond.fieldLink RX2 73 "BridgeBells$Bridge" "code" "I", Cond.fieldLink RX2 137 "BridgeBells$Bridge" "waitedInAll" "I", Cond.methodLink RX2 128 yX0_copyFrom, Cond.instanceMethod yX0_copyFrom, Cond.selects RX0 yX0_copyFrom yX0_copyFrom, Cond.initialized RX0, Cond.code yX0_copyFrom cX0_copyFrom 2 none, Cond.fieldLink RX0 9 "BridgeBells$Bridge" "minute" "I", Cond.fieldLink RX0 15 "BridgeBells$Bridge" "angle" "I", Cond.fieldLink RX0 18 "BridgeBells$Bridge" "counterpoise" "I", Cond.fieldLink RX0 21 "BridgeBells$Bridge" "ice" "I"]
def wsX2_bestCode_r2 : List Cond := [Cond.fieldLink RX0 24 "BridgeBells$Bridge" "code" "I", Cond.fieldLink RX0 27 "BridgeBells$Bridge" "waitedInAll" "I", Cond.fieldLink RX0 30 "BridgeBells$Bridge" "cold" "[I", Cond.methodLink RX0 51 arraycopyName, Cond.native arraycopyName, Cond.static arraycopyName, Cond.initialized "java/lang/System", Cond.fieldLink RX0 37 "BridgeBells$Bridge" "travellers" "LBridgeBells$Travellers;", Cond.fieldLink RX0 41 "BridgeBells$Bridge" "passing" "I", Cond.fieldLink RX0 44 "BridgeBells$Bridge" "toGo" "I", Cond.fieldLink RX0 47 "BridgeBells$Bridge" "latestWasBarge" "Z", Cond.methodLink RX0 57 yX1_copyFrom, Cond.instanceMethod yX1_copyFrom, Cond.selects RX1 yX1_copyFrom yX1_copyFrom, Cond.initialized RX1, Cond.code yX1_copyFrom cX1_copyFrom 2 none, Cond.fieldLink RX1 9 "BridgeBells$Travellers" "number" "I", Cond.fieldLink RX1 15 "BridgeBells$Travellers" "passed" "I", Cond.fieldLink RX1 18 "BridgeBells$Travellers" "bargesWaiting" "I", Cond.fieldLink RX1 21 "BridgeBells$Travellers" "cartsWaiting" "I", Cond.fieldLink RX1 24 "BridgeBells$Travellers" "barge" "[I", Cond.methodLink RX1 49 arraycopyName, Cond.fieldLink RX1 28 "BridgeBells$Travellers" "needs" "[I", Cond.fieldLink RX1 31 "BridgeBells$Travellers" "state" "[I"]
def wsX2_bestCode_r3 : List Cond := [Cond.fieldLink RX1 34 "BridgeBells$Travellers" "came" "[I", Cond.fieldLink RX1 37 "BridgeBells$Travellers" "passedIn" "[I", Cond.fieldLink RX1 40 "BridgeBells$Travellers" "waitEnd" "[I", Cond.fieldLink RX1 43 "BridgeBells$Travellers" "firstBarge" "I", Cond.fieldLink RX1 46 "BridgeBells$Travellers" "firstCart" "I", Cond.methodLink RX2 124 yX0_goOn, Cond.instanceMethod yX0_goOn, Cond.selects RX0 yX0_goOn yX0_goOn, Cond.code yX0_goOn cX0_goOn 3 none, Cond.methodLink RX0 61 yX0_goOneMinute, Cond.instanceMethod yX0_goOneMinute, Cond.selects RX0 yX0_goOneMinute yX0_goOneMinute, Cond.code yX0_goOneMinute cX0_goOneMinute 1 none, Cond.fieldLink RX0 75 "BridgeBells$Travellers" "bargesWaiting" "I", Cond.fieldLink RX0 78 "BridgeBells$Travellers" "cartsWaiting" "I", Cond.methodLink RX0 64 yX0_servedNext, Cond.instanceMethod yX0_servedNext, Cond.selects RX0 yX0_servedNext yX0_servedNext, Cond.code yX0_servedNext cX0_servedNext 1 (some .int), Cond.methodLink RX0 90 yX1_firstOfAll, Cond.instanceMethod yX1_firstOfAll, Cond.selects RX1 yX1_firstOfAll yX1_firstOfAll, Cond.code yX1_firstOfAll cX1_firstOfAll 1 (some .int), Cond.methodLink RX1 58 Lib.Math.min.name]
def wsX2_bestCode_r4 : List Cond := [Cond.static Lib.Math.min.name, Cond.initialized "java/lang/Math", Cond.code Lib.Math.min.name Lib.Math.min.code 2 (some .int), Cond.methodLink RX0 93 yX1_firstBargeElseCart, Cond.instanceMethod yX1_firstBargeElseCart, Cond.selects RX1 yX1_firstBargeElseCart yX1_firstBargeElseCart, Cond.code yX1_firstBargeElseCart cX1_firstBargeElseCart 1 (some .int), Cond.methodLink RX0 96 yX1_firstCartElseBarge, Cond.instanceMethod yX1_firstCartElseBarge, Cond.selects RX1 yX1_firstCartElseBarge yX1_firstCartElseBarge, Cond.code yX1_firstCartElseBarge cX1_firstCartElseBarge 1 (some .int), Cond.methodLink RX0 68 yX0_serve, Cond.instanceMethod yX0_serve, Cond.selects RX0 yX0_serve yX0_serve, Cond.code yX0_serve cX0_serve 3 none, Cond.fieldLink RX0 103 "BridgeBells$Travellers" "barge" "[I", Cond.fieldLink RX0 106 "BridgeBells$Travellers" "needs" "[I", Cond.methodLink RX0 117 Lib.Math.min.name, Cond.methodLink RX0 84 Lib.Math.max.name, Cond.static Lib.Math.max.name, Cond.code Lib.Math.max.name Lib.Math.max.code 2 (some .int), Cond.methodLink RX0 99 yX1_has, Cond.instanceMethod yX1_has, Cond.selects RX1 yX1_has yX1_has]
def wsX2_bestCode_r5 : List Cond := [Cond.code yX1_has cX1_has 2 (some .boolean), Cond.methodLink RX0 109 yX1_endWait, Cond.instanceMethod yX1_endWait, Cond.selects RX1 yX1_endWait yX1_endWait, Cond.code yX1_endWait cX1_endWait 4 none, Cond.methodLink RX1 55 yX1_seeWhoWaits, Cond.instanceMethod yX1_seeWhoWaits, Cond.selects RX1 yX1_seeWhoWaits yX1_seeWhoWaits, Cond.code yX1_seeWhoWaits cX1_seeWhoWaits 2 none, Cond.methodLink RX0 113 yX0_speedTowards, Cond.instanceMethod yX0_speedTowards, Cond.selects RX0 yX0_speedTowards yX0_speedTowards, Cond.code yX0_speedTowards cX0_speedTowards 4 (some .int), Cond.methodLink RX0 72 yX0_goOnPassing, Cond.instanceMethod yX0_goOnPassing, Cond.selects RX0 yX0_goOnPassing yX0_goOnPassing, Cond.code yX0_goOnPassing cX0_goOnPassing 1 none, Cond.methodLink RX0 120 yX1_endPassage, Cond.instanceMethod yX1_endPassage, Cond.selects RX1 yX1_endPassage yX1_endPassage, Cond.code yX1_endPassage cX1_endPassage 3 none, Cond.methodLink RX0 81 yX0_freeze, Cond.instanceMethod yX0_freeze, Cond.selects RX0 yX0_freeze yX0_freeze]
def wsX2_bestCode_r6 : List Cond := [Cond.code yX0_freeze cX0_freeze 2 none, Cond.methodLink RX0 124 yJ9_floorMod_7cf53, Cond.static yJ9_floorMod_7cf53, Cond.initialized RJ9, Cond.code yJ9_floorMod_7cf53 cJ9_floorMod_7cf53 3 (some .int)]
def wsX2_bestCode : List Cond := .code yX2_bestCode cX2_bestCode 6 (some .int) :: ((wsX2_bestCode_r1 ++ (wsX2_bestCode_r2 ++ (wsX2_bestCode_r3 ++ (wsX2_bestCode_r4 ++ (wsX2_bestCode_r5 ++ wsX2_bestCode_r6))))) ++ wsX20 ++ wsX00 ++ wsX10 ++ (vx_atS RX2 23 "java/lang/IllegalArgumentException" ["java/lang/RuntimeException", "java/lang/Exception"]).filter goodWord)
def wsX2_bestPoise_r1 : List Cond := [Cond.classLink RX2 19 "java/lang/IllegalArgumentException", Cond.initialized "java/lang/IllegalArgumentException", Cond.fieldLink RX2 10 "BridgeBells" "bridge" "LBridgeBells$Bridge;", Cond.fieldLink RX2 73 "BridgeBells$Bridge" "code" "I", Cond.methodLink RX2 116 yX2_isSpan, Cond.static yX2_isSpan, Cond.initialized RX2, Cond.code yX2_isSpan cX2_isSpan 1 (some .boolean), Cond.methodLink RX2 140 yX2_waitWith, Cond.instanceMethod yX2_waitWith, Cond.selects RX2 yX2_waitWith yX2_waitWith, Cond.code yX2_waitWith cX2_waitWith 4 (some .int), Cond.fieldLink RX2 16 "BridgeBells" "trial" "LBridgeBells$Bridge;", Cond.fieldLink RX2 83 "BridgeBells$Bridge" "counterpoise" "I", Cond.fieldLink RX2 137 "BridgeBells$Bridge" "waitedInAll" "I", Cond.methodLink RX2 128 yX0_copyFrom, Cond.instanceMethod yX0_copyFrom, Cond.selects RX0 yX0_copyFrom yX0_copyFrom, Cond.initialized RX0, Cond.code yX0_copyFrom cX0_copyFrom 2 none, Cond.fieldLink RX0 9 "BridgeBells$Bridge" "minute" "I", Cond.fieldLink RX0 15 "BridgeBells$Bridge" "angle" "I", Cond.fieldLink RX0 18 "BridgeBells$Bridge" "counterpoise" "I", Cond.fieldLink RX0 21 "BridgeBells$Bridge" "ice" "I"]
def wsX2_bestPoise_r2 : List Cond := [Cond.fieldLink RX0 24 "BridgeBells$Bridge" "code" "I", Cond.fieldLink RX0 27 "BridgeBells$Bridge" "waitedInAll" "I", Cond.fieldLink RX0 30 "BridgeBells$Bridge" "cold" "[I", Cond.methodLink RX0 51 arraycopyName, Cond.native arraycopyName, Cond.static arraycopyName, Cond.initialized "java/lang/System", Cond.fieldLink RX0 37 "BridgeBells$Bridge" "travellers" "LBridgeBells$Travellers;", Cond.fieldLink RX0 41 "BridgeBells$Bridge" "passing" "I", Cond.fieldLink RX0 44 "BridgeBells$Bridge" "toGo" "I", Cond.fieldLink RX0 47 "BridgeBells$Bridge" "latestWasBarge" "Z", Cond.methodLink RX0 57 yX1_copyFrom, Cond.instanceMethod yX1_copyFrom, Cond.selects RX1 yX1_copyFrom yX1_copyFrom, Cond.initialized RX1, Cond.code yX1_copyFrom cX1_copyFrom 2 none, Cond.fieldLink RX1 9 "BridgeBells$Travellers" "number" "I", Cond.fieldLink RX1 15 "BridgeBells$Travellers" "passed" "I", Cond.fieldLink RX1 18 "BridgeBells$Travellers" "bargesWaiting" "I", Cond.fieldLink RX1 21 "BridgeBells$Travellers" "cartsWaiting" "I", Cond.fieldLink RX1 24 "BridgeBells$Travellers" "barge" "[I", Cond.methodLink RX1 49 arraycopyName, Cond.fieldLink RX1 28 "BridgeBells$Travellers" "needs" "[I", Cond.fieldLink RX1 31 "BridgeBells$Travellers" "state" "[I"]
def wsX2_bestPoise_r3 : List Cond := [Cond.fieldLink RX1 34 "BridgeBells$Travellers" "came" "[I", Cond.fieldLink RX1 37 "BridgeBells$Travellers" "passedIn" "[I", Cond.fieldLink RX1 40 "BridgeBells$Travellers" "waitEnd" "[I", Cond.fieldLink RX1 43 "BridgeBells$Travellers" "firstBarge" "I", Cond.fieldLink RX1 46 "BridgeBells$Travellers" "firstCart" "I", Cond.methodLink RX2 124 yX0_goOn, Cond.instanceMethod yX0_goOn, Cond.selects RX0 yX0_goOn yX0_goOn, Cond.code yX0_goOn cX0_goOn 3 none, Cond.methodLink RX0 61 yX0_goOneMinute, Cond.instanceMethod yX0_goOneMinute, Cond.selects RX0 yX0_goOneMinute yX0_goOneMinute, Cond.code yX0_goOneMinute cX0_goOneMinute 1 none, Cond.fieldLink RX0 75 "BridgeBells$Travellers" "bargesWaiting" "I", Cond.fieldLink RX0 78 "BridgeBells$Travellers" "cartsWaiting" "I", Cond.methodLink RX0 64 yX0_servedNext, Cond.instanceMethod yX0_servedNext, Cond.selects RX0 yX0_servedNext yX0_servedNext, Cond.code yX0_servedNext cX0_servedNext 1 (some .int), Cond.methodLink RX0 90 yX1_firstOfAll, Cond.instanceMethod yX1_firstOfAll, Cond.selects RX1 yX1_firstOfAll yX1_firstOfAll, Cond.code yX1_firstOfAll cX1_firstOfAll 1 (some .int), Cond.methodLink RX1 58 Lib.Math.min.name]
def wsX2_bestPoise_r4 : List Cond := [Cond.static Lib.Math.min.name, Cond.initialized "java/lang/Math", Cond.code Lib.Math.min.name Lib.Math.min.code 2 (some .int), Cond.methodLink RX0 93 yX1_firstBargeElseCart, Cond.instanceMethod yX1_firstBargeElseCart, Cond.selects RX1 yX1_firstBargeElseCart yX1_firstBargeElseCart, Cond.code yX1_firstBargeElseCart cX1_firstBargeElseCart 1 (some .int), Cond.methodLink RX0 96 yX1_firstCartElseBarge, Cond.instanceMethod yX1_firstCartElseBarge, Cond.selects RX1 yX1_firstCartElseBarge yX1_firstCartElseBarge, Cond.code yX1_firstCartElseBarge cX1_firstCartElseBarge 1 (some .int), Cond.methodLink RX0 68 yX0_serve, Cond.instanceMethod yX0_serve, Cond.selects RX0 yX0_serve yX0_serve, Cond.code yX0_serve cX0_serve 3 none, Cond.fieldLink RX0 103 "BridgeBells$Travellers" "barge" "[I", Cond.fieldLink RX0 106 "BridgeBells$Travellers" "needs" "[I", Cond.methodLink RX0 117 Lib.Math.min.name, Cond.methodLink RX0 84 Lib.Math.max.name, Cond.static Lib.Math.max.name, Cond.code Lib.Math.max.name Lib.Math.max.code 2 (some .int), Cond.methodLink RX0 99 yX1_has, Cond.instanceMethod yX1_has, Cond.selects RX1 yX1_has yX1_has]
def wsX2_bestPoise_r5 : List Cond := [Cond.code yX1_has cX1_has 2 (some .boolean), Cond.methodLink RX0 109 yX1_endWait, Cond.instanceMethod yX1_endWait, Cond.selects RX1 yX1_endWait yX1_endWait, Cond.code yX1_endWait cX1_endWait 4 none, Cond.methodLink RX1 55 yX1_seeWhoWaits, Cond.instanceMethod yX1_seeWhoWaits, Cond.selects RX1 yX1_seeWhoWaits yX1_seeWhoWaits, Cond.code yX1_seeWhoWaits cX1_seeWhoWaits 2 none, Cond.methodLink RX0 113 yX0_speedTowards, Cond.instanceMethod yX0_speedTowards, Cond.selects RX0 yX0_speedTowards yX0_speedTowards, Cond.code yX0_speedTowards cX0_speedTowards 4 (some .int), Cond.methodLink RX0 72 yX0_goOnPassing, Cond.instanceMethod yX0_goOnPassing, Cond.selects RX0 yX0_goOnPassing yX0_goOnPassing, Cond.code yX0_goOnPassing cX0_goOnPassing 1 none, Cond.methodLink RX0 120 yX1_endPassage, Cond.instanceMethod yX1_endPassage, Cond.selects RX1 yX1_endPassage yX1_endPassage, Cond.code yX1_endPassage cX1_endPassage 3 none, Cond.methodLink RX0 81 yX0_freeze, Cond.instanceMethod yX0_freeze, Cond.selects RX0 yX0_freeze yX0_freeze]
def wsX2_bestPoise_r6 : List Cond := [Cond.code yX0_freeze cX0_freeze 2 none, Cond.methodLink RX0 124 yJ9_floorMod_7cf53, Cond.static yJ9_floorMod_7cf53, Cond.initialized RJ9, Cond.code yJ9_floorMod_7cf53 cJ9_floorMod_7cf53 3 (some .int)]
def wsX2_bestPoise : List Cond := .code yX2_bestPoise cX2_bestPoise 6 (some .int) :: ((wsX2_bestPoise_r1 ++ (wsX2_bestPoise_r2 ++ (wsX2_bestPoise_r3 ++ (wsX2_bestPoise_r4 ++ (wsX2_bestPoise_r5 ++ wsX2_bestPoise_r6))))) ++ wsX20 ++ wsX00 ++ wsX10 ++ (vx_atS RX2 23 "java/lang/IllegalArgumentException" ["java/lang/RuntimeException", "java/lang/Exception"]).filter goodWord)
def wsX2_mean : List Cond := .code yX2_mean cX2_mean 2 (some .double) :: ([.fieldLink RX2 10 "BridgeBells" "bridge" "LBridgeBells$Bridge;", .fieldLink RX2 26 "BridgeBells$Bridge" "travellers" "LBridgeBells$Travellers;", .fieldLink RX2 30 "BridgeBells$Travellers" "number" "I", .fieldLink RX2 137 "BridgeBells$Bridge" "waitedInAll" "I"] ++ wsX20 ++ wsX00 ++ wsX10)
def wsX2_digest_r1 : List Cond := [Cond.constantLong RX2 144 (1021), Cond.constantLong RX2 146 (31), Cond.fieldLink RX2 10 "BridgeBells" "bridge" "LBridgeBells$Bridge;", Cond.fieldLink RX2 90 "BridgeBells$Bridge" "cold" "[I", Cond.fieldLink RX2 26 "BridgeBells$Bridge" "travellers" "LBridgeBells$Travellers;", Cond.fieldLink RX2 30 "BridgeBells$Travellers" "number" "I", Cond.methodLink RX2 108 yX0_total, Cond.instanceMethod yX0_total, Cond.selects RX0 yX0_total yX0_total, Cond.initialized RX0, Cond.code yX0_total cX0_total 2 (some .int), Cond.fieldLink RX0 9 "BridgeBells$Bridge" "minute" "I", Cond.fieldLink RX0 15 "BridgeBells$Bridge" "angle" "I", Cond.fieldLink RX0 18 "BridgeBells$Bridge" "counterpoise" "I", Cond.fieldLink RX0 21 "BridgeBells$Bridge" "ice" "I", Cond.fieldLink RX0 24 "BridgeBells$Bridge" "code" "I", Cond.fieldLink RX0 37 "BridgeBells$Bridge" "travellers" "LBridgeBells$Travellers;", Cond.fieldLink RX0 127 "BridgeBells$Travellers" "number" "I", Cond.fieldLink RX0 75 "BridgeBells$Travellers" "bargesWaiting" "I", Cond.fieldLink RX0 78 "BridgeBells$Travellers" "cartsWaiting" "I", Cond.fieldLink RX0 130 "BridgeBells$Travellers" "passed" "I", Cond.fieldLink RX0 27 "BridgeBells$Bridge" "waitedInAll" "I", Cond.fieldLink RX0 41 "BridgeBells$Bridge" "passing" "I", Cond.methodLink RX0 64 yX0_servedNext]
def wsX2_digest_r2 : List Cond := [Cond.instanceMethod yX0_servedNext, Cond.selects RX0 yX0_servedNext yX0_servedNext, Cond.code yX0_servedNext cX0_servedNext 1 (some .int), Cond.fieldLink RX0 47 "BridgeBells$Bridge" "latestWasBarge" "Z", Cond.methodLink RX0 90 yX1_firstOfAll, Cond.instanceMethod yX1_firstOfAll, Cond.selects RX1 yX1_firstOfAll yX1_firstOfAll, Cond.initialized RX1, Cond.code yX1_firstOfAll cX1_firstOfAll 1 (some .int), Cond.fieldLink RX1 43 "BridgeBells$Travellers" "firstBarge" "I", Cond.fieldLink RX1 46 "BridgeBells$Travellers" "firstCart" "I", Cond.methodLink RX1 58 Lib.Math.min.name, Cond.static Lib.Math.min.name, Cond.initialized "java/lang/Math", Cond.code Lib.Math.min.name Lib.Math.min.code 2 (some .int), Cond.methodLink RX0 93 yX1_firstBargeElseCart, Cond.instanceMethod yX1_firstBargeElseCart, Cond.selects RX1 yX1_firstBargeElseCart yX1_firstBargeElseCart, Cond.code yX1_firstBargeElseCart cX1_firstBargeElseCart 1 (some .int), Cond.methodLink RX0 96 yX1_firstCartElseBarge, Cond.instanceMethod yX1_firstCartElseBarge, Cond.selects RX1 yX1_firstCartElseBarge yX1_firstCartElseBarge, Cond.code yX1_firstCartElseBarge cX1_firstCartElseBarge 1 (some .int), Cond.methodLink RX2 103 yX0_factOf]
def wsX2_digest_r3 : List Cond := [Cond.instanceMethod yX0_factOf, Cond.selects RX0 yX0_factOf yX0_factOf, Cond.code yX0_factOf cX0_factOf 3 (some .int), Cond.fieldLink RX0 103 "BridgeBells$Travellers" "barge" "[I", Cond.fieldLink RX0 106 "BridgeBells$Travellers" "needs" "[I", Cond.fieldLink RX0 133 "BridgeBells$Travellers" "state" "[I", Cond.fieldLink RX0 136 "BridgeBells$Travellers" "came" "[I", Cond.fieldLink RX0 44 "BridgeBells$Bridge" "toGo" "I", Cond.fieldLink RX0 142 "BridgeBells$Travellers" "passedIn" "[I", Cond.methodLink RX0 139 yX1_waited, Cond.instanceMethod yX1_waited, Cond.selects RX1 yX1_waited yX1_waited, Cond.code yX1_waited cX1_waited 4 (some .int), Cond.fieldLink RX1 31 "BridgeBells$Travellers" "state" "[I", Cond.fieldLink RX1 40 "BridgeBells$Travellers" "waitEnd" "[I", Cond.fieldLink RX1 34 "BridgeBells$Travellers" "came" "[I"]
def wsX2_digest : List Cond := .code yX2_digest cX2_digest 5 (some .long) :: ((wsX2_digest_r1 ++ (wsX2_digest_r2 ++ wsX2_digest_r3)) ++ wsX20 ++ wsX00 ++ wsX10)
def wsJ9_max_7cf53 : List Cond := .code yJ9_max_7cf53 cJ9_max_7cf53 2 (some .int) :: ([])
def wsJ9_min_7cf53 : List Cond := .code yJ9_min_7cf53 cJ9_min_7cf53 2 (some .int) :: ([])
def wsL_below : List Cond := .code yL_below cL_below 2 (some .int) :: ([.constant RL 7 (2147483647)])
def wsL_cell : List Cond := .code yL_cell cL_cell 2 (some .int) :: ([.constant RL 8 (790386105)])
def wsL_leave_r1 : List Cond := [Cond.classLink RL 49 "java/lang/IllegalStateException", Cond.methodLink RL 47 yX2_leave, Cond.instanceMethod yX2_leave, Cond.selects RX2 yX2_leave yX2_leave, Cond.initialized RX2, Cond.code yX2_leave cX2_leave 2 (some .int), Cond.classLink RX2 52 "java/lang/IndexOutOfBoundsException", Cond.initialized "java/lang/IndexOutOfBoundsException", Cond.classLink RX2 36 "java/lang/IllegalStateException", Cond.initialized "java/lang/IllegalStateException", Cond.fieldLink RX2 10 "BridgeBells" "bridge" "LBridgeBells$Bridge;", Cond.fieldLink RX2 26 "BridgeBells$Bridge" "travellers" "LBridgeBells$Travellers;", Cond.fieldLink RX2 57 "BridgeBells$Travellers" "state" "[I", Cond.fieldLink RX2 41 "BridgeBells$Bridge" "minute" "I", Cond.methodLink RX2 48 yX1_has, Cond.instanceMethod yX1_has, Cond.selects RX1 yX1_has yX1_has, Cond.initialized RX1, Cond.code yX1_has cX1_has 2 (some .boolean), Cond.fieldLink RX1 9 "BridgeBells$Travellers" "number" "I", Cond.methodLink RX2 63 yX1_endWait, Cond.instanceMethod yX1_endWait, Cond.selects RX1 yX1_endWait yX1_endWait, Cond.code yX1_endWait cX1_endWait 4 none]
def wsL_leave_r2 : List Cond := [Cond.fieldLink RX1 31 "BridgeBells$Travellers" "state" "[I", Cond.fieldLink RX1 40 "BridgeBells$Travellers" "waitEnd" "[I", Cond.methodLink RX1 55 yX1_seeWhoWaits, Cond.instanceMethod yX1_seeWhoWaits, Cond.selects RX1 yX1_seeWhoWaits yX1_seeWhoWaits, Cond.code yX1_seeWhoWaits cX1_seeWhoWaits 2 none, Cond.fieldLink RX1 18 "BridgeBells$Travellers" "bargesWaiting" "I", Cond.fieldLink RX1 21 "BridgeBells$Travellers" "cartsWaiting" "I", Cond.fieldLink RX1 43 "BridgeBells$Travellers" "firstBarge" "I", Cond.fieldLink RX1 46 "BridgeBells$Travellers" "firstCart" "I", Cond.fieldLink RX1 24 "BridgeBells$Travellers" "barge" "[I", Cond.methodLink RX2 67 yX1_waited, Cond.instanceMethod yX1_waited, Cond.selects RX1 yX1_waited yX1_waited, Cond.code yX1_waited cX1_waited 4 (some .int), Cond.fieldLink RX1 34 "BridgeBells$Travellers" "came" "[I"]
def wsL_leave : List Cond := .codeWith yL_leave cL_leave 3 (some .int) [(0, 5, 6, 49)] :: ((wsL_leave_r1 ++ wsL_leave_r2) ++ wsX20 ++ wsX00 ++ wsX10 ++ (vx_atS RX2 56 "java/lang/IndexOutOfBoundsException" ["java/lang/RuntimeException", "java/lang/Exception"]).filter goodWord ++ (vx_atS RX2 40 "java/lang/IllegalStateException" ["java/lang/RuntimeException", "java/lang/Exception"]).filter goodWord)
def wsL_bridge_r1 : List Cond := [Cond.classLink RL 9 RX2, Cond.instantiable RX2 2, Cond.initialized RX2, Cond.methodLink RL 11 yX2_init, Cond.instanceMethod yX2_init, Cond.code yX2_init cX2_init 1 none, Cond.methodLink RX2 1 objectInit, Cond.instanceMethod objectInit, Cond.code objectInit ⟨#[0xb1]⟩ 1 none, Cond.classLink RX2 7 RX0, Cond.instantiable RX0 11, Cond.initialized RX0, Cond.fieldLink RX2 10 "BridgeBells" "bridge" "LBridgeBells$Bridge;", Cond.fieldLink RX2 16 "BridgeBells" "trial" "LBridgeBells$Bridge;", Cond.instanceMethod yX0_init, Cond.code yX0_init cX0_init 1 none, Cond.methodLink RX0 3 objectInit, Cond.fieldLink RX0 9 "BridgeBells$Bridge" "minute" "I", Cond.fieldLink RX0 15 "BridgeBells$Bridge" "angle" "I", Cond.fieldLink RX0 18 "BridgeBells$Bridge" "counterpoise" "I", Cond.fieldLink RX0 21 "BridgeBells$Bridge" "ice" "I", Cond.fieldLink RX0 24 "BridgeBells$Bridge" "code" "I", Cond.fieldLink RX0 27 "BridgeBells$Bridge" "waitedInAll" "I", Cond.arrayClass .int]
def wsL_bridge_r2 : List Cond := [Cond.fieldLink RX0 30 "BridgeBells$Bridge" "cold" "[I", Cond.classLink RX0 34 RX1, Cond.instantiable RX1 12, Cond.initialized RX1, Cond.fieldLink RX0 37 "BridgeBells$Bridge" "travellers" "LBridgeBells$Travellers;", Cond.fieldLink RX0 41 "BridgeBells$Bridge" "passing" "I", Cond.fieldLink RX0 44 "BridgeBells$Bridge" "toGo" "I", Cond.fieldLink RX0 47 "BridgeBells$Bridge" "latestWasBarge" "Z", Cond.instanceMethod yX1_init, Cond.code yX1_init cX1_init 1 none, Cond.methodLink RX1 3 objectInit, Cond.fieldLink RX1 9 "BridgeBells$Travellers" "number" "I", Cond.fieldLink RX1 15 "BridgeBells$Travellers" "passed" "I", Cond.fieldLink RX1 18 "BridgeBells$Travellers" "bargesWaiting" "I", Cond.fieldLink RX1 21 "BridgeBells$Travellers" "cartsWaiting" "I", Cond.fieldLink RX1 24 "BridgeBells$Travellers" "barge" "[I", Cond.fieldLink RX1 28 "BridgeBells$Travellers" "needs" "[I", Cond.fieldLink RX1 31 "BridgeBells$Travellers" "state" "[I", Cond.fieldLink RX1 34 "BridgeBells$Travellers" "came" "[I", Cond.fieldLink RX1 37 "BridgeBells$Travellers" "passedIn" "[I", Cond.fieldLink RX1 40 "BridgeBells$Travellers" "waitEnd" "[I", Cond.fieldLink RX1 43 "BridgeBells$Travellers" "firstBarge" "I", Cond.fieldLink RX1 46 "BridgeBells$Travellers" "firstCart" "I", Cond.methodLink RL 12 yL_cell]
def wsL_bridge_r3 : List Cond := [Cond.static yL_cell, Cond.initialized RL, Cond.code yL_cell cL_cell 2 (some .int), Cond.constant RL 8 (790386105), Cond.methodLink RL 18 yL_below, Cond.static yL_below, Cond.code yL_below cL_below 2 (some .int), Cond.constant RL 7 (2147483647), Cond.methodLink RL 22 yX2_setCold, Cond.instanceMethod yX2_setCold, Cond.selects RX2 yX2_setCold yX2_setCold, Cond.code yX2_setCold cX2_setCold 4 (some .int), Cond.classLink RX2 52 "java/lang/IndexOutOfBoundsException", Cond.initialized "java/lang/IndexOutOfBoundsException", Cond.classLink RX2 19 "java/lang/IllegalArgumentException", Cond.initialized "java/lang/IllegalArgumentException", Cond.fieldLink RX2 90 "BridgeBells$Bridge" "cold" "[I", Cond.methodLink RL 25 yX2_poise, Cond.instanceMethod yX2_poise, Cond.selects RX2 yX2_poise yX2_poise, Cond.code yX2_poise cX2_poise 3 (some .int), Cond.classLink RX2 36 "java/lang/IllegalStateException", Cond.initialized "java/lang/IllegalStateException", Cond.fieldLink RX2 78 "BridgeBells$Bridge" "angle" "I"]
def wsL_bridge_r4 : List Cond := [Cond.fieldLink RX2 83 "BridgeBells$Bridge" "counterpoise" "I", Cond.methodLink RL 29 yX2_ring, Cond.instanceMethod yX2_ring, Cond.selects RX2 yX2_ring yX2_ring, Cond.code yX2_ring cX2_ring 3 (some .int), Cond.fieldLink RX2 73 "BridgeBells$Bridge" "code" "I", Cond.methodLink RL 32 yX2_come, Cond.instanceMethod yX2_come, Cond.selects RX2 yX2_come yX2_come, Cond.code yX2_come cX2_come 3 (some .int), Cond.fieldLink RX2 26 "BridgeBells$Bridge" "travellers" "LBridgeBells$Travellers;", Cond.fieldLink RX2 30 "BridgeBells$Travellers" "number" "I", Cond.fieldLink RX2 41 "BridgeBells$Bridge" "minute" "I", Cond.methodLink RX2 44 yX1_add, Cond.instanceMethod yX1_add, Cond.selects RX1 yX1_add yX1_add, Cond.code yX1_add cX1_add 5 (some .int), Cond.methodLink RX1 55 yX1_seeWhoWaits, Cond.instanceMethod yX1_seeWhoWaits, Cond.selects RX1 yX1_seeWhoWaits yX1_seeWhoWaits, Cond.code yX1_seeWhoWaits cX1_seeWhoWaits 2 none, Cond.methodLink RL 36 yX2_pass, Cond.instanceMethod yX2_pass, Cond.selects RX2 yX2_pass yX2_pass]
def wsL_bridge_r5 : List Cond := [Cond.code yX2_pass cX2_pass 3 (some .int), Cond.fieldLink RX2 121 "BridgeBells$Travellers" "passed" "I", Cond.methodLink RX2 116 yX2_isSpan, Cond.static yX2_isSpan, Cond.code yX2_isSpan cX2_isSpan 1 (some .boolean), Cond.methodLink RX2 124 yX0_goOn, Cond.instanceMethod yX0_goOn, Cond.selects RX0 yX0_goOn yX0_goOn, Cond.code yX0_goOn cX0_goOn 3 none, Cond.methodLink RX0 61 yX0_goOneMinute, Cond.instanceMethod yX0_goOneMinute, Cond.selects RX0 yX0_goOneMinute yX0_goOneMinute, Cond.code yX0_goOneMinute cX0_goOneMinute 1 none, Cond.fieldLink RX0 75 "BridgeBells$Travellers" "bargesWaiting" "I", Cond.fieldLink RX0 78 "BridgeBells$Travellers" "cartsWaiting" "I", Cond.methodLink RX0 64 yX0_servedNext, Cond.instanceMethod yX0_servedNext, Cond.selects RX0 yX0_servedNext yX0_servedNext, Cond.code yX0_servedNext cX0_servedNext 1 (some .int), Cond.methodLink RX0 90 yX1_firstOfAll, Cond.instanceMethod yX1_firstOfAll, Cond.selects RX1 yX1_firstOfAll yX1_firstOfAll, Cond.code yX1_firstOfAll cX1_firstOfAll 1 (some .int), Cond.methodLink RX1 58 Lib.Math.min.name]
def wsL_bridge_r6 : List Cond := [Cond.static Lib.Math.min.name, Cond.initialized "java/lang/Math", Cond.code Lib.Math.min.name Lib.Math.min.code 2 (some .int), Cond.methodLink RX0 93 yX1_firstBargeElseCart, Cond.instanceMethod yX1_firstBargeElseCart, Cond.selects RX1 yX1_firstBargeElseCart yX1_firstBargeElseCart, Cond.code yX1_firstBargeElseCart cX1_firstBargeElseCart 1 (some .int), Cond.methodLink RX0 96 yX1_firstCartElseBarge, Cond.instanceMethod yX1_firstCartElseBarge, Cond.selects RX1 yX1_firstCartElseBarge yX1_firstCartElseBarge, Cond.code yX1_firstCartElseBarge cX1_firstCartElseBarge 1 (some .int), Cond.methodLink RX0 68 yX0_serve, Cond.instanceMethod yX0_serve, Cond.selects RX0 yX0_serve yX0_serve, Cond.code yX0_serve cX0_serve 3 none, Cond.fieldLink RX0 103 "BridgeBells$Travellers" "barge" "[I", Cond.fieldLink RX0 106 "BridgeBells$Travellers" "needs" "[I", Cond.methodLink RX0 117 Lib.Math.min.name, Cond.methodLink RX0 84 Lib.Math.max.name, Cond.static Lib.Math.max.name, Cond.code Lib.Math.max.name Lib.Math.max.code 2 (some .int), Cond.methodLink RX0 99 yX1_has, Cond.instanceMethod yX1_has, Cond.selects RX1 yX1_has yX1_has]
def wsL_bridge_r7 : List Cond := [Cond.code yX1_has cX1_has 2 (some .boolean), Cond.methodLink RX0 109 yX1_endWait, Cond.instanceMethod yX1_endWait, Cond.selects RX1 yX1_endWait yX1_endWait, Cond.code yX1_endWait cX1_endWait 4 none, Cond.methodLink RX0 113 yX0_speedTowards, Cond.instanceMethod yX0_speedTowards, Cond.selects RX0 yX0_speedTowards yX0_speedTowards, Cond.code yX0_speedTowards cX0_speedTowards 4 (some .int), Cond.methodLink RX0 72 yX0_goOnPassing, Cond.instanceMethod yX0_goOnPassing, Cond.selects RX0 yX0_goOnPassing yX0_goOnPassing, Cond.code yX0_goOnPassing cX0_goOnPassing 1 none, Cond.methodLink RX0 120 yX1_endPassage, Cond.instanceMethod yX1_endPassage, Cond.selects RX1 yX1_endPassage yX1_endPassage, Cond.code yX1_endPassage cX1_endPassage 3 none, Cond.methodLink RX0 81 yX0_freeze, Cond.instanceMethod yX0_freeze, Cond.selects RX0 yX0_freeze yX0_freeze, Cond.code yX0_freeze cX0_freeze 2 none, Cond.methodLink RX0 124 yJ9_floorMod_7cf53, Cond.static yJ9_floorMod_7cf53, Cond.initialized RJ9]
def wsL_bridge_r8 : List Cond := [Cond.code yJ9_floorMod_7cf53 cJ9_floorMod_7cf53 3 (some .int), Cond.methodLink RL 39 yL_leave, Cond.static yL_leave, Cond.codeWith yL_leave cL_leave 3 (some .int) [(0, 5, 6, 49)], Cond.classLink RL 49 "java/lang/IllegalStateException", Cond.methodLink RL 47 yX2_leave, Cond.instanceMethod yX2_leave, Cond.selects RX2 yX2_leave yX2_leave, Cond.code yX2_leave cX2_leave 2 (some .int), Cond.fieldLink RX2 57 "BridgeBells$Travellers" "state" "[I", Cond.methodLink RX2 48 yX1_has, Cond.methodLink RX2 63 yX1_endWait, Cond.methodLink RX2 67 yX1_waited, Cond.instanceMethod yX1_waited, Cond.selects RX1 yX1_waited yX1_waited, Cond.code yX1_waited cX1_waited 4 (some .int), Cond.methodLink RL 43 yX2_crack, Cond.instanceMethod yX2_crack, Cond.selects RX2 yX2_crack yX2_crack, Cond.code yX2_crack cX2_crack 1 (some .int), Cond.fieldLink RX2 93 "BridgeBells$Bridge" "ice" "I", Cond.methodLink RX2 96 Lib.Math.max.name]
def wsL_bridge : List Cond := .code yL_bridge cL_bridge 5 (some (.object "BridgeBells")) :: ((wsL_bridge_r1 ++ (wsL_bridge_r2 ++ (wsL_bridge_r3 ++ (wsL_bridge_r4 ++ (wsL_bridge_r5 ++ (wsL_bridge_r6 ++ (wsL_bridge_r7 ++ wsL_bridge_r8))))))) ++ wsX20 ++ wsX00 ++ wsX10 ++ (vx_atS RX2 56 "java/lang/IndexOutOfBoundsException" ["java/lang/RuntimeException", "java/lang/Exception"]).filter goodWord ++ (vx_atS RX2 23 "java/lang/IllegalArgumentException" ["java/lang/RuntimeException", "java/lang/Exception"]).filter goodWord ++ (vx_atS RX2 40 "java/lang/IllegalStateException" ["java/lang/RuntimeException", "java/lang/Exception"]).filter goodWord)
def wsL_poise : List Cond := .codeWith yL_poise cL_poise 3 (some .int) [(0, 5, 6, 49)] :: ([.classLink RL 49 "java/lang/IllegalStateException", .methodLink RL 25 yX2_poise, .instanceMethod yX2_poise, .selects RX2 yX2_poise yX2_poise, .initialized RX2, .code yX2_poise cX2_poise 3 (some .int), .classLink RX2 19 "java/lang/IllegalArgumentException", .initialized "java/lang/IllegalArgumentException", .classLink RX2 36 "java/lang/IllegalStateException", .initialized "java/lang/IllegalStateException", .fieldLink RX2 10 "BridgeBells" "bridge" "LBridgeBells$Bridge;", .fieldLink RX2 78 "BridgeBells$Bridge" "angle" "I", .fieldLink RX2 83 "BridgeBells$Bridge" "counterpoise" "I"] ++ wsX20 ++ wsX00 ++ (vx_atS RX2 23 "java/lang/IllegalArgumentException" ["java/lang/RuntimeException", "java/lang/Exception"]).filter goodWord ++ (vx_atS RX2 40 "java/lang/IllegalStateException" ["java/lang/RuntimeException", "java/lang/Exception"]).filter goodWord)
def wsL_law0_r1 : List Cond := [Cond.arrayClass .int, Cond.classLink RL 63 "[[I", Cond.methodLink RL 85 Lib.Math.min.name, Cond.static Lib.Math.min.name, Cond.initialized "java/lang/Math", Cond.code Lib.Math.min.name Lib.Math.min.code 2 (some .int), Cond.methodLink RL 90 Lib.Math.max.name, Cond.static Lib.Math.max.name, Cond.code Lib.Math.max.name Lib.Math.max.code 2 (some .int), Cond.methodLink RL 51 yL_bridge, Cond.static yL_bridge, Cond.initialized RL, Cond.code yL_bridge cL_bridge 5 (some (.object "BridgeBells")), Cond.classLink RL 9 RX2, Cond.instantiable RX2 2, Cond.initialized RX2, Cond.methodLink RL 11 yX2_init, Cond.instanceMethod yX2_init, Cond.code yX2_init cX2_init 1 none, Cond.methodLink RX2 1 objectInit, Cond.instanceMethod objectInit, Cond.code objectInit ⟨#[0xb1]⟩ 1 none, Cond.classLink RX2 7 RX0, Cond.instantiable RX0 11]
def wsL_law0_r2 : List Cond := [Cond.initialized RX0, Cond.fieldLink RX2 10 "BridgeBells" "bridge" "LBridgeBells$Bridge;", Cond.fieldLink RX2 16 "BridgeBells" "trial" "LBridgeBells$Bridge;", Cond.instanceMethod yX0_init, Cond.code yX0_init cX0_init 1 none, Cond.methodLink RX0 3 objectInit, Cond.fieldLink RX0 9 "BridgeBells$Bridge" "minute" "I", Cond.fieldLink RX0 15 "BridgeBells$Bridge" "angle" "I", Cond.fieldLink RX0 18 "BridgeBells$Bridge" "counterpoise" "I", Cond.fieldLink RX0 21 "BridgeBells$Bridge" "ice" "I", Cond.fieldLink RX0 24 "BridgeBells$Bridge" "code" "I", Cond.fieldLink RX0 27 "BridgeBells$Bridge" "waitedInAll" "I", Cond.fieldLink RX0 30 "BridgeBells$Bridge" "cold" "[I", Cond.classLink RX0 34 RX1, Cond.instantiable RX1 12, Cond.initialized RX1, Cond.fieldLink RX0 37 "BridgeBells$Bridge" "travellers" "LBridgeBells$Travellers;", Cond.fieldLink RX0 41 "BridgeBells$Bridge" "passing" "I", Cond.fieldLink RX0 44 "BridgeBells$Bridge" "toGo" "I", Cond.fieldLink RX0 47 "BridgeBells$Bridge" "latestWasBarge" "Z", Cond.instanceMethod yX1_init, Cond.code yX1_init cX1_init 1 none, Cond.methodLink RX1 3 objectInit, Cond.fieldLink RX1 9 "BridgeBells$Travellers" "number" "I"]
def wsL_law0_r3 : List Cond := [Cond.fieldLink RX1 15 "BridgeBells$Travellers" "passed" "I", Cond.fieldLink RX1 18 "BridgeBells$Travellers" "bargesWaiting" "I", Cond.fieldLink RX1 21 "BridgeBells$Travellers" "cartsWaiting" "I", Cond.fieldLink RX1 24 "BridgeBells$Travellers" "barge" "[I", Cond.fieldLink RX1 28 "BridgeBells$Travellers" "needs" "[I", Cond.fieldLink RX1 31 "BridgeBells$Travellers" "state" "[I", Cond.fieldLink RX1 34 "BridgeBells$Travellers" "came" "[I", Cond.fieldLink RX1 37 "BridgeBells$Travellers" "passedIn" "[I", Cond.fieldLink RX1 40 "BridgeBells$Travellers" "waitEnd" "[I", Cond.fieldLink RX1 43 "BridgeBells$Travellers" "firstBarge" "I", Cond.fieldLink RX1 46 "BridgeBells$Travellers" "firstCart" "I", Cond.methodLink RL 12 yL_cell, Cond.static yL_cell, Cond.code yL_cell cL_cell 2 (some .int), Cond.constant RL 8 (790386105), Cond.methodLink RL 18 yL_below, Cond.static yL_below, Cond.code yL_below cL_below 2 (some .int), Cond.constant RL 7 (2147483647), Cond.methodLink RL 22 yX2_setCold, Cond.instanceMethod yX2_setCold, Cond.selects RX2 yX2_setCold yX2_setCold, Cond.code yX2_setCold cX2_setCold 4 (some .int), Cond.classLink RX2 52 "java/lang/IndexOutOfBoundsException"]
def wsL_law0_r4 : List Cond := [Cond.initialized "java/lang/IndexOutOfBoundsException", Cond.classLink RX2 19 "java/lang/IllegalArgumentException", Cond.initialized "java/lang/IllegalArgumentException", Cond.fieldLink RX2 90 "BridgeBells$Bridge" "cold" "[I", Cond.methodLink RL 25 yX2_poise, Cond.instanceMethod yX2_poise, Cond.selects RX2 yX2_poise yX2_poise, Cond.code yX2_poise cX2_poise 3 (some .int), Cond.classLink RX2 36 "java/lang/IllegalStateException", Cond.initialized "java/lang/IllegalStateException", Cond.fieldLink RX2 78 "BridgeBells$Bridge" "angle" "I", Cond.fieldLink RX2 83 "BridgeBells$Bridge" "counterpoise" "I", Cond.methodLink RL 29 yX2_ring, Cond.instanceMethod yX2_ring, Cond.selects RX2 yX2_ring yX2_ring, Cond.code yX2_ring cX2_ring 3 (some .int), Cond.fieldLink RX2 73 "BridgeBells$Bridge" "code" "I", Cond.methodLink RL 32 yX2_come, Cond.instanceMethod yX2_come, Cond.selects RX2 yX2_come yX2_come, Cond.code yX2_come cX2_come 3 (some .int), Cond.fieldLink RX2 26 "BridgeBells$Bridge" "travellers" "LBridgeBells$Travellers;", Cond.fieldLink RX2 30 "BridgeBells$Travellers" "number" "I", Cond.fieldLink RX2 41 "BridgeBells$Bridge" "minute" "I"]
def wsL_law0_r5 : List Cond := [Cond.methodLink RX2 44 yX1_add, Cond.instanceMethod yX1_add, Cond.selects RX1 yX1_add yX1_add, Cond.code yX1_add cX1_add 5 (some .int), Cond.methodLink RX1 55 yX1_seeWhoWaits, Cond.instanceMethod yX1_seeWhoWaits, Cond.selects RX1 yX1_seeWhoWaits yX1_seeWhoWaits, Cond.code yX1_seeWhoWaits cX1_seeWhoWaits 2 none, Cond.methodLink RL 36 yX2_pass, Cond.instanceMethod yX2_pass, Cond.selects RX2 yX2_pass yX2_pass, Cond.code yX2_pass cX2_pass 3 (some .int), Cond.fieldLink RX2 121 "BridgeBells$Travellers" "passed" "I", Cond.methodLink RX2 116 yX2_isSpan, Cond.static yX2_isSpan, Cond.code yX2_isSpan cX2_isSpan 1 (some .boolean), Cond.methodLink RX2 124 yX0_goOn, Cond.instanceMethod yX0_goOn, Cond.selects RX0 yX0_goOn yX0_goOn, Cond.code yX0_goOn cX0_goOn 3 none, Cond.methodLink RX0 61 yX0_goOneMinute, Cond.instanceMethod yX0_goOneMinute, Cond.selects RX0 yX0_goOneMinute yX0_goOneMinute, Cond.code yX0_goOneMinute cX0_goOneMinute 1 none]
def wsL_law0_r6 : List Cond := [Cond.fieldLink RX0 75 "BridgeBells$Travellers" "bargesWaiting" "I", Cond.fieldLink RX0 78 "BridgeBells$Travellers" "cartsWaiting" "I", Cond.methodLink RX0 64 yX0_servedNext, Cond.instanceMethod yX0_servedNext, Cond.selects RX0 yX0_servedNext yX0_servedNext, Cond.code yX0_servedNext cX0_servedNext 1 (some .int), Cond.methodLink RX0 90 yX1_firstOfAll, Cond.instanceMethod yX1_firstOfAll, Cond.selects RX1 yX1_firstOfAll yX1_firstOfAll, Cond.code yX1_firstOfAll cX1_firstOfAll 1 (some .int), Cond.methodLink RX1 58 Lib.Math.min.name, Cond.methodLink RX0 93 yX1_firstBargeElseCart, Cond.instanceMethod yX1_firstBargeElseCart, Cond.selects RX1 yX1_firstBargeElseCart yX1_firstBargeElseCart, Cond.code yX1_firstBargeElseCart cX1_firstBargeElseCart 1 (some .int), Cond.methodLink RX0 96 yX1_firstCartElseBarge, Cond.instanceMethod yX1_firstCartElseBarge, Cond.selects RX1 yX1_firstCartElseBarge yX1_firstCartElseBarge, Cond.code yX1_firstCartElseBarge cX1_firstCartElseBarge 1 (some .int), Cond.methodLink RX0 68 yX0_serve, Cond.instanceMethod yX0_serve, Cond.selects RX0 yX0_serve yX0_serve, Cond.code yX0_serve cX0_serve 3 none, Cond.fieldLink RX0 103 "BridgeBells$Travellers" "barge" "[I"]
def wsL_law0_r7 : List Cond := [Cond.fieldLink RX0 106 "BridgeBells$Travellers" "needs" "[I", Cond.methodLink RX0 117 Lib.Math.min.name, Cond.methodLink RX0 84 Lib.Math.max.name, Cond.methodLink RX0 99 yX1_has, Cond.instanceMethod yX1_has, Cond.selects RX1 yX1_has yX1_has, Cond.code yX1_has cX1_has 2 (some .boolean), Cond.methodLink RX0 109 yX1_endWait, Cond.instanceMethod yX1_endWait, Cond.selects RX1 yX1_endWait yX1_endWait, Cond.code yX1_endWait cX1_endWait 4 none, Cond.methodLink RX0 113 yX0_speedTowards, Cond.instanceMethod yX0_speedTowards, Cond.selects RX0 yX0_speedTowards yX0_speedTowards, Cond.code yX0_speedTowards cX0_speedTowards 4 (some .int), Cond.methodLink RX0 72 yX0_goOnPassing, Cond.instanceMethod yX0_goOnPassing, Cond.selects RX0 yX0_goOnPassing yX0_goOnPassing, Cond.code yX0_goOnPassing cX0_goOnPassing 1 none, Cond.methodLink RX0 120 yX1_endPassage, Cond.instanceMethod yX1_endPassage, Cond.selects RX1 yX1_endPassage yX1_endPassage, Cond.code yX1_endPassage cX1_endPassage 3 none, Cond.methodLink RX0 81 yX0_freeze]
def wsL_law0_r8 : List Cond := [Cond.instanceMethod yX0_freeze, Cond.selects RX0 yX0_freeze yX0_freeze, Cond.code yX0_freeze cX0_freeze 2 none, Cond.methodLink RX0 124 yJ9_floorMod_7cf53, Cond.static yJ9_floorMod_7cf53, Cond.initialized RJ9, Cond.code yJ9_floorMod_7cf53 cJ9_floorMod_7cf53 3 (some .int), Cond.methodLink RL 39 yL_leave, Cond.static yL_leave, Cond.codeWith yL_leave cL_leave 3 (some .int) [(0, 5, 6, 49)], Cond.classLink RL 49 "java/lang/IllegalStateException", Cond.methodLink RL 47 yX2_leave, Cond.instanceMethod yX2_leave, Cond.selects RX2 yX2_leave yX2_leave, Cond.code yX2_leave cX2_leave 2 (some .int), Cond.fieldLink RX2 57 "BridgeBells$Travellers" "state" "[I", Cond.methodLink RX2 48 yX1_has, Cond.methodLink RX2 63 yX1_endWait, Cond.methodLink RX2 67 yX1_waited, Cond.instanceMethod yX1_waited, Cond.selects RX1 yX1_waited yX1_waited, Cond.code yX1_waited cX1_waited 4 (some .int), Cond.methodLink RL 43 yX2_crack, Cond.instanceMethod yX2_crack]
def wsL_law0_r9 : List Cond := [Cond.selects RX2 yX2_crack yX2_crack, Cond.code yX2_crack cX2_crack 1 (some .int), Cond.fieldLink RX2 93 "BridgeBells$Bridge" "ice" "I", Cond.methodLink RX2 96 Lib.Math.max.name, Cond.methodLink RL 55 yX2_count, Cond.instanceMethod yX2_count, Cond.selects RX2 yX2_count yX2_count, Cond.code yX2_count cX2_count 2 (some .int), Cond.methodLink RX2 108 yX0_total, Cond.instanceMethod yX0_total, Cond.selects RX0 yX0_total yX0_total, Cond.code yX0_total cX0_total 2 (some .int), Cond.fieldLink RX0 127 "BridgeBells$Travellers" "number" "I", Cond.fieldLink RX0 130 "BridgeBells$Travellers" "passed" "I", Cond.methodLink RL 58 yX2_traveller, Cond.instanceMethod yX2_traveller, Cond.selects RX2 yX2_traveller yX2_traveller, Cond.code yX2_traveller cX2_traveller 3 (some .int), Cond.methodLink RX2 103 yX0_factOf, Cond.instanceMethod yX0_factOf, Cond.selects RX0 yX0_factOf yX0_factOf, Cond.code yX0_factOf cX0_factOf 3 (some .int), Cond.fieldLink RX0 133 "BridgeBells$Travellers" "state" "[I", Cond.fieldLink RX0 136 "BridgeBells$Travellers" "came" "[I"]
def wsL_law0_r10 : List Cond := [Cond.fieldLink RX0 142 "BridgeBells$Travellers" "passedIn" "[I", Cond.methodLink RX0 139 yX1_waited, Cond.methodLink RL 61 yL_poise, Cond.static yL_poise, Cond.codeWith yL_poise cL_poise 3 (some .int) [(0, 5, 6, 49)], Cond.methodLink RL 65 yX2_speed, Cond.instanceMethod yX2_speed, Cond.selects RX2 yX2_speed yX2_speed, Cond.code yX2_speed cX2_speed 2 (some .int), Cond.methodLink RX2 112 yX0_speedTowards, Cond.methodLink RL 69 yX2_digest, Cond.instanceMethod yX2_digest, Cond.selects RX2 yX2_digest yX2_digest, Cond.code yX2_digest cX2_digest 5 (some .long), Cond.constantLong RX2 144 (1021), Cond.constantLong RX2 146 (31), Cond.methodLink RL 73 yX2_foresee, Cond.instanceMethod yX2_foresee, Cond.selects RX2 yX2_foresee yX2_foresee, Cond.code yX2_foresee cX2_foresee 3 (some .int), Cond.fieldLink RX2 137 "BridgeBells$Bridge" "waitedInAll" "I", Cond.methodLink RX2 128 yX0_copyFrom, Cond.instanceMethod yX0_copyFrom, Cond.selects RX0 yX0_copyFrom yX0_copyFrom]
def wsL_law0_r11 : List Cond := [Cond.code yX0_copyFrom cX0_copyFrom 2 none, Cond.methodLink RX0 51 arraycopyName, Cond.native arraycopyName, Cond.static arraycopyName, Cond.initialized "java/lang/System", Cond.methodLink RX0 57 yX1_copyFrom, Cond.instanceMethod yX1_copyFrom, Cond.selects RX1 yX1_copyFrom yX1_copyFrom, Cond.code yX1_copyFrom cX1_copyFrom 2 none, Cond.methodLink RX1 49 arraycopyName, Cond.methodLink RL 76 yX2_when, Cond.instanceMethod yX2_when, Cond.selects RX2 yX2_when yX2_when, Cond.code yX2_when cX2_when 3 (some .int), Cond.methodLink RX2 132 yX0_goOneMinute, Cond.methodLink RL 79 yX2_bestCode, Cond.instanceMethod yX2_bestCode, Cond.selects RX2 yX2_bestCode yX2_bestCode, Cond.code yX2_bestCode cX2_bestCode 6 (some .int), Cond.methodLink RX2 140 yX2_waitWith, Cond.instanceMethod yX2_waitWith, Cond.selects RX2 yX2_waitWith yX2_waitWith, Cond.code yX2_waitWith cX2_waitWith 4 (some .int), Cond.methodLink RL 82 yX2_bestPoise]
def wsL_law0_r12 : List Cond := [Cond.instanceMethod yX2_bestPoise, Cond.selects RX2 yX2_bestPoise yX2_bestPoise, Cond.code yX2_bestPoise cX2_bestPoise 6 (some .int), Cond.methodLink RL 93 yX2_mean, Cond.instanceMethod yX2_mean, Cond.selects RX2 yX2_mean yX2_mean, Cond.code yX2_mean cX2_mean 2 (some .double)]
def wsL_law0 : List Cond := (wsL_law0_r1 ++ (wsL_law0_r2 ++ (wsL_law0_r3 ++ (wsL_law0_r4 ++ (wsL_law0_r5 ++ (wsL_law0_r6 ++ (wsL_law0_r7 ++ (wsL_law0_r8 ++ (wsL_law0_r9 ++ (wsL_law0_r10 ++ (wsL_law0_r11 ++ wsL_law0_r12))))))))))) ++ wsX20 ++ wsX00 ++ wsX10 ++ ([] : List Cond)
def wsL_law : List Cond := wsL_law0 ++ (vx_atS RX2 56 "java/lang/IndexOutOfBoundsException" ["java/lang/RuntimeException", "java/lang/Exception"]).filter goodWord ++ (vx_atS RX2 23 "java/lang/IllegalArgumentException" ["java/lang/RuntimeException", "java/lang/Exception"]).filter goodWord ++ (vx_atS RX2 40 "java/lang/IllegalStateException" ["java/lang/RuntimeException", "java/lang/Exception"]).filter goodWord
end
section
set_option maxRecDepth 100000 in
theorem wsL_in_r1 : ∀ w ∈ wsL_law0_r1, w ∈ lw_tbl := by decide +kernel
set_option maxRecDepth 100000 in
theorem wsL_in_r2 : ∀ w ∈ wsL_law0_r2, w ∈ lw_tbl := by decide +kernel
set_option maxRecDepth 100000 in
theorem wsL_in_r3 : ∀ w ∈ wsL_law0_r3, w ∈ lw_tbl := by decide +kernel
set_option maxRecDepth 100000 in
theorem wsL_in_r4 : ∀ w ∈ wsL_law0_r4, w ∈ lw_tbl := by decide +kernel
set_option maxRecDepth 100000 in
theorem wsL_in_r5 : ∀ w ∈ wsL_law0_r5, w ∈ lw_tbl := by decide +kernel
set_option maxRecDepth 100000 in
theorem wsL_in_r6 : ∀ w ∈ wsL_law0_r6, w ∈ lw_tbl := by decide +kernel
set_option maxRecDepth 100000 in
theorem wsL_in_r7 : ∀ w ∈ wsL_law0_r7, w ∈ lw_tbl := by decide +kernel
set_option maxRecDepth 100000 in
theorem wsL_in_r8 : ∀ w ∈ wsL_law0_r8, w ∈ lw_tbl := by decide +kernel
set_option maxRecDepth 100000 in
theorem wsL_in_r9 : ∀ w ∈ wsL_law0_r9, w ∈ lw_tbl := by decide +kernel
set_option maxRecDepth 100000 in
theorem wsL_in_r10 : ∀ w ∈ wsL_law0_r10, w ∈ lw_tbl := by decide +kernel
set_option maxRecDepth 100000 in
theorem wsL_in_r11 : ∀ w ∈ wsL_law0_r11, w ∈ lw_tbl := by decide +kernel
set_option maxRecDepth 100000 in
theorem wsL_in_r12 : ∀ w ∈ wsL_law0_r12, w ∈ lw_tbl := by decide +kernel
set_option maxRecDepth 100000 in
theorem wsL_inw_X00 : ∀ w ∈ wsX00, w ∈ lw_tbl := by decide +kernel
set_option maxRecDepth 100000 in
theorem wsL_inw_X10 : ∀ w ∈ wsX10, w ∈ lw_tbl := by decide +kernel
set_option maxRecDepth 100000 in
theorem wsL_inw_X20 : ∀ w ∈ wsX20, w ∈ lw_tbl := by decide +kernel
theorem wsL_law_in0 : ∀ w ∈ wsL_law0, w ∈ lw_tbl := fun w h => (List.mem_append.mp h).elim (fun h => (List.mem_append.mp h).elim (fun h => (List.mem_append.mp h).elim (fun h => (List.mem_append.mp h).elim (fun h => (List.mem_append.mp h).elim (fun h => wsL_in_r1 w h) (fun h => (List.mem_append.mp h).elim (fun h => wsL_in_r2 w h) (fun h => (List.mem_append.mp h).elim (fun h => wsL_in_r3 w h) (fun h => (List.mem_append.mp h).elim (fun h => wsL_in_r4 w h) (fun h => (List.mem_append.mp h).elim (fun h => wsL_in_r5 w h) (fun h => (List.mem_append.mp h).elim (fun h => wsL_in_r6 w h) (fun h => (List.mem_append.mp h).elim (fun h => wsL_in_r7 w h) (fun h => (List.mem_append.mp h).elim (fun h => wsL_in_r8 w h) (fun h => (List.mem_append.mp h).elim (fun h => wsL_in_r9 w h) (fun h => (List.mem_append.mp h).elim (fun h => wsL_in_r10 w h) (fun h => (List.mem_append.mp h).elim (fun h => wsL_in_r11 w h) (fun h => wsL_in_r12 w h)))))))))))) (fun h => wsL_inw_X20 w h)) (fun h => wsL_inw_X00 w h)) (fun h => wsL_inw_X10 w h)) (fun h => absurd h List.not_mem_nil)
end
section
theorem wsL_law_x0 : ∀ w ∈ (vx_atS RX2 56 "java/lang/IndexOutOfBoundsException" ["java/lang/RuntimeException", "java/lang/Exception"]).filter goodWord, w ∈ lw_tbl := by decide +kernel
theorem wsL_law_x1 : ∀ w ∈ (vx_atS RX2 23 "java/lang/IllegalArgumentException" ["java/lang/RuntimeException", "java/lang/Exception"]).filter goodWord, w ∈ lw_tbl := by decide +kernel
theorem wsL_law_x2 : ∀ w ∈ (vx_atS RX2 40 "java/lang/IllegalStateException" ["java/lang/RuntimeException", "java/lang/Exception"]).filter goodWord, w ∈ lw_tbl := by decide +kernel
theorem wsL_law_in : ∀ w ∈ wsL_law, w ∈ lw_tbl := fun w h => (List.mem_append.mp h).elim (fun h => (List.mem_append.mp h).elim (fun h => (List.mem_append.mp h).elim (fun h => wsL_law_in0 w h) (fun h => wsL_law_x0 w h)) (fun h => wsL_law_x1 w h)) (fun h => wsL_law_x2 w h)
theorem inlX0 : ∀ w ∈ wsX00, w ∈ wsL_law := fun _ h => List.mem_append_left _ (List.mem_append_left _ (List.mem_append_left _ (List.mem_append_left _ (List.mem_append_left _ (List.mem_append_right _ h)))))
theorem inX0 : ∀ w ∈ wsX00, w ∈ lw_tbl := fun w h => wsL_law_in w (inlX0 w h)
theorem inlX1 : ∀ w ∈ wsX10, w ∈ wsL_law := fun _ h => List.mem_append_left _ (List.mem_append_left _ (List.mem_append_left _ (List.mem_append_left _ (List.mem_append_right _ h))))
theorem inX1 : ∀ w ∈ wsX10, w ∈ lw_tbl := fun w h => wsL_law_in w (inlX1 w h)
theorem inlX2 : ∀ w ∈ wsX20, w ∈ wsL_law := fun _ h => List.mem_append_left _ (List.mem_append_left _ (List.mem_append_left _ (List.mem_append_left _ (List.mem_append_left _ (List.mem_append_left _ (List.mem_append_right _ h))))))
theorem inX2 : ∀ w ∈ wsX20, w ∈ lw_tbl := fun w h => wsL_law_in w (inlX2 w h)
theorem inX3 : ∀ w ∈ wsX30, w ∈ lw_tbl := by decide +kernel
theorem inX4 : ∀ w ∈ wsX40, w ∈ lw_tbl := by decide +kernel
theorem inJ9 : ∀ w ∈ wsJ90, w ∈ lw_tbl := by decide +kernel
theorem inJ0 : ∀ w ∈ wsJ00, w ∈ lw_tbl := by decide +kernel
theorem inJ10 : ∀ w ∈ wsJ100, w ∈ lw_tbl := by decide +kernel
set_option maxRecDepth 20000 in
theorem ggX0_init_X1_init : GoodIn wsX0_init wsX1_init := goodIn_r _ [20, 21, 2, 3, 22, 23, 24, 25, 10, 26, 27, 28, 29, 30, 31, 32, 33, 45, 46, 47, 48, 49, 50, 51, 52, 53, 54, 55, 56] (by decide +kernel) (by decide +kernel)
set_option maxRecDepth 20000 in
theorem gX0_init_X1_init_n36 : GoodIn wsX0_init (wsX1_init) := ggX0_init_X1_init
theorem dX0_init_0 : decode cX0_init 0 = .ok (.aload_n 0, 1) := by decide +kernel
theorem dX0_init_1 : decode cX0_init 1 = .ok (.invokespecial 3, 3) := by decide +kernel
theorem dX0_init_4 : decode cX0_init 4 = .ok (.aload_n 0, 1) := by decide +kernel
theorem dX0_init_5 : decode cX0_init 5 = .ok (.iconst 0, 1) := by decide +kernel
theorem dX0_init_6 : decode cX0_init 6 = .ok (.putfield 9, 3) := by decide +kernel
theorem dX0_init_9 : decode cX0_init 9 = .ok (.aload_n 0, 1) := by decide +kernel
theorem dX0_init_10 : decode cX0_init 10 = .ok (.iconst 0, 1) := by decide +kernel
theorem dX0_init_11 : decode cX0_init 11 = .ok (.putfield 15, 3) := by decide +kernel
theorem dX0_init_14 : decode cX0_init 14 = .ok (.aload_n 0, 1) := by decide +kernel
theorem dX0_init_15 : decode cX0_init 15 = .ok (.bipush 15, 2) := by decide +kernel
theorem dX0_init_17 : decode cX0_init 17 = .ok (.putfield 18, 3) := by decide +kernel
theorem dX0_init_20 : decode cX0_init 20 = .ok (.aload_n 0, 1) := by decide +kernel
theorem dX0_init_21 : decode cX0_init 21 = .ok (.iconst 0, 1) := by decide +kernel
theorem dX0_init_22 : decode cX0_init 22 = .ok (.putfield 21, 3) := by decide +kernel
theorem dX0_init_25 : decode cX0_init 25 = .ok (.aload_n 0, 1) := by decide +kernel
theorem dX0_init_26 : decode cX0_init 26 = .ok (.iconst 0, 1) := by decide +kernel
theorem dX0_init_27 : decode cX0_init 27 = .ok (.putfield 24, 3) := by decide +kernel
theorem dX0_init_30 : decode cX0_init 30 = .ok (.aload_n 0, 1) := by decide +kernel
theorem dX0_init_31 : decode cX0_init 31 = .ok (.iconst 0, 1) := by decide +kernel
theorem dX0_init_32 : decode cX0_init 32 = .ok (.putfield 27, 3) := by decide +kernel
theorem dX0_init_35 : decode cX0_init 35 = .ok (.aload_n 0, 1) := by decide +kernel
theorem dX0_init_36 : decode cX0_init 36 = .ok (.bipush 8, 2) := by decide +kernel
theorem dX0_init_38 : decode cX0_init 38 = .ok (.newarray .int, 2) := by decide +kernel
theorem dX0_init_40 : decode cX0_init 40 = .ok (.putfield 30, 3) := by decide +kernel
theorem dX0_init_43 : decode cX0_init 43 = .ok (.aload_n 0, 1) := by decide +kernel
theorem dX0_init_44 : decode cX0_init 44 = .ok (.new 34, 3) := by decide +kernel
theorem dX0_init_47 : decode cX0_init 47 = .ok (.dup, 1) := by decide +kernel
theorem dX0_init_48 : decode cX0_init 48 = .ok (.invokespecial 36, 3) := by decide +kernel
theorem dX0_init_51 : decode cX0_init 51 = .ok (.putfield 37, 3) := by decide +kernel
theorem dX0_init_54 : decode cX0_init 54 = .ok (.aload_n 0, 1) := by decide +kernel
theorem dX0_init_55 : decode cX0_init 55 = .ok (.iconst (-1), 1) := by decide +kernel
theorem dX0_init_56 : decode cX0_init 56 = .ok (.putfield 41, 3) := by decide +kernel
theorem dX0_init_59 : decode cX0_init 59 = .ok (.aload_n 0, 1) := by decide +kernel
theorem dX0_init_60 : decode cX0_init 60 = .ok (.iconst 0, 1) := by decide +kernel
theorem dX0_init_61 : decode cX0_init 61 = .ok (.putfield 44, 3) := by decide +kernel
theorem dX0_init_64 : decode cX0_init 64 = .ok (.aload_n 0, 1) := by decide +kernel
theorem dX0_init_65 : decode cX0_init 65 = .ok (.iconst 0, 1) := by decide +kernel
theorem dX0_init_66 : decode cX0_init 66 = .ok (.putfield 47, 3) := by decide +kernel
theorem dX0_init_69 : decode cX0_init 69 = .ok (.return_, 1) := by decide +kernel
set_option maxRecDepth 20000 in
theorem ggX0_copyFrom_X1_copyFrom : GoodIn wsX0_copyFrom wsX1_copyFrom := goodIn_r _ [20, 21, 22, 23, 24, 25, 26, 9, 10, 11, 27, 28, 29, 30, 31, 32, 33, 45, 46, 47, 48, 49, 50, 51, 52, 53, 54, 55, 56] (by decide +kernel) (by decide +kernel)
set_option maxRecDepth 20000 in
theorem gX0_copyFrom_X1_copyFrom : GoodIn wsX0_copyFrom (wsV RX0 57 RX1 yX1_copyFrom wsX1_copyFrom) := goodIn_app (goodIn_of _ (by decide +kernel)) ggX0_copyFrom_X1_copyFrom
theorem dX0_copyFrom_0 : decode cX0_copyFrom 0 = .ok (.aload_n 0, 1) := by decide +kernel
theorem dX0_copyFrom_1 : decode cX0_copyFrom 1 = .ok (.aload_n 1, 1) := by decide +kernel
theorem dX0_copyFrom_2 : decode cX0_copyFrom 2 = .ok (.getfield 9, 3) := by decide +kernel
theorem dX0_copyFrom_5 : decode cX0_copyFrom 5 = .ok (.putfield 9, 3) := by decide +kernel
theorem dX0_copyFrom_8 : decode cX0_copyFrom 8 = .ok (.aload_n 0, 1) := by decide +kernel
theorem dX0_copyFrom_9 : decode cX0_copyFrom 9 = .ok (.aload_n 1, 1) := by decide +kernel
theorem dX0_copyFrom_10 : decode cX0_copyFrom 10 = .ok (.getfield 15, 3) := by decide +kernel
theorem dX0_copyFrom_13 : decode cX0_copyFrom 13 = .ok (.putfield 15, 3) := by decide +kernel
theorem dX0_copyFrom_16 : decode cX0_copyFrom 16 = .ok (.aload_n 0, 1) := by decide +kernel
theorem dX0_copyFrom_17 : decode cX0_copyFrom 17 = .ok (.aload_n 1, 1) := by decide +kernel
theorem dX0_copyFrom_18 : decode cX0_copyFrom 18 = .ok (.getfield 18, 3) := by decide +kernel
theorem dX0_copyFrom_21 : decode cX0_copyFrom 21 = .ok (.putfield 18, 3) := by decide +kernel
theorem dX0_copyFrom_24 : decode cX0_copyFrom 24 = .ok (.aload_n 0, 1) := by decide +kernel
theorem dX0_copyFrom_25 : decode cX0_copyFrom 25 = .ok (.aload_n 1, 1) := by decide +kernel
theorem dX0_copyFrom_26 : decode cX0_copyFrom 26 = .ok (.getfield 21, 3) := by decide +kernel
theorem dX0_copyFrom_29 : decode cX0_copyFrom 29 = .ok (.putfield 21, 3) := by decide +kernel
theorem dX0_copyFrom_32 : decode cX0_copyFrom 32 = .ok (.aload_n 0, 1) := by decide +kernel
theorem dX0_copyFrom_33 : decode cX0_copyFrom 33 = .ok (.aload_n 1, 1) := by decide +kernel
theorem dX0_copyFrom_34 : decode cX0_copyFrom 34 = .ok (.getfield 24, 3) := by decide +kernel
theorem dX0_copyFrom_37 : decode cX0_copyFrom 37 = .ok (.putfield 24, 3) := by decide +kernel
theorem dX0_copyFrom_40 : decode cX0_copyFrom 40 = .ok (.aload_n 0, 1) := by decide +kernel
theorem dX0_copyFrom_41 : decode cX0_copyFrom 41 = .ok (.aload_n 1, 1) := by decide +kernel
theorem dX0_copyFrom_42 : decode cX0_copyFrom 42 = .ok (.getfield 27, 3) := by decide +kernel
theorem dX0_copyFrom_45 : decode cX0_copyFrom 45 = .ok (.putfield 27, 3) := by decide +kernel
theorem dX0_copyFrom_48 : decode cX0_copyFrom 48 = .ok (.aload_n 1, 1) := by decide +kernel
theorem dX0_copyFrom_49 : decode cX0_copyFrom 49 = .ok (.getfield 30, 3) := by decide +kernel
theorem dX0_copyFrom_52 : decode cX0_copyFrom 52 = .ok (.iconst 0, 1) := by decide +kernel
theorem dX0_copyFrom_53 : decode cX0_copyFrom 53 = .ok (.aload_n 0, 1) := by decide +kernel
theorem dX0_copyFrom_54 : decode cX0_copyFrom 54 = .ok (.getfield 30, 3) := by decide +kernel
theorem dX0_copyFrom_57 : decode cX0_copyFrom 57 = .ok (.iconst 0, 1) := by decide +kernel
theorem dX0_copyFrom_58 : decode cX0_copyFrom 58 = .ok (.bipush 8, 2) := by decide +kernel
theorem dX0_copyFrom_60 : decode cX0_copyFrom 60 = .ok (.invokestatic 51, 3) := by decide +kernel
theorem dX0_copyFrom_63 : decode cX0_copyFrom 63 = .ok (.aload_n 0, 1) := by decide +kernel
theorem dX0_copyFrom_64 : decode cX0_copyFrom 64 = .ok (.getfield 37, 3) := by decide +kernel
theorem dX0_copyFrom_67 : decode cX0_copyFrom 67 = .ok (.aload_n 1, 1) := by decide +kernel
theorem dX0_copyFrom_68 : decode cX0_copyFrom 68 = .ok (.getfield 37, 3) := by decide +kernel
theorem dX0_copyFrom_71 : decode cX0_copyFrom 71 = .ok (.invokevirtual 57, 3) := by decide +kernel
theorem dX0_copyFrom_74 : decode cX0_copyFrom 74 = .ok (.aload_n 0, 1) := by decide +kernel
theorem dX0_copyFrom_75 : decode cX0_copyFrom 75 = .ok (.aload_n 1, 1) := by decide +kernel
theorem dX0_copyFrom_76 : decode cX0_copyFrom 76 = .ok (.getfield 41, 3) := by decide +kernel
theorem dX0_copyFrom_79 : decode cX0_copyFrom 79 = .ok (.putfield 41, 3) := by decide +kernel
theorem dX0_copyFrom_82 : decode cX0_copyFrom 82 = .ok (.aload_n 0, 1) := by decide +kernel
theorem dX0_copyFrom_83 : decode cX0_copyFrom 83 = .ok (.aload_n 1, 1) := by decide +kernel
theorem dX0_copyFrom_84 : decode cX0_copyFrom 84 = .ok (.getfield 44, 3) := by decide +kernel
theorem dX0_copyFrom_87 : decode cX0_copyFrom 87 = .ok (.putfield 44, 3) := by decide +kernel
theorem dX0_copyFrom_90 : decode cX0_copyFrom 90 = .ok (.aload_n 0, 1) := by decide +kernel
theorem dX0_copyFrom_91 : decode cX0_copyFrom 91 = .ok (.aload_n 1, 1) := by decide +kernel
theorem dX0_copyFrom_92 : decode cX0_copyFrom 92 = .ok (.getfield 47, 3) := by decide +kernel
theorem dX0_copyFrom_95 : decode cX0_copyFrom 95 = .ok (.putfield 47, 3) := by decide +kernel
theorem dX0_copyFrom_98 : decode cX0_copyFrom 98 = .ok (.return_, 1) := by decide +kernel
set_option maxRecDepth 20000 in
theorem ggX0_goOn_X0_goOneMinute : GoodIn wsX0_goOn wsX0_goOneMinute := goodIn_r _ [5, 6, 7, 8, 9, 10, 11, 12, 13, 4, 14, 15, 16, 17, 18, 19, 20, 21, 22, 23, 24, 25, 26, 27, 28, 29, 30, 31, 32, 33, 34, 35, 36, 37, 38, 39, 40, 41, 42, 43, 44, 45, 46, 47, 48, 49, 50, 51, 52, 53, 54, 55, 56, 57, 58, 59, 60, 61, 62, 63, 64, 65, 66, 67, 68, 69, 70, 71, 72, 73, 74, 75, 76, 77, 78, 79, 80, 81, 82, 83, 84, 85, 86, 87, 88, 89, 90, 91, 92, 93, 94, 95, 96, 97, 98, 99, 100, 101, 102, 103, 104, 105, 106, 107, 108, 109, 110, 111, 112, 113, 114] (by decide +kernel) (by decide +kernel)
set_option maxRecDepth 20000 in
theorem gX0_goOn_X0_goOneMinute : GoodIn wsX0_goOn (wsV RX0 61 RX0 yX0_goOneMinute wsX0_goOneMinute) := goodIn_app (goodIn_of _ (by decide +kernel)) ggX0_goOn_X0_goOneMinute
theorem dX0_goOn_0 : decode cX0_goOn 0 = .ok (.iconst 0, 1) := by decide +kernel
theorem dX0_goOn_1 : decode cX0_goOn 1 = .ok (.istore_n 2, 1) := by decide +kernel
theorem dX0_goOn_2 : decode cX0_goOn 2 = .ok (.iload_n 2, 1) := by decide +kernel
theorem dX0_goOn_3 : decode cX0_goOn 3 = .ok (.iload_n 1, 1) := by decide +kernel
theorem dX0_goOn_4 : decode cX0_goOn 4 = .ok (.if_icmp .ge 13, 3) := by decide +kernel
theorem dX0_goOn_7 : decode cX0_goOn 7 = .ok (.aload_n 0, 1) := by decide +kernel
theorem dX0_goOn_8 : decode cX0_goOn 8 = .ok (.invokevirtual 61, 3) := by decide +kernel
theorem dX0_goOn_11 : decode cX0_goOn 11 = .ok (.iinc 2 1, 3) := by decide +kernel
theorem dX0_goOn_14 : decode cX0_goOn 14 = .ok (.goto (-12), 3) := by decide +kernel
theorem dX0_goOn_17 : decode cX0_goOn 17 = .ok (.return_, 1) := by decide +kernel
set_option maxRecDepth 20000 in
theorem ggX0_goOneMinute_X0_servedNext : GoodIn wsX0_goOneMinute wsX0_servedNext := goodIn_r _ [10, 11, 12, 2, 13, 14, 15, 16, 17, 18, 19, 20, 21, 22, 23, 24, 25, 26, 27, 28, 29, 30, 31, 32, 88, 89, 90, 91, 92, 93, 94, 95, 96, 97, 98, 99, 100, 101, 102, 103, 104, 105, 106, 107, 108, 109, 110] (by decide +kernel) (by decide +kernel)
set_option maxRecDepth 20000 in
theorem gX0_goOneMinute_X0_servedNext : GoodIn wsX0_goOneMinute (wsV RX0 64 RX0 yX0_servedNext wsX0_servedNext) := goodIn_app (goodIn_of _ (by decide +kernel)) ggX0_goOneMinute_X0_servedNext
set_option maxRecDepth 20000 in
theorem ggX0_goOneMinute_X0_serve : GoodIn wsX0_goOneMinute wsX0_serve := goodIn_r _ [36, 2, 37, 38, 11, 39, 40, 13, 5, 41, 22, 23, 24, 42, 43, 44, 45, 46, 47, 17, 48, 49, 50, 51, 52, 53, 54, 55, 56, 57, 58, 59, 60, 61, 19, 20, 62, 63, 64, 65, 9, 66, 67, 68, 88, 89, 90, 91, 92, 93, 94, 95, 96, 97, 98, 99, 100, 101, 102, 103, 104, 105, 106, 107, 108, 109, 110] (by decide +kernel) (by decide +kernel)
set_option maxRecDepth 20000 in
theorem gX0_goOneMinute_X0_serve : GoodIn wsX0_goOneMinute (wsV RX0 68 RX0 yX0_serve wsX0_serve) := goodIn_app (goodIn_of _ (by decide +kernel)) ggX0_goOneMinute_X0_serve
set_option maxRecDepth 20000 in
theorem ggX0_goOneMinute_X0_goOnPassing : GoodIn wsX0_goOneMinute wsX0_goOnPassing := goodIn_r _ [72, 2, 11, 40, 5, 45, 46, 47, 17, 48, 49, 73, 74, 75, 76, 54, 77, 78, 88, 89, 90, 91, 92, 93, 94, 95, 96, 97, 98, 99, 100, 101, 102, 103, 104, 105, 106, 107, 108, 109, 110] (by decide +kernel) (by decide +kernel)
set_option maxRecDepth 20000 in
theorem gX0_goOneMinute_X0_goOnPassing : GoodIn wsX0_goOneMinute (wsV RX0 72 RX0 yX0_goOnPassing wsX0_goOnPassing) := goodIn_app (goodIn_of _ (by decide +kernel)) ggX0_goOneMinute_X0_goOnPassing
set_option maxRecDepth 20000 in
theorem ggX0_goOneMinute_X0_freeze : GoodIn wsX0_goOneMinute wsX0_freeze := goodIn_r _ [82, 5, 68, 83, 41, 22, 23, 24, 42, 43, 44, 84, 85, 86, 87, 88, 89, 90, 91, 92, 93, 94, 95, 96, 97, 98] (by decide +kernel) (by decide +kernel)
set_option maxRecDepth 20000 in
theorem gX0_goOneMinute_X0_freeze : GoodIn wsX0_goOneMinute (wsV RX0 81 RX0 yX0_freeze wsX0_freeze) := goodIn_app (goodIn_of _ (by decide +kernel)) ggX0_goOneMinute_X0_freeze
theorem dX0_goOneMinute_0 : decode cX0_goOneMinute 0 = .ok (.aload_n 0, 1) := by decide +kernel
theorem dX0_goOneMinute_1 : decode cX0_goOneMinute 1 = .ok (.aload_n 0, 1) := by decide +kernel
theorem dX0_goOneMinute_2 : decode cX0_goOneMinute 2 = .ok (.invokevirtual 64, 3) := by decide +kernel
theorem dX0_goOneMinute_5 : decode cX0_goOneMinute 5 = .ok (.invokevirtual 68, 3) := by decide +kernel
theorem dX0_goOneMinute_8 : decode cX0_goOneMinute 8 = .ok (.aload_n 0, 1) := by decide +kernel
theorem dX0_goOneMinute_9 : decode cX0_goOneMinute 9 = .ok (.invokevirtual 72, 3) := by decide +kernel
theorem dX0_goOneMinute_12 : decode cX0_goOneMinute 12 = .ok (.aload_n 0, 1) := by decide +kernel
theorem dX0_goOneMinute_13 : decode cX0_goOneMinute 13 = .ok (.dup, 1) := by decide +kernel
theorem dX0_goOneMinute_14 : decode cX0_goOneMinute 14 = .ok (.getfield 27, 3) := by decide +kernel
theorem dX0_goOneMinute_17 : decode cX0_goOneMinute 17 = .ok (.aload_n 0, 1) := by decide +kernel
theorem dX0_goOneMinute_18 : decode cX0_goOneMinute 18 = .ok (.getfield 37, 3) := by decide +kernel
theorem dX0_goOneMinute_21 : decode cX0_goOneMinute 21 = .ok (.getfield 75, 3) := by decide +kernel
theorem dX0_goOneMinute_24 : decode cX0_goOneMinute 24 = .ok (.aload_n 0, 1) := by decide +kernel
theorem dX0_goOneMinute_25 : decode cX0_goOneMinute 25 = .ok (.getfield 37, 3) := by decide +kernel
theorem dX0_goOneMinute_28 : decode cX0_goOneMinute 28 = .ok (.getfield 78, 3) := by decide +kernel
theorem dX0_goOneMinute_31 : decode cX0_goOneMinute 31 = .ok (.iadd, 1) := by decide +kernel
theorem dX0_goOneMinute_32 : decode cX0_goOneMinute 32 = .ok (.iadd, 1) := by decide +kernel
theorem dX0_goOneMinute_33 : decode cX0_goOneMinute 33 = .ok (.putfield 27, 3) := by decide +kernel
theorem dX0_goOneMinute_36 : decode cX0_goOneMinute 36 = .ok (.aload_n 0, 1) := by decide +kernel
theorem dX0_goOneMinute_37 : decode cX0_goOneMinute 37 = .ok (.invokevirtual 81, 3) := by decide +kernel
theorem dX0_goOneMinute_40 : decode cX0_goOneMinute 40 = .ok (.aload_n 0, 1) := by decide +kernel
theorem dX0_goOneMinute_41 : decode cX0_goOneMinute 41 = .ok (.dup, 1) := by decide +kernel
theorem dX0_goOneMinute_42 : decode cX0_goOneMinute 42 = .ok (.getfield 9, 3) := by decide +kernel
theorem dX0_goOneMinute_45 : decode cX0_goOneMinute 45 = .ok (.iconst 1, 1) := by decide +kernel
theorem dX0_goOneMinute_46 : decode cX0_goOneMinute 46 = .ok (.iadd, 1) := by decide +kernel
theorem dX0_goOneMinute_47 : decode cX0_goOneMinute 47 = .ok (.putfield 9, 3) := by decide +kernel
theorem dX0_goOneMinute_50 : decode cX0_goOneMinute 50 = .ok (.return_, 1) := by decide +kernel
theorem dX0_speedTowards_0 : decode cX0_speedTowards 0 = .ok (.aload_n 0, 1) := by decide +kernel
theorem dX0_speedTowards_1 : decode cX0_speedTowards 1 = .ok (.getfield 18, 3) := by decide +kernel
theorem dX0_speedTowards_4 : decode cX0_speedTowards 4 = .ok (.bipush 6, 2) := by decide +kernel
theorem dX0_speedTowards_6 : decode cX0_speedTowards 6 = .ok (.idiv, 1) := by decide +kernel
theorem dX0_speedTowards_7 : decode cX0_speedTowards 7 = .ok (.istore_n 2, 1) := by decide +kernel
theorem dX0_speedTowards_8 : decode cX0_speedTowards 8 = .ok (.iload_n 1, 1) := by decide +kernel
theorem dX0_speedTowards_9 : decode cX0_speedTowards 9 = .ok (.ifCond .eq 9, 3) := by decide +kernel
theorem dX0_speedTowards_12 : decode cX0_speedTowards 12 = .ok (.iconst 1, 1) := by decide +kernel
theorem dX0_speedTowards_13 : decode cX0_speedTowards 13 = .ok (.iload_n 2, 1) := by decide +kernel
theorem dX0_speedTowards_14 : decode cX0_speedTowards 14 = .ok (.iadd, 1) := by decide +kernel
theorem dX0_speedTowards_15 : decode cX0_speedTowards 15 = .ok (.goto 7, 3) := by decide +kernel
theorem dX0_speedTowards_18 : decode cX0_speedTowards 18 = .ok (.bipush 6, 2) := by decide +kernel
theorem dX0_speedTowards_20 : decode cX0_speedTowards 20 = .ok (.iload_n 2, 1) := by decide +kernel
theorem dX0_speedTowards_21 : decode cX0_speedTowards 21 = .ok (.isub, 1) := by decide +kernel
theorem dX0_speedTowards_22 : decode cX0_speedTowards 22 = .ok (.istore_n 3, 1) := by decide +kernel
theorem dX0_speedTowards_23 : decode cX0_speedTowards 23 = .ok (.aload_n 0, 1) := by decide +kernel
theorem dX0_speedTowards_24 : decode cX0_speedTowards 24 = .ok (.getfield 21, 3) := by decide +kernel
theorem dX0_speedTowards_27 : decode cX0_speedTowards 27 = .ok (.iconst 5, 1) := by decide +kernel
theorem dX0_speedTowards_28 : decode cX0_speedTowards 28 = .ok (.if_icmp .lt 13, 3) := by decide +kernel
theorem dX0_speedTowards_31 : decode cX0_speedTowards 31 = .ok (.iconst 1, 1) := by decide +kernel
theorem dX0_speedTowards_32 : decode cX0_speedTowards 32 = .ok (.iload_n 3, 1) := by decide +kernel
theorem dX0_speedTowards_33 : decode cX0_speedTowards 33 = .ok (.iconst 2, 1) := by decide +kernel
theorem dX0_speedTowards_34 : decode cX0_speedTowards 34 = .ok (.idiv, 1) := by decide +kernel
theorem dX0_speedTowards_35 : decode cX0_speedTowards 35 = .ok (.invokestatic 84, 3) := by decide +kernel
theorem dX0_speedTowards_38 : decode cX0_speedTowards 38 = .ok (.goto 4, 3) := by decide +kernel
theorem dX0_speedTowards_41 : decode cX0_speedTowards 41 = .ok (.iload_n 3, 1) := by decide +kernel
theorem dX0_speedTowards_42 : decode cX0_speedTowards 42 = .ok (.ireturn, 1) := by decide +kernel
set_option maxRecDepth 20000 in
theorem ggX0_servedNext_X1_firstOfAll : GoodIn wsX0_servedNext wsX1_firstOfAll := goodIn_r _ [9, 10, 11, 12, 13, 14, 15, 35, 36, 37, 38, 39, 40, 41, 42, 43, 44, 45, 46] (by decide +kernel) (by decide +kernel)
set_option maxRecDepth 20000 in
theorem gX0_servedNext_X1_firstOfAll : GoodIn wsX0_servedNext (wsV RX0 90 RX1 yX1_firstOfAll wsX1_firstOfAll) := goodIn_app (goodIn_of _ (by decide +kernel)) ggX0_servedNext_X1_firstOfAll
set_option maxRecDepth 20000 in
theorem ggX0_servedNext_X1_firstBargeElseCart : GoodIn wsX0_servedNext wsX1_firstBargeElseCart := goodIn_r _ [19, 10, 11, 35, 36, 37, 38, 39, 40, 41, 42, 43, 44, 45, 46] (by decide +kernel) (by decide +kernel)
set_option maxRecDepth 20000 in
theorem gX0_servedNext_X1_firstBargeElseCart : GoodIn wsX0_servedNext (wsV RX0 93 RX1 yX1_firstBargeElseCart wsX1_firstBargeElseCart) := goodIn_app (goodIn_of _ (by decide +kernel)) ggX0_servedNext_X1_firstBargeElseCart
set_option maxRecDepth 20000 in
theorem ggX0_servedNext_X1_firstCartElseBarge : GoodIn wsX0_servedNext wsX1_firstCartElseBarge := goodIn_r _ [23, 11, 10, 35, 36, 37, 38, 39, 40, 41, 42, 43, 44, 45, 46] (by decide +kernel) (by decide +kernel)
set_option maxRecDepth 20000 in
theorem gX0_servedNext_X1_firstCartElseBarge : GoodIn wsX0_servedNext (wsV RX0 96 RX1 yX1_firstCartElseBarge wsX1_firstCartElseBarge) := goodIn_app (goodIn_of _ (by decide +kernel)) ggX0_servedNext_X1_firstCartElseBarge
theorem dX0_servedNext_0 : decode cX0_servedNext 0 = .ok (.aload_n 0, 1) := by decide +kernel
theorem dX0_servedNext_1 : decode cX0_servedNext 1 = .ok (.getfield 41, 3) := by decide +kernel
theorem dX0_servedNext_4 : decode cX0_servedNext 4 = .ok (.iconst (-1), 1) := by decide +kernel
theorem dX0_servedNext_5 : decode cX0_servedNext 5 = .ok (.if_icmp .eq 5, 3) := by decide +kernel
theorem dX0_servedNext_8 : decode cX0_servedNext 8 = .ok (.iconst (-1), 1) := by decide +kernel
theorem dX0_servedNext_9 : decode cX0_servedNext 9 = .ok (.ireturn, 1) := by decide +kernel
theorem dX0_servedNext_10 : decode cX0_servedNext 10 = .ok (.aload_n 0, 1) := by decide +kernel
theorem dX0_servedNext_11 : decode cX0_servedNext 11 = .ok (.getfield 24, 3) := by decide +kernel
theorem dX0_servedNext_14 : decode cX0_servedNext 14 = .ok (.tableswitch 79 0 3 #[30, 38, 46, 54], 30) := by decide +kernel
theorem dX0_servedNext_44 : decode cX0_servedNext 44 = .ok (.aload_n 0, 1) := by decide +kernel
theorem dX0_servedNext_45 : decode cX0_servedNext 45 = .ok (.getfield 37, 3) := by decide +kernel
theorem dX0_servedNext_48 : decode cX0_servedNext 48 = .ok (.invokevirtual 90, 3) := by decide +kernel
theorem dX0_servedNext_51 : decode cX0_servedNext 51 = .ok (.ireturn, 1) := by decide +kernel
theorem dX0_servedNext_52 : decode cX0_servedNext 52 = .ok (.aload_n 0, 1) := by decide +kernel
theorem dX0_servedNext_53 : decode cX0_servedNext 53 = .ok (.getfield 37, 3) := by decide +kernel
theorem dX0_servedNext_56 : decode cX0_servedNext 56 = .ok (.invokevirtual 93, 3) := by decide +kernel
theorem dX0_servedNext_59 : decode cX0_servedNext 59 = .ok (.ireturn, 1) := by decide +kernel
theorem dX0_servedNext_60 : decode cX0_servedNext 60 = .ok (.aload_n 0, 1) := by decide +kernel
theorem dX0_servedNext_61 : decode cX0_servedNext 61 = .ok (.getfield 37, 3) := by decide +kernel
theorem dX0_servedNext_64 : decode cX0_servedNext 64 = .ok (.invokevirtual 96, 3) := by decide +kernel
theorem dX0_servedNext_67 : decode cX0_servedNext 67 = .ok (.ireturn, 1) := by decide +kernel
theorem dX0_servedNext_68 : decode cX0_servedNext 68 = .ok (.aload_n 0, 1) := by decide +kernel
theorem dX0_servedNext_69 : decode cX0_servedNext 69 = .ok (.getfield 47, 3) := by decide +kernel
theorem dX0_servedNext_72 : decode cX0_servedNext 72 = .ok (.ifCond .eq 13, 3) := by decide +kernel
theorem dX0_servedNext_75 : decode cX0_servedNext 75 = .ok (.aload_n 0, 1) := by decide +kernel
theorem dX0_servedNext_76 : decode cX0_servedNext 76 = .ok (.getfield 37, 3) := by decide +kernel
theorem dX0_servedNext_79 : decode cX0_servedNext 79 = .ok (.invokevirtual 96, 3) := by decide +kernel
theorem dX0_servedNext_82 : decode cX0_servedNext 82 = .ok (.goto 10, 3) := by decide +kernel
theorem dX0_servedNext_85 : decode cX0_servedNext 85 = .ok (.aload_n 0, 1) := by decide +kernel
theorem dX0_servedNext_86 : decode cX0_servedNext 86 = .ok (.getfield 37, 3) := by decide +kernel
theorem dX0_servedNext_89 : decode cX0_servedNext 89 = .ok (.invokevirtual 93, 3) := by decide +kernel
theorem dX0_servedNext_92 : decode cX0_servedNext 92 = .ok (.ireturn, 1) := by decide +kernel
theorem dX0_servedNext_93 : decode cX0_servedNext 93 = .ok (.iconst (-1), 1) := by decide +kernel
theorem dX0_servedNext_94 : decode cX0_servedNext 94 = .ok (.ireturn, 1) := by decide +kernel
set_option maxRecDepth 20000 in
theorem ggX0_serve_X1_has : GoodIn wsX0_serve wsX1_has := goodIn_r _ [20, 21, 55, 56, 57, 58, 59, 60, 61, 62, 63, 64, 65, 66] (by decide +kernel) (by decide +kernel)
set_option maxRecDepth 20000 in
theorem gX0_serve_X1_has : GoodIn wsX0_serve (wsV RX0 99 RX1 yX1_has wsX1_has) := goodIn_app (goodIn_of _ (by decide +kernel)) ggX0_serve_X1_has
set_option maxRecDepth 20000 in
theorem ggX0_serve_X1_endWait : GoodIn wsX0_serve wsX1_endWait := goodIn_r _ [25, 26, 27, 28, 29, 30, 19, 31, 32, 33, 34, 35, 21, 36, 55, 56, 57, 58, 59, 60, 61, 62, 63, 64, 65, 66] (by decide +kernel) (by decide +kernel)
set_option maxRecDepth 20000 in
theorem gX0_serve_X1_endWait : GoodIn wsX0_serve (wsV RX0 109 RX1 yX1_endWait wsX1_endWait) := goodIn_app (goodIn_of _ (by decide +kernel)) ggX0_serve_X1_endWait
set_option maxRecDepth 20000 in
theorem ggX0_serve_X0_speedTowards : GoodIn wsX0_serve wsX0_speedTowards := goodIn_r _ [41, 42, 43, 13, 14, 11, 15, 44, 45, 46, 47, 48, 49, 50, 51, 52, 53, 54] (by decide +kernel) (by decide +kernel)
set_option maxRecDepth 20000 in
theorem gX0_serve_X0_speedTowards : GoodIn wsX0_serve (wsV RX0 113 RX0 yX0_speedTowards wsX0_speedTowards) := goodIn_app (goodIn_of _ (by decide +kernel)) ggX0_serve_X0_speedTowards
theorem dX0_serve_0 : decode cX0_serve 0 = .ok (.aload_n 0, 1) := by decide +kernel
theorem dX0_serve_1 : decode cX0_serve 1 = .ok (.getfield 37, 3) := by decide +kernel
theorem dX0_serve_4 : decode cX0_serve 4 = .ok (.iload_n 1, 1) := by decide +kernel
theorem dX0_serve_5 : decode cX0_serve 5 = .ok (.invokevirtual 99, 3) := by decide +kernel
theorem dX0_serve_8 : decode cX0_serve 8 = .ok (.ifCond .ne 4, 3) := by decide +kernel
theorem dX0_serve_11 : decode cX0_serve 11 = .ok (.return_, 1) := by decide +kernel
theorem dX0_serve_12 : decode cX0_serve 12 = .ok (.aload_n 0, 1) := by decide +kernel
theorem dX0_serve_13 : decode cX0_serve 13 = .ok (.getfield 37, 3) := by decide +kernel
theorem dX0_serve_16 : decode cX0_serve 16 = .ok (.getfield 103, 3) := by decide +kernel
theorem dX0_serve_19 : decode cX0_serve 19 = .ok (.iload_n 1, 1) := by decide +kernel
theorem dX0_serve_20 : decode cX0_serve 20 = .ok (.iaload, 1) := by decide +kernel
theorem dX0_serve_21 : decode cX0_serve 21 = .ok (.iconst 1, 1) := by decide +kernel
theorem dX0_serve_22 : decode cX0_serve 22 = .ok (.if_icmp .ne 7, 3) := by decide +kernel
theorem dX0_serve_25 : decode cX0_serve 25 = .ok (.iconst 1, 1) := by decide +kernel
theorem dX0_serve_26 : decode cX0_serve 26 = .ok (.goto 4, 3) := by decide +kernel
theorem dX0_serve_29 : decode cX0_serve 29 = .ok (.iconst 0, 1) := by decide +kernel
theorem dX0_serve_30 : decode cX0_serve 30 = .ok (.istore_n 2, 1) := by decide +kernel
theorem dX0_serve_31 : decode cX0_serve 31 = .ok (.aload_n 0, 1) := by decide +kernel
theorem dX0_serve_32 : decode cX0_serve 32 = .ok (.getfield 15, 3) := by decide +kernel
theorem dX0_serve_35 : decode cX0_serve 35 = .ok (.iload_n 2, 1) := by decide +kernel
theorem dX0_serve_36 : decode cX0_serve 36 = .ok (.ifCond .eq 8, 3) := by decide +kernel
theorem dX0_serve_39 : decode cX0_serve 39 = .ok (.bipush 60, 2) := by decide +kernel
theorem dX0_serve_41 : decode cX0_serve 41 = .ok (.goto 4, 3) := by decide +kernel
theorem dX0_serve_44 : decode cX0_serve 44 = .ok (.iconst 0, 1) := by decide +kernel
theorem dX0_serve_45 : decode cX0_serve 45 = .ok (.if_icmp .ne 42, 3) := by decide +kernel
theorem dX0_serve_48 : decode cX0_serve 48 = .ok (.aload_n 0, 1) := by decide +kernel
theorem dX0_serve_49 : decode cX0_serve 49 = .ok (.iload_n 1, 1) := by decide +kernel
theorem dX0_serve_50 : decode cX0_serve 50 = .ok (.putfield 41, 3) := by decide +kernel
theorem dX0_serve_53 : decode cX0_serve 53 = .ok (.aload_n 0, 1) := by decide +kernel
theorem dX0_serve_54 : decode cX0_serve 54 = .ok (.aload_n 0, 1) := by decide +kernel
theorem dX0_serve_55 : decode cX0_serve 55 = .ok (.getfield 37, 3) := by decide +kernel
theorem dX0_serve_58 : decode cX0_serve 58 = .ok (.getfield 106, 3) := by decide +kernel
theorem dX0_serve_61 : decode cX0_serve 61 = .ok (.iload_n 1, 1) := by decide +kernel
theorem dX0_serve_62 : decode cX0_serve 62 = .ok (.iaload, 1) := by decide +kernel
theorem dX0_serve_63 : decode cX0_serve 63 = .ok (.putfield 44, 3) := by decide +kernel
theorem dX0_serve_66 : decode cX0_serve 66 = .ok (.aload_n 0, 1) := by decide +kernel
theorem dX0_serve_67 : decode cX0_serve 67 = .ok (.iload_n 2, 1) := by decide +kernel
theorem dX0_serve_68 : decode cX0_serve 68 = .ok (.putfield 47, 3) := by decide +kernel
theorem dX0_serve_71 : decode cX0_serve 71 = .ok (.aload_n 0, 1) := by decide +kernel
theorem dX0_serve_72 : decode cX0_serve 72 = .ok (.getfield 37, 3) := by decide +kernel
theorem dX0_serve_75 : decode cX0_serve 75 = .ok (.iload_n 1, 1) := by decide +kernel
theorem dX0_serve_76 : decode cX0_serve 76 = .ok (.iconst 1, 1) := by decide +kernel
theorem dX0_serve_77 : decode cX0_serve 77 = .ok (.aload_n 0, 1) := by decide +kernel
theorem dX0_serve_78 : decode cX0_serve 78 = .ok (.getfield 9, 3) := by decide +kernel
theorem dX0_serve_81 : decode cX0_serve 81 = .ok (.invokevirtual 109, 3) := by decide +kernel
theorem dX0_serve_84 : decode cX0_serve 84 = .ok (.goto 47, 3) := by decide +kernel
theorem dX0_serve_87 : decode cX0_serve 87 = .ok (.iload_n 2, 1) := by decide +kernel
theorem dX0_serve_88 : decode cX0_serve 88 = .ok (.ifCond .eq 25, 3) := by decide +kernel
theorem dX0_serve_91 : decode cX0_serve 91 = .ok (.aload_n 0, 1) := by decide +kernel
theorem dX0_serve_92 : decode cX0_serve 92 = .ok (.bipush 60, 2) := by decide +kernel
theorem dX0_serve_94 : decode cX0_serve 94 = .ok (.aload_n 0, 1) := by decide +kernel
theorem dX0_serve_95 : decode cX0_serve 95 = .ok (.getfield 15, 3) := by decide +kernel
theorem dX0_serve_98 : decode cX0_serve 98 = .ok (.aload_n 0, 1) := by decide +kernel
theorem dX0_serve_99 : decode cX0_serve 99 = .ok (.iconst 1, 1) := by decide +kernel
theorem dX0_serve_100 : decode cX0_serve 100 = .ok (.invokevirtual 113, 3) := by decide +kernel
theorem dX0_serve_103 : decode cX0_serve 103 = .ok (.iadd, 1) := by decide +kernel
theorem dX0_serve_104 : decode cX0_serve 104 = .ok (.invokestatic 117, 3) := by decide +kernel
theorem dX0_serve_107 : decode cX0_serve 107 = .ok (.putfield 15, 3) := by decide +kernel
theorem dX0_serve_110 : decode cX0_serve 110 = .ok (.goto 21, 3) := by decide +kernel
theorem dX0_serve_113 : decode cX0_serve 113 = .ok (.aload_n 0, 1) := by decide +kernel
theorem dX0_serve_114 : decode cX0_serve 114 = .ok (.iconst 0, 1) := by decide +kernel
theorem dX0_serve_115 : decode cX0_serve 115 = .ok (.aload_n 0, 1) := by decide +kernel
theorem dX0_serve_116 : decode cX0_serve 116 = .ok (.getfield 15, 3) := by decide +kernel
theorem dX0_serve_119 : decode cX0_serve 119 = .ok (.aload_n 0, 1) := by decide +kernel
theorem dX0_serve_120 : decode cX0_serve 120 = .ok (.iconst 0, 1) := by decide +kernel
theorem dX0_serve_121 : decode cX0_serve 121 = .ok (.invokevirtual 113, 3) := by decide +kernel
theorem dX0_serve_124 : decode cX0_serve 124 = .ok (.isub, 1) := by decide +kernel
theorem dX0_serve_125 : decode cX0_serve 125 = .ok (.invokestatic 84, 3) := by decide +kernel
theorem dX0_serve_128 : decode cX0_serve 128 = .ok (.putfield 15, 3) := by decide +kernel
theorem dX0_serve_131 : decode cX0_serve 131 = .ok (.return_, 1) := by decide +kernel
set_option maxRecDepth 20000 in
theorem ggX0_goOnPassing_X1_has : GoodIn wsX0_goOnPassing wsX1_has := goodIn_r _ [9, 10, 29, 30, 31, 32, 33, 34, 35, 36, 37, 38, 39, 40] (by decide +kernel) (by decide +kernel)
set_option maxRecDepth 20000 in
theorem gX0_goOnPassing_X1_has : GoodIn wsX0_goOnPassing (wsV RX0 99 RX1 yX1_has wsX1_has) := goodIn_app (goodIn_of _ (by decide +kernel)) ggX0_goOnPassing_X1_has
set_option maxRecDepth 20000 in
theorem ggX0_goOnPassing_X1_endPassage : GoodIn wsX0_goOnPassing wsX1_endPassage := goodIn_r _ [14, 15, 16, 17, 29, 30, 31, 32, 33, 34, 35, 36, 37, 38, 39, 40] (by decide +kernel) (by decide +kernel)
set_option maxRecDepth 20000 in
theorem gX0_goOnPassing_X1_endPassage : GoodIn wsX0_goOnPassing (wsV RX0 120 RX1 yX1_endPassage wsX1_endPassage) := goodIn_app (goodIn_of _ (by decide +kernel)) ggX0_goOnPassing_X1_endPassage
theorem dX0_goOnPassing_0 : decode cX0_goOnPassing 0 = .ok (.aload_n 0, 1) := by decide +kernel
theorem dX0_goOnPassing_1 : decode cX0_goOnPassing 1 = .ok (.getfield 37, 3) := by decide +kernel
theorem dX0_goOnPassing_4 : decode cX0_goOnPassing 4 = .ok (.aload_n 0, 1) := by decide +kernel
theorem dX0_goOnPassing_5 : decode cX0_goOnPassing 5 = .ok (.getfield 41, 3) := by decide +kernel
theorem dX0_goOnPassing_8 : decode cX0_goOnPassing 8 = .ok (.invokevirtual 99, 3) := by decide +kernel
theorem dX0_goOnPassing_11 : decode cX0_goOnPassing 11 = .ok (.ifCond .ne 4, 3) := by decide +kernel
theorem dX0_goOnPassing_14 : decode cX0_goOnPassing 14 = .ok (.return_, 1) := by decide +kernel
theorem dX0_goOnPassing_15 : decode cX0_goOnPassing 15 = .ok (.aload_n 0, 1) := by decide +kernel
theorem dX0_goOnPassing_16 : decode cX0_goOnPassing 16 = .ok (.dup, 1) := by decide +kernel
theorem dX0_goOnPassing_17 : decode cX0_goOnPassing 17 = .ok (.getfield 44, 3) := by decide +kernel
theorem dX0_goOnPassing_20 : decode cX0_goOnPassing 20 = .ok (.iconst 1, 1) := by decide +kernel
theorem dX0_goOnPassing_21 : decode cX0_goOnPassing 21 = .ok (.isub, 1) := by decide +kernel
theorem dX0_goOnPassing_22 : decode cX0_goOnPassing 22 = .ok (.putfield 44, 3) := by decide +kernel
theorem dX0_goOnPassing_25 : decode cX0_goOnPassing 25 = .ok (.aload_n 0, 1) := by decide +kernel
theorem dX0_goOnPassing_26 : decode cX0_goOnPassing 26 = .ok (.getfield 44, 3) := by decide +kernel
theorem dX0_goOnPassing_29 : decode cX0_goOnPassing 29 = .ok (.ifCond .gt 23, 3) := by decide +kernel
theorem dX0_goOnPassing_32 : decode cX0_goOnPassing 32 = .ok (.aload_n 0, 1) := by decide +kernel
theorem dX0_goOnPassing_33 : decode cX0_goOnPassing 33 = .ok (.getfield 37, 3) := by decide +kernel
theorem dX0_goOnPassing_36 : decode cX0_goOnPassing 36 = .ok (.aload_n 0, 1) := by decide +kernel
theorem dX0_goOnPassing_37 : decode cX0_goOnPassing 37 = .ok (.getfield 41, 3) := by decide +kernel
theorem dX0_goOnPassing_40 : decode cX0_goOnPassing 40 = .ok (.aload_n 0, 1) := by decide +kernel
theorem dX0_goOnPassing_41 : decode cX0_goOnPassing 41 = .ok (.getfield 9, 3) := by decide +kernel
theorem dX0_goOnPassing_44 : decode cX0_goOnPassing 44 = .ok (.invokevirtual 120, 3) := by decide +kernel
theorem dX0_goOnPassing_47 : decode cX0_goOnPassing 47 = .ok (.aload_n 0, 1) := by decide +kernel
theorem dX0_goOnPassing_48 : decode cX0_goOnPassing 48 = .ok (.iconst (-1), 1) := by decide +kernel
theorem dX0_goOnPassing_49 : decode cX0_goOnPassing 49 = .ok (.putfield 41, 3) := by decide +kernel
theorem dX0_goOnPassing_52 : decode cX0_goOnPassing 52 = .ok (.return_, 1) := by decide +kernel
set_option maxRecDepth 20000 in
theorem ggX0_freeze_J9_floorMod_7cf53 : GoodIn wsX0_freeze wsJ9_floorMod_7cf53 := goodIn_r _ [14] (by decide +kernel) (by decide +kernel)
set_option maxRecDepth 20000 in
theorem gX0_freeze_J9_floorMod_7cf53 : GoodIn wsX0_freeze (va_wsS RX0 124 yJ9_floorMod_7cf53 wsJ9_floorMod_7cf53) := goodIn_app (goodIn_of _ (by decide +kernel)) ggX0_freeze_J9_floorMod_7cf53
theorem dX0_freeze_0 : decode cX0_freeze 0 = .ok (.aload_n 0, 1) := by decide +kernel
theorem dX0_freeze_1 : decode cX0_freeze 1 = .ok (.getfield 9, 3) := by decide +kernel
theorem dX0_freeze_4 : decode cX0_freeze 4 = .ok (.bipush 60, 2) := by decide +kernel
theorem dX0_freeze_6 : decode cX0_freeze 6 = .ok (.irem, 1) := by decide +kernel
theorem dX0_freeze_7 : decode cX0_freeze 7 = .ok (.ifCond .eq 4, 3) := by decide +kernel
theorem dX0_freeze_10 : decode cX0_freeze 10 = .ok (.return_, 1) := by decide +kernel
theorem dX0_freeze_11 : decode cX0_freeze 11 = .ok (.aload_n 0, 1) := by decide +kernel
theorem dX0_freeze_12 : decode cX0_freeze 12 = .ok (.getfield 9, 3) := by decide +kernel
theorem dX0_freeze_15 : decode cX0_freeze 15 = .ok (.bipush 60, 2) := by decide +kernel
theorem dX0_freeze_17 : decode cX0_freeze 17 = .ok (.idiv, 1) := by decide +kernel
theorem dX0_freeze_18 : decode cX0_freeze 18 = .ok (.bipush 8, 2) := by decide +kernel
theorem dX0_freeze_20 : decode cX0_freeze 20 = .ok (.invokestatic 124, 3) := by decide +kernel
theorem dX0_freeze_23 : decode cX0_freeze 23 = .ok (.istore_n 1, 1) := by decide +kernel
theorem dX0_freeze_24 : decode cX0_freeze 24 = .ok (.aload_n 0, 1) := by decide +kernel
theorem dX0_freeze_25 : decode cX0_freeze 25 = .ok (.iconst 0, 1) := by decide +kernel
theorem dX0_freeze_26 : decode cX0_freeze 26 = .ok (.bipush 9, 2) := by decide +kernel
theorem dX0_freeze_28 : decode cX0_freeze 28 = .ok (.aload_n 0, 1) := by decide +kernel
theorem dX0_freeze_29 : decode cX0_freeze 29 = .ok (.getfield 21, 3) := by decide +kernel
theorem dX0_freeze_32 : decode cX0_freeze 32 = .ok (.aload_n 0, 1) := by decide +kernel
theorem dX0_freeze_33 : decode cX0_freeze 33 = .ok (.getfield 30, 3) := by decide +kernel
theorem dX0_freeze_36 : decode cX0_freeze 36 = .ok (.iload_n 1, 1) := by decide +kernel
theorem dX0_freeze_37 : decode cX0_freeze 37 = .ok (.iaload, 1) := by decide +kernel
theorem dX0_freeze_38 : decode cX0_freeze 38 = .ok (.iadd, 1) := by decide +kernel
theorem dX0_freeze_39 : decode cX0_freeze 39 = .ok (.invokestatic 117, 3) := by decide +kernel
theorem dX0_freeze_42 : decode cX0_freeze 42 = .ok (.invokestatic 84, 3) := by decide +kernel
theorem dX0_freeze_45 : decode cX0_freeze 45 = .ok (.putfield 21, 3) := by decide +kernel
theorem dX0_freeze_48 : decode cX0_freeze 48 = .ok (.return_, 1) := by decide +kernel
set_option maxRecDepth 20000 in
theorem ggX0_total_X0_servedNext : GoodIn wsX0_total wsX0_servedNext := goodIn_r _ [17, 12, 5, 6, 18, 19, 20, 21, 22, 23, 24, 25, 26, 27, 28, 29, 30, 31, 32, 33, 34, 35, 36, 37, 38, 39, 40, 41, 42, 43, 44, 45, 46, 47, 48, 49, 50, 51, 52, 53, 54, 55, 56, 57, 58, 59, 60] (by decide +kernel) (by decide +kernel)
set_option maxRecDepth 20000 in
theorem gX0_total_X0_servedNext : GoodIn wsX0_total (wsV RX0 64 RX0 yX0_servedNext wsX0_servedNext) := goodIn_app (goodIn_of _ (by decide +kernel)) ggX0_total_X0_servedNext
theorem dX0_total_0 : decode cX0_total 0 = .ok (.iload_n 1, 1) := by decide +kernel
theorem dX0_total_1 : decode cX0_total 1 = .ok (.tableswitch 126 0 10 #[59, 64, 69, 74, 79, 84, 92, 100, 108, 116, 121], 59) := by decide +kernel
theorem dX0_total_60 : decode cX0_total 60 = .ok (.aload_n 0, 1) := by decide +kernel
theorem dX0_total_61 : decode cX0_total 61 = .ok (.getfield 9, 3) := by decide +kernel
theorem dX0_total_64 : decode cX0_total 64 = .ok (.ireturn, 1) := by decide +kernel
theorem dX0_total_65 : decode cX0_total 65 = .ok (.aload_n 0, 1) := by decide +kernel
theorem dX0_total_66 : decode cX0_total 66 = .ok (.getfield 15, 3) := by decide +kernel
theorem dX0_total_69 : decode cX0_total 69 = .ok (.ireturn, 1) := by decide +kernel
theorem dX0_total_70 : decode cX0_total 70 = .ok (.aload_n 0, 1) := by decide +kernel
theorem dX0_total_71 : decode cX0_total 71 = .ok (.getfield 18, 3) := by decide +kernel
theorem dX0_total_74 : decode cX0_total 74 = .ok (.ireturn, 1) := by decide +kernel
theorem dX0_total_75 : decode cX0_total 75 = .ok (.aload_n 0, 1) := by decide +kernel
theorem dX0_total_76 : decode cX0_total 76 = .ok (.getfield 21, 3) := by decide +kernel
theorem dX0_total_79 : decode cX0_total 79 = .ok (.ireturn, 1) := by decide +kernel
theorem dX0_total_80 : decode cX0_total 80 = .ok (.aload_n 0, 1) := by decide +kernel
theorem dX0_total_81 : decode cX0_total 81 = .ok (.getfield 24, 3) := by decide +kernel
theorem dX0_total_84 : decode cX0_total 84 = .ok (.ireturn, 1) := by decide +kernel
theorem dX0_total_85 : decode cX0_total 85 = .ok (.aload_n 0, 1) := by decide +kernel
theorem dX0_total_86 : decode cX0_total 86 = .ok (.getfield 37, 3) := by decide +kernel
theorem dX0_total_89 : decode cX0_total 89 = .ok (.getfield 127, 3) := by decide +kernel
theorem dX0_total_92 : decode cX0_total 92 = .ok (.ireturn, 1) := by decide +kernel
theorem dX0_total_93 : decode cX0_total 93 = .ok (.aload_n 0, 1) := by decide +kernel
theorem dX0_total_94 : decode cX0_total 94 = .ok (.getfield 37, 3) := by decide +kernel
theorem dX0_total_97 : decode cX0_total 97 = .ok (.getfield 75, 3) := by decide +kernel
theorem dX0_total_100 : decode cX0_total 100 = .ok (.ireturn, 1) := by decide +kernel
theorem dX0_total_101 : decode cX0_total 101 = .ok (.aload_n 0, 1) := by decide +kernel
theorem dX0_total_102 : decode cX0_total 102 = .ok (.getfield 37, 3) := by decide +kernel
theorem dX0_total_105 : decode cX0_total 105 = .ok (.getfield 78, 3) := by decide +kernel
theorem dX0_total_108 : decode cX0_total 108 = .ok (.ireturn, 1) := by decide +kernel
theorem dX0_total_109 : decode cX0_total 109 = .ok (.aload_n 0, 1) := by decide +kernel
theorem dX0_total_110 : decode cX0_total 110 = .ok (.getfield 37, 3) := by decide +kernel
theorem dX0_total_113 : decode cX0_total 113 = .ok (.getfield 130, 3) := by decide +kernel
theorem dX0_total_116 : decode cX0_total 116 = .ok (.ireturn, 1) := by decide +kernel
theorem dX0_total_117 : decode cX0_total 117 = .ok (.aload_n 0, 1) := by decide +kernel
theorem dX0_total_118 : decode cX0_total 118 = .ok (.getfield 27, 3) := by decide +kernel
theorem dX0_total_121 : decode cX0_total 121 = .ok (.ireturn, 1) := by decide +kernel
theorem dX0_total_122 : decode cX0_total 122 = .ok (.aload_n 0, 1) := by decide +kernel
theorem dX0_total_123 : decode cX0_total 123 = .ok (.getfield 41, 3) := by decide +kernel
theorem dX0_total_126 : decode cX0_total 126 = .ok (.ireturn, 1) := by decide +kernel
theorem dX0_total_127 : decode cX0_total 127 = .ok (.aload_n 0, 1) := by decide +kernel
theorem dX0_total_128 : decode cX0_total 128 = .ok (.invokevirtual 64, 3) := by decide +kernel
theorem dX0_total_131 : decode cX0_total 131 = .ok (.ireturn, 1) := by decide +kernel
set_option maxRecDepth 20000 in
theorem ggX0_factOf_X1_waited : GoodIn wsX0_factOf wsX1_waited := goodIn_r _ [14, 15, 16, 17, 29, 30, 31, 32, 33, 34, 35, 36, 37, 38, 39, 40] (by decide +kernel) (by decide +kernel)
set_option maxRecDepth 20000 in
theorem gX0_factOf_X1_waited : GoodIn wsX0_factOf (wsV RX0 139 RX1 yX1_waited wsX1_waited) := goodIn_app (goodIn_of _ (by decide +kernel)) ggX0_factOf_X1_waited
theorem dX0_factOf_0 : decode cX0_factOf 0 = .ok (.iload_n 2, 1) := by decide +kernel
theorem dX0_factOf_1 : decode cX0_factOf 1 = .ok (.tableswitch 109 0 5 #[39, 49, 59, 69, 79, 92], 39) := by decide +kernel
theorem dX0_factOf_40 : decode cX0_factOf 40 = .ok (.aload_n 0, 1) := by decide +kernel
theorem dX0_factOf_41 : decode cX0_factOf 41 = .ok (.getfield 37, 3) := by decide +kernel
theorem dX0_factOf_44 : decode cX0_factOf 44 = .ok (.getfield 103, 3) := by decide +kernel
theorem dX0_factOf_47 : decode cX0_factOf 47 = .ok (.iload_n 1, 1) := by decide +kernel
theorem dX0_factOf_48 : decode cX0_factOf 48 = .ok (.iaload, 1) := by decide +kernel
theorem dX0_factOf_49 : decode cX0_factOf 49 = .ok (.ireturn, 1) := by decide +kernel
theorem dX0_factOf_50 : decode cX0_factOf 50 = .ok (.aload_n 0, 1) := by decide +kernel
theorem dX0_factOf_51 : decode cX0_factOf 51 = .ok (.getfield 37, 3) := by decide +kernel
theorem dX0_factOf_54 : decode cX0_factOf 54 = .ok (.getfield 106, 3) := by decide +kernel
theorem dX0_factOf_57 : decode cX0_factOf 57 = .ok (.iload_n 1, 1) := by decide +kernel
theorem dX0_factOf_58 : decode cX0_factOf 58 = .ok (.iaload, 1) := by decide +kernel
theorem dX0_factOf_59 : decode cX0_factOf 59 = .ok (.ireturn, 1) := by decide +kernel
theorem dX0_factOf_60 : decode cX0_factOf 60 = .ok (.aload_n 0, 1) := by decide +kernel
theorem dX0_factOf_61 : decode cX0_factOf 61 = .ok (.getfield 37, 3) := by decide +kernel
theorem dX0_factOf_64 : decode cX0_factOf 64 = .ok (.getfield 133, 3) := by decide +kernel
theorem dX0_factOf_67 : decode cX0_factOf 67 = .ok (.iload_n 1, 1) := by decide +kernel
theorem dX0_factOf_68 : decode cX0_factOf 68 = .ok (.iaload, 1) := by decide +kernel
theorem dX0_factOf_69 : decode cX0_factOf 69 = .ok (.ireturn, 1) := by decide +kernel
theorem dX0_factOf_70 : decode cX0_factOf 70 = .ok (.aload_n 0, 1) := by decide +kernel
theorem dX0_factOf_71 : decode cX0_factOf 71 = .ok (.getfield 37, 3) := by decide +kernel
theorem dX0_factOf_74 : decode cX0_factOf 74 = .ok (.getfield 136, 3) := by decide +kernel
theorem dX0_factOf_77 : decode cX0_factOf 77 = .ok (.iload_n 1, 1) := by decide +kernel
theorem dX0_factOf_78 : decode cX0_factOf 78 = .ok (.iaload, 1) := by decide +kernel
theorem dX0_factOf_79 : decode cX0_factOf 79 = .ok (.ireturn, 1) := by decide +kernel
theorem dX0_factOf_80 : decode cX0_factOf 80 = .ok (.aload_n 0, 1) := by decide +kernel
theorem dX0_factOf_81 : decode cX0_factOf 81 = .ok (.getfield 37, 3) := by decide +kernel
theorem dX0_factOf_84 : decode cX0_factOf 84 = .ok (.iload_n 1, 1) := by decide +kernel
theorem dX0_factOf_85 : decode cX0_factOf 85 = .ok (.aload_n 0, 1) := by decide +kernel
theorem dX0_factOf_86 : decode cX0_factOf 86 = .ok (.getfield 9, 3) := by decide +kernel
theorem dX0_factOf_89 : decode cX0_factOf 89 = .ok (.invokevirtual 139, 3) := by decide +kernel
theorem dX0_factOf_92 : decode cX0_factOf 92 = .ok (.ireturn, 1) := by decide +kernel
theorem dX0_factOf_93 : decode cX0_factOf 93 = .ok (.iload_n 1, 1) := by decide +kernel
theorem dX0_factOf_94 : decode cX0_factOf 94 = .ok (.aload_n 0, 1) := by decide +kernel
theorem dX0_factOf_95 : decode cX0_factOf 95 = .ok (.getfield 41, 3) := by decide +kernel
theorem dX0_factOf_98 : decode cX0_factOf 98 = .ok (.if_icmp .ne 10, 3) := by decide +kernel
theorem dX0_factOf_101 : decode cX0_factOf 101 = .ok (.aload_n 0, 1) := by decide +kernel
theorem dX0_factOf_102 : decode cX0_factOf 102 = .ok (.getfield 44, 3) := by decide +kernel
theorem dX0_factOf_105 : decode cX0_factOf 105 = .ok (.goto 4, 3) := by decide +kernel
theorem dX0_factOf_108 : decode cX0_factOf 108 = .ok (.iconst 0, 1) := by decide +kernel
theorem dX0_factOf_109 : decode cX0_factOf 109 = .ok (.ireturn, 1) := by decide +kernel
theorem dX0_factOf_110 : decode cX0_factOf 110 = .ok (.aload_n 0, 1) := by decide +kernel
theorem dX0_factOf_111 : decode cX0_factOf 111 = .ok (.getfield 37, 3) := by decide +kernel
theorem dX0_factOf_114 : decode cX0_factOf 114 = .ok (.getfield 142, 3) := by decide +kernel
theorem dX0_factOf_117 : decode cX0_factOf 117 = .ok (.iload_n 1, 1) := by decide +kernel
theorem dX0_factOf_118 : decode cX0_factOf 118 = .ok (.iaload, 1) := by decide +kernel
theorem dX0_factOf_119 : decode cX0_factOf 119 = .ok (.ireturn, 1) := by decide +kernel
theorem dX1_init_0 : decode cX1_init 0 = .ok (.aload_n 0, 1) := by decide +kernel
theorem dX1_init_1 : decode cX1_init 1 = .ok (.invokespecial 3, 3) := by decide +kernel
theorem dX1_init_4 : decode cX1_init 4 = .ok (.aload_n 0, 1) := by decide +kernel
theorem dX1_init_5 : decode cX1_init 5 = .ok (.iconst 0, 1) := by decide +kernel
theorem dX1_init_6 : decode cX1_init 6 = .ok (.putfield 9, 3) := by decide +kernel
theorem dX1_init_9 : decode cX1_init 9 = .ok (.aload_n 0, 1) := by decide +kernel
theorem dX1_init_10 : decode cX1_init 10 = .ok (.iconst 0, 1) := by decide +kernel
theorem dX1_init_11 : decode cX1_init 11 = .ok (.putfield 15, 3) := by decide +kernel
theorem dX1_init_14 : decode cX1_init 14 = .ok (.aload_n 0, 1) := by decide +kernel
theorem dX1_init_15 : decode cX1_init 15 = .ok (.iconst 0, 1) := by decide +kernel
theorem dX1_init_16 : decode cX1_init 16 = .ok (.putfield 18, 3) := by decide +kernel
theorem dX1_init_19 : decode cX1_init 19 = .ok (.aload_n 0, 1) := by decide +kernel
theorem dX1_init_20 : decode cX1_init 20 = .ok (.iconst 0, 1) := by decide +kernel
theorem dX1_init_21 : decode cX1_init 21 = .ok (.putfield 21, 3) := by decide +kernel
theorem dX1_init_24 : decode cX1_init 24 = .ok (.aload_n 0, 1) := by decide +kernel
theorem dX1_init_25 : decode cX1_init 25 = .ok (.bipush 40, 2) := by decide +kernel
theorem dX1_init_27 : decode cX1_init 27 = .ok (.newarray .int, 2) := by decide +kernel
theorem dX1_init_29 : decode cX1_init 29 = .ok (.putfield 24, 3) := by decide +kernel
theorem dX1_init_32 : decode cX1_init 32 = .ok (.aload_n 0, 1) := by decide +kernel
theorem dX1_init_33 : decode cX1_init 33 = .ok (.bipush 40, 2) := by decide +kernel
theorem dX1_init_35 : decode cX1_init 35 = .ok (.newarray .int, 2) := by decide +kernel
theorem dX1_init_37 : decode cX1_init 37 = .ok (.putfield 28, 3) := by decide +kernel
theorem dX1_init_40 : decode cX1_init 40 = .ok (.aload_n 0, 1) := by decide +kernel
theorem dX1_init_41 : decode cX1_init 41 = .ok (.bipush 40, 2) := by decide +kernel
theorem dX1_init_43 : decode cX1_init 43 = .ok (.newarray .int, 2) := by decide +kernel
theorem dX1_init_45 : decode cX1_init 45 = .ok (.putfield 31, 3) := by decide +kernel
theorem dX1_init_48 : decode cX1_init 48 = .ok (.aload_n 0, 1) := by decide +kernel
theorem dX1_init_49 : decode cX1_init 49 = .ok (.bipush 40, 2) := by decide +kernel
theorem dX1_init_51 : decode cX1_init 51 = .ok (.newarray .int, 2) := by decide +kernel
theorem dX1_init_53 : decode cX1_init 53 = .ok (.putfield 34, 3) := by decide +kernel
theorem dX1_init_56 : decode cX1_init 56 = .ok (.aload_n 0, 1) := by decide +kernel
theorem dX1_init_57 : decode cX1_init 57 = .ok (.bipush 40, 2) := by decide +kernel
theorem dX1_init_59 : decode cX1_init 59 = .ok (.newarray .int, 2) := by decide +kernel
theorem dX1_init_61 : decode cX1_init 61 = .ok (.putfield 37, 3) := by decide +kernel
theorem dX1_init_64 : decode cX1_init 64 = .ok (.aload_n 0, 1) := by decide +kernel
theorem dX1_init_65 : decode cX1_init 65 = .ok (.bipush 40, 2) := by decide +kernel
theorem dX1_init_67 : decode cX1_init 67 = .ok (.newarray .int, 2) := by decide +kernel
theorem dX1_init_69 : decode cX1_init 69 = .ok (.putfield 40, 3) := by decide +kernel
theorem dX1_init_72 : decode cX1_init 72 = .ok (.aload_n 0, 1) := by decide +kernel
theorem dX1_init_73 : decode cX1_init 73 = .ok (.iconst (-1), 1) := by decide +kernel
theorem dX1_init_74 : decode cX1_init 74 = .ok (.putfield 43, 3) := by decide +kernel
theorem dX1_init_77 : decode cX1_init 77 = .ok (.aload_n 0, 1) := by decide +kernel
theorem dX1_init_78 : decode cX1_init 78 = .ok (.iconst (-1), 1) := by decide +kernel
theorem dX1_init_79 : decode cX1_init 79 = .ok (.putfield 46, 3) := by decide +kernel
theorem dX1_init_82 : decode cX1_init 82 = .ok (.return_, 1) := by decide +kernel
theorem dX1_copyFrom_0 : decode cX1_copyFrom 0 = .ok (.aload_n 0, 1) := by decide +kernel
theorem dX1_copyFrom_1 : decode cX1_copyFrom 1 = .ok (.aload_n 1, 1) := by decide +kernel
theorem dX1_copyFrom_2 : decode cX1_copyFrom 2 = .ok (.getfield 9, 3) := by decide +kernel
theorem dX1_copyFrom_5 : decode cX1_copyFrom 5 = .ok (.putfield 9, 3) := by decide +kernel
theorem dX1_copyFrom_8 : decode cX1_copyFrom 8 = .ok (.aload_n 0, 1) := by decide +kernel
theorem dX1_copyFrom_9 : decode cX1_copyFrom 9 = .ok (.aload_n 1, 1) := by decide +kernel
theorem dX1_copyFrom_10 : decode cX1_copyFrom 10 = .ok (.getfield 15, 3) := by decide +kernel
theorem dX1_copyFrom_13 : decode cX1_copyFrom 13 = .ok (.putfield 15, 3) := by decide +kernel
theorem dX1_copyFrom_16 : decode cX1_copyFrom 16 = .ok (.aload_n 0, 1) := by decide +kernel
theorem dX1_copyFrom_17 : decode cX1_copyFrom 17 = .ok (.aload_n 1, 1) := by decide +kernel
theorem dX1_copyFrom_18 : decode cX1_copyFrom 18 = .ok (.getfield 18, 3) := by decide +kernel
theorem dX1_copyFrom_21 : decode cX1_copyFrom 21 = .ok (.putfield 18, 3) := by decide +kernel
theorem dX1_copyFrom_24 : decode cX1_copyFrom 24 = .ok (.aload_n 0, 1) := by decide +kernel
theorem dX1_copyFrom_25 : decode cX1_copyFrom 25 = .ok (.aload_n 1, 1) := by decide +kernel
theorem dX1_copyFrom_26 : decode cX1_copyFrom 26 = .ok (.getfield 21, 3) := by decide +kernel
theorem dX1_copyFrom_29 : decode cX1_copyFrom 29 = .ok (.putfield 21, 3) := by decide +kernel
theorem dX1_copyFrom_32 : decode cX1_copyFrom 32 = .ok (.aload_n 1, 1) := by decide +kernel
theorem dX1_copyFrom_33 : decode cX1_copyFrom 33 = .ok (.getfield 24, 3) := by decide +kernel
theorem dX1_copyFrom_36 : decode cX1_copyFrom 36 = .ok (.iconst 0, 1) := by decide +kernel
theorem dX1_copyFrom_37 : decode cX1_copyFrom 37 = .ok (.aload_n 0, 1) := by decide +kernel
theorem dX1_copyFrom_38 : decode cX1_copyFrom 38 = .ok (.getfield 24, 3) := by decide +kernel
theorem dX1_copyFrom_41 : decode cX1_copyFrom 41 = .ok (.iconst 0, 1) := by decide +kernel
theorem dX1_copyFrom_42 : decode cX1_copyFrom 42 = .ok (.bipush 40, 2) := by decide +kernel
theorem dX1_copyFrom_44 : decode cX1_copyFrom 44 = .ok (.invokestatic 49, 3) := by decide +kernel
theorem dX1_copyFrom_47 : decode cX1_copyFrom 47 = .ok (.aload_n 1, 1) := by decide +kernel
theorem dX1_copyFrom_48 : decode cX1_copyFrom 48 = .ok (.getfield 28, 3) := by decide +kernel
theorem dX1_copyFrom_51 : decode cX1_copyFrom 51 = .ok (.iconst 0, 1) := by decide +kernel
theorem dX1_copyFrom_52 : decode cX1_copyFrom 52 = .ok (.aload_n 0, 1) := by decide +kernel
theorem dX1_copyFrom_53 : decode cX1_copyFrom 53 = .ok (.getfield 28, 3) := by decide +kernel
theorem dX1_copyFrom_56 : decode cX1_copyFrom 56 = .ok (.iconst 0, 1) := by decide +kernel
theorem dX1_copyFrom_57 : decode cX1_copyFrom 57 = .ok (.bipush 40, 2) := by decide +kernel
theorem dX1_copyFrom_59 : decode cX1_copyFrom 59 = .ok (.invokestatic 49, 3) := by decide +kernel
theorem dX1_copyFrom_62 : decode cX1_copyFrom 62 = .ok (.aload_n 1, 1) := by decide +kernel
theorem dX1_copyFrom_63 : decode cX1_copyFrom 63 = .ok (.getfield 31, 3) := by decide +kernel
theorem dX1_copyFrom_66 : decode cX1_copyFrom 66 = .ok (.iconst 0, 1) := by decide +kernel
theorem dX1_copyFrom_67 : decode cX1_copyFrom 67 = .ok (.aload_n 0, 1) := by decide +kernel
theorem dX1_copyFrom_68 : decode cX1_copyFrom 68 = .ok (.getfield 31, 3) := by decide +kernel
theorem dX1_copyFrom_71 : decode cX1_copyFrom 71 = .ok (.iconst 0, 1) := by decide +kernel
theorem dX1_copyFrom_72 : decode cX1_copyFrom 72 = .ok (.bipush 40, 2) := by decide +kernel
theorem dX1_copyFrom_74 : decode cX1_copyFrom 74 = .ok (.invokestatic 49, 3) := by decide +kernel
theorem dX1_copyFrom_77 : decode cX1_copyFrom 77 = .ok (.aload_n 1, 1) := by decide +kernel
theorem dX1_copyFrom_78 : decode cX1_copyFrom 78 = .ok (.getfield 34, 3) := by decide +kernel
theorem dX1_copyFrom_81 : decode cX1_copyFrom 81 = .ok (.iconst 0, 1) := by decide +kernel
theorem dX1_copyFrom_82 : decode cX1_copyFrom 82 = .ok (.aload_n 0, 1) := by decide +kernel
theorem dX1_copyFrom_83 : decode cX1_copyFrom 83 = .ok (.getfield 34, 3) := by decide +kernel
theorem dX1_copyFrom_86 : decode cX1_copyFrom 86 = .ok (.iconst 0, 1) := by decide +kernel
theorem dX1_copyFrom_87 : decode cX1_copyFrom 87 = .ok (.bipush 40, 2) := by decide +kernel
theorem dX1_copyFrom_89 : decode cX1_copyFrom 89 = .ok (.invokestatic 49, 3) := by decide +kernel
theorem dX1_copyFrom_92 : decode cX1_copyFrom 92 = .ok (.aload_n 1, 1) := by decide +kernel
theorem dX1_copyFrom_93 : decode cX1_copyFrom 93 = .ok (.getfield 37, 3) := by decide +kernel
theorem dX1_copyFrom_96 : decode cX1_copyFrom 96 = .ok (.iconst 0, 1) := by decide +kernel
theorem dX1_copyFrom_97 : decode cX1_copyFrom 97 = .ok (.aload_n 0, 1) := by decide +kernel
theorem dX1_copyFrom_98 : decode cX1_copyFrom 98 = .ok (.getfield 37, 3) := by decide +kernel
theorem dX1_copyFrom_101 : decode cX1_copyFrom 101 = .ok (.iconst 0, 1) := by decide +kernel
theorem dX1_copyFrom_102 : decode cX1_copyFrom 102 = .ok (.bipush 40, 2) := by decide +kernel
theorem dX1_copyFrom_104 : decode cX1_copyFrom 104 = .ok (.invokestatic 49, 3) := by decide +kernel
theorem dX1_copyFrom_107 : decode cX1_copyFrom 107 = .ok (.aload_n 1, 1) := by decide +kernel
theorem dX1_copyFrom_108 : decode cX1_copyFrom 108 = .ok (.getfield 40, 3) := by decide +kernel
theorem dX1_copyFrom_111 : decode cX1_copyFrom 111 = .ok (.iconst 0, 1) := by decide +kernel
theorem dX1_copyFrom_112 : decode cX1_copyFrom 112 = .ok (.aload_n 0, 1) := by decide +kernel
theorem dX1_copyFrom_113 : decode cX1_copyFrom 113 = .ok (.getfield 40, 3) := by decide +kernel
theorem dX1_copyFrom_116 : decode cX1_copyFrom 116 = .ok (.iconst 0, 1) := by decide +kernel
theorem dX1_copyFrom_117 : decode cX1_copyFrom 117 = .ok (.bipush 40, 2) := by decide +kernel
theorem dX1_copyFrom_119 : decode cX1_copyFrom 119 = .ok (.invokestatic 49, 3) := by decide +kernel
theorem dX1_copyFrom_122 : decode cX1_copyFrom 122 = .ok (.aload_n 0, 1) := by decide +kernel
theorem dX1_copyFrom_123 : decode cX1_copyFrom 123 = .ok (.aload_n 1, 1) := by decide +kernel
theorem dX1_copyFrom_124 : decode cX1_copyFrom 124 = .ok (.getfield 43, 3) := by decide +kernel
theorem dX1_copyFrom_127 : decode cX1_copyFrom 127 = .ok (.putfield 43, 3) := by decide +kernel
theorem dX1_copyFrom_130 : decode cX1_copyFrom 130 = .ok (.aload_n 0, 1) := by decide +kernel
theorem dX1_copyFrom_131 : decode cX1_copyFrom 131 = .ok (.aload_n 1, 1) := by decide +kernel
theorem dX1_copyFrom_132 : decode cX1_copyFrom 132 = .ok (.getfield 46, 3) := by decide +kernel
theorem dX1_copyFrom_135 : decode cX1_copyFrom 135 = .ok (.putfield 46, 3) := by decide +kernel
theorem dX1_copyFrom_138 : decode cX1_copyFrom 138 = .ok (.return_, 1) := by decide +kernel
theorem dX1_has_0 : decode cX1_has 0 = .ok (.iload_n 1, 1) := by decide +kernel
theorem dX1_has_1 : decode cX1_has 1 = .ok (.ifCond .lt 15, 3) := by decide +kernel
theorem dX1_has_4 : decode cX1_has 4 = .ok (.iload_n 1, 1) := by decide +kernel
theorem dX1_has_5 : decode cX1_has 5 = .ok (.aload_n 0, 1) := by decide +kernel
theorem dX1_has_6 : decode cX1_has 6 = .ok (.getfield 9, 3) := by decide +kernel
theorem dX1_has_9 : decode cX1_has 9 = .ok (.if_icmp .ge 7, 3) := by decide +kernel
theorem dX1_has_12 : decode cX1_has 12 = .ok (.iconst 1, 1) := by decide +kernel
theorem dX1_has_13 : decode cX1_has 13 = .ok (.goto 4, 3) := by decide +kernel
theorem dX1_has_16 : decode cX1_has 16 = .ok (.iconst 0, 1) := by decide +kernel
theorem dX1_has_17 : decode cX1_has 17 = .ok (.ireturn, 1) := by decide +kernel
set_option maxRecDepth 20000 in
theorem ggX1_add_X1_seeWhoWaits : GoodIn wsX1_add wsX1_seeWhoWaits := goodIn_r _ [11, 12, 13, 14, 15, 1, 4, 2, 16, 17, 18, 19, 20, 21, 22, 23, 24, 25, 26, 27] (by decide +kernel) (by decide +kernel)
set_option maxRecDepth 20000 in
theorem gX1_add_X1_seeWhoWaits : GoodIn wsX1_add (wsV RX1 55 RX1 yX1_seeWhoWaits wsX1_seeWhoWaits) := goodIn_app (goodIn_of _ (by decide +kernel)) ggX1_add_X1_seeWhoWaits
theorem dX1_add_0 : decode cX1_add 0 = .ok (.aload_n 0, 1) := by decide +kernel
theorem dX1_add_1 : decode cX1_add 1 = .ok (.getfield 9, 3) := by decide +kernel
theorem dX1_add_4 : decode cX1_add 4 = .ok (.istore 4, 2) := by decide +kernel
theorem dX1_add_6 : decode cX1_add 6 = .ok (.aload_n 0, 1) := by decide +kernel
theorem dX1_add_7 : decode cX1_add 7 = .ok (.getfield 24, 3) := by decide +kernel
theorem dX1_add_10 : decode cX1_add 10 = .ok (.iload 4, 2) := by decide +kernel
theorem dX1_add_12 : decode cX1_add 12 = .ok (.iload_n 1, 1) := by decide +kernel
theorem dX1_add_13 : decode cX1_add 13 = .ok (.ifCond .eq 7, 3) := by decide +kernel
theorem dX1_add_16 : decode cX1_add 16 = .ok (.iconst 1, 1) := by decide +kernel
theorem dX1_add_17 : decode cX1_add 17 = .ok (.goto 4, 3) := by decide +kernel
theorem dX1_add_20 : decode cX1_add 20 = .ok (.iconst 0, 1) := by decide +kernel
theorem dX1_add_21 : decode cX1_add 21 = .ok (.iastore, 1) := by decide +kernel
theorem dX1_add_22 : decode cX1_add 22 = .ok (.aload_n 0, 1) := by decide +kernel
theorem dX1_add_23 : decode cX1_add 23 = .ok (.getfield 28, 3) := by decide +kernel
theorem dX1_add_26 : decode cX1_add 26 = .ok (.iload 4, 2) := by decide +kernel
theorem dX1_add_28 : decode cX1_add 28 = .ok (.iload_n 2, 1) := by decide +kernel
theorem dX1_add_29 : decode cX1_add 29 = .ok (.iastore, 1) := by decide +kernel
theorem dX1_add_30 : decode cX1_add 30 = .ok (.aload_n 0, 1) := by decide +kernel
theorem dX1_add_31 : decode cX1_add 31 = .ok (.getfield 31, 3) := by decide +kernel
theorem dX1_add_34 : decode cX1_add 34 = .ok (.iload 4, 2) := by decide +kernel
theorem dX1_add_36 : decode cX1_add 36 = .ok (.iconst 0, 1) := by decide +kernel
theorem dX1_add_37 : decode cX1_add 37 = .ok (.iastore, 1) := by decide +kernel
theorem dX1_add_38 : decode cX1_add 38 = .ok (.aload_n 0, 1) := by decide +kernel
theorem dX1_add_39 : decode cX1_add 39 = .ok (.getfield 34, 3) := by decide +kernel
theorem dX1_add_42 : decode cX1_add 42 = .ok (.iload 4, 2) := by decide +kernel
theorem dX1_add_44 : decode cX1_add 44 = .ok (.iload_n 3, 1) := by decide +kernel
theorem dX1_add_45 : decode cX1_add 45 = .ok (.iastore, 1) := by decide +kernel
theorem dX1_add_46 : decode cX1_add 46 = .ok (.aload_n 0, 1) := by decide +kernel
theorem dX1_add_47 : decode cX1_add 47 = .ok (.getfield 37, 3) := by decide +kernel
theorem dX1_add_50 : decode cX1_add 50 = .ok (.iload 4, 2) := by decide +kernel
theorem dX1_add_52 : decode cX1_add 52 = .ok (.iconst (-1), 1) := by decide +kernel
theorem dX1_add_53 : decode cX1_add 53 = .ok (.iastore, 1) := by decide +kernel
theorem dX1_add_54 : decode cX1_add 54 = .ok (.aload_n 0, 1) := by decide +kernel
theorem dX1_add_55 : decode cX1_add 55 = .ok (.dup, 1) := by decide +kernel
theorem dX1_add_56 : decode cX1_add 56 = .ok (.getfield 9, 3) := by decide +kernel
theorem dX1_add_59 : decode cX1_add 59 = .ok (.iconst 1, 1) := by decide +kernel
theorem dX1_add_60 : decode cX1_add 60 = .ok (.iadd, 1) := by decide +kernel
theorem dX1_add_61 : decode cX1_add 61 = .ok (.putfield 9, 3) := by decide +kernel
theorem dX1_add_64 : decode cX1_add 64 = .ok (.aload_n 0, 1) := by decide +kernel
theorem dX1_add_65 : decode cX1_add 65 = .ok (.invokevirtual 55, 3) := by decide +kernel
theorem dX1_add_68 : decode cX1_add 68 = .ok (.iload 4, 2) := by decide +kernel
theorem dX1_add_70 : decode cX1_add 70 = .ok (.ireturn, 1) := by decide +kernel
set_option maxRecDepth 20000 in
theorem ggX1_endWait_X1_seeWhoWaits : GoodIn wsX1_endWait wsX1_seeWhoWaits := goodIn_r _ [7, 8, 9, 10, 11, 12, 1, 13, 14, 15, 16, 17, 18, 19, 20, 21, 22, 23, 24, 25] (by decide +kernel) (by decide +kernel)
set_option maxRecDepth 20000 in
theorem gX1_endWait_X1_seeWhoWaits : GoodIn wsX1_endWait (wsV RX1 55 RX1 yX1_seeWhoWaits wsX1_seeWhoWaits) := goodIn_app (goodIn_of _ (by decide +kernel)) ggX1_endWait_X1_seeWhoWaits
theorem dX1_endWait_0 : decode cX1_endWait 0 = .ok (.aload_n 0, 1) := by decide +kernel
theorem dX1_endWait_1 : decode cX1_endWait 1 = .ok (.getfield 31, 3) := by decide +kernel
theorem dX1_endWait_4 : decode cX1_endWait 4 = .ok (.iload_n 1, 1) := by decide +kernel
theorem dX1_endWait_5 : decode cX1_endWait 5 = .ok (.iload_n 2, 1) := by decide +kernel
theorem dX1_endWait_6 : decode cX1_endWait 6 = .ok (.iastore, 1) := by decide +kernel
theorem dX1_endWait_7 : decode cX1_endWait 7 = .ok (.aload_n 0, 1) := by decide +kernel
theorem dX1_endWait_8 : decode cX1_endWait 8 = .ok (.getfield 40, 3) := by decide +kernel
theorem dX1_endWait_11 : decode cX1_endWait 11 = .ok (.iload_n 1, 1) := by decide +kernel
theorem dX1_endWait_12 : decode cX1_endWait 12 = .ok (.iload_n 3, 1) := by decide +kernel
theorem dX1_endWait_13 : decode cX1_endWait 13 = .ok (.iastore, 1) := by decide +kernel
theorem dX1_endWait_14 : decode cX1_endWait 14 = .ok (.aload_n 0, 1) := by decide +kernel
theorem dX1_endWait_15 : decode cX1_endWait 15 = .ok (.invokevirtual 55, 3) := by decide +kernel
theorem dX1_endWait_18 : decode cX1_endWait 18 = .ok (.return_, 1) := by decide +kernel
theorem dX1_endPassage_0 : decode cX1_endPassage 0 = .ok (.aload_n 0, 1) := by decide +kernel
theorem dX1_endPassage_1 : decode cX1_endPassage 1 = .ok (.getfield 31, 3) := by decide +kernel
theorem dX1_endPassage_4 : decode cX1_endPassage 4 = .ok (.iload_n 1, 1) := by decide +kernel
theorem dX1_endPassage_5 : decode cX1_endPassage 5 = .ok (.iconst 2, 1) := by decide +kernel
theorem dX1_endPassage_6 : decode cX1_endPassage 6 = .ok (.iastore, 1) := by decide +kernel
theorem dX1_endPassage_7 : decode cX1_endPassage 7 = .ok (.aload_n 0, 1) := by decide +kernel
theorem dX1_endPassage_8 : decode cX1_endPassage 8 = .ok (.getfield 37, 3) := by decide +kernel
theorem dX1_endPassage_11 : decode cX1_endPassage 11 = .ok (.iload_n 1, 1) := by decide +kernel
theorem dX1_endPassage_12 : decode cX1_endPassage 12 = .ok (.iload_n 2, 1) := by decide +kernel
theorem dX1_endPassage_13 : decode cX1_endPassage 13 = .ok (.iastore, 1) := by decide +kernel
theorem dX1_endPassage_14 : decode cX1_endPassage 14 = .ok (.aload_n 0, 1) := by decide +kernel
theorem dX1_endPassage_15 : decode cX1_endPassage 15 = .ok (.dup, 1) := by decide +kernel
theorem dX1_endPassage_16 : decode cX1_endPassage 16 = .ok (.getfield 15, 3) := by decide +kernel
theorem dX1_endPassage_19 : decode cX1_endPassage 19 = .ok (.iconst 1, 1) := by decide +kernel
theorem dX1_endPassage_20 : decode cX1_endPassage 20 = .ok (.iadd, 1) := by decide +kernel
theorem dX1_endPassage_21 : decode cX1_endPassage 21 = .ok (.putfield 15, 3) := by decide +kernel
theorem dX1_endPassage_24 : decode cX1_endPassage 24 = .ok (.return_, 1) := by decide +kernel
theorem dX1_waited_0 : decode cX1_waited 0 = .ok (.aload_n 0, 1) := by decide +kernel
theorem dX1_waited_1 : decode cX1_waited 1 = .ok (.getfield 31, 3) := by decide +kernel
theorem dX1_waited_4 : decode cX1_waited 4 = .ok (.iload_n 1, 1) := by decide +kernel
theorem dX1_waited_5 : decode cX1_waited 5 = .ok (.iaload, 1) := by decide +kernel
theorem dX1_waited_6 : decode cX1_waited 6 = .ok (.ifCond .ne 7, 3) := by decide +kernel
theorem dX1_waited_9 : decode cX1_waited 9 = .ok (.iload_n 2, 1) := by decide +kernel
theorem dX1_waited_10 : decode cX1_waited 10 = .ok (.goto 9, 3) := by decide +kernel
theorem dX1_waited_13 : decode cX1_waited 13 = .ok (.aload_n 0, 1) := by decide +kernel
theorem dX1_waited_14 : decode cX1_waited 14 = .ok (.getfield 40, 3) := by decide +kernel
theorem dX1_waited_17 : decode cX1_waited 17 = .ok (.iload_n 1, 1) := by decide +kernel
theorem dX1_waited_18 : decode cX1_waited 18 = .ok (.iaload, 1) := by decide +kernel
theorem dX1_waited_19 : decode cX1_waited 19 = .ok (.istore_n 3, 1) := by decide +kernel
theorem dX1_waited_20 : decode cX1_waited 20 = .ok (.iload_n 3, 1) := by decide +kernel
theorem dX1_waited_21 : decode cX1_waited 21 = .ok (.aload_n 0, 1) := by decide +kernel
theorem dX1_waited_22 : decode cX1_waited 22 = .ok (.getfield 34, 3) := by decide +kernel
theorem dX1_waited_25 : decode cX1_waited 25 = .ok (.iload_n 1, 1) := by decide +kernel
theorem dX1_waited_26 : decode cX1_waited 26 = .ok (.iaload, 1) := by decide +kernel
theorem dX1_waited_27 : decode cX1_waited 27 = .ok (.isub, 1) := by decide +kernel
theorem dX1_waited_28 : decode cX1_waited 28 = .ok (.ireturn, 1) := by decide +kernel
theorem dX1_firstOfAll_0 : decode cX1_firstOfAll 0 = .ok (.aload_n 0, 1) := by decide +kernel
theorem dX1_firstOfAll_1 : decode cX1_firstOfAll 1 = .ok (.getfield 43, 3) := by decide +kernel
theorem dX1_firstOfAll_4 : decode cX1_firstOfAll 4 = .ok (.iconst (-1), 1) := by decide +kernel
theorem dX1_firstOfAll_5 : decode cX1_firstOfAll 5 = .ok (.if_icmp .ne 8, 3) := by decide +kernel
theorem dX1_firstOfAll_8 : decode cX1_firstOfAll 8 = .ok (.aload_n 0, 1) := by decide +kernel
theorem dX1_firstOfAll_9 : decode cX1_firstOfAll 9 = .ok (.getfield 46, 3) := by decide +kernel
theorem dX1_firstOfAll_12 : decode cX1_firstOfAll 12 = .ok (.ireturn, 1) := by decide +kernel
theorem dX1_firstOfAll_13 : decode cX1_firstOfAll 13 = .ok (.aload_n 0, 1) := by decide +kernel
theorem dX1_firstOfAll_14 : decode cX1_firstOfAll 14 = .ok (.getfield 46, 3) := by decide +kernel
theorem dX1_firstOfAll_17 : decode cX1_firstOfAll 17 = .ok (.iconst (-1), 1) := by decide +kernel
theorem dX1_firstOfAll_18 : decode cX1_firstOfAll 18 = .ok (.if_icmp .ne 10, 3) := by decide +kernel
theorem dX1_firstOfAll_21 : decode cX1_firstOfAll 21 = .ok (.aload_n 0, 1) := by decide +kernel
theorem dX1_firstOfAll_22 : decode cX1_firstOfAll 22 = .ok (.getfield 43, 3) := by decide +kernel
theorem dX1_firstOfAll_25 : decode cX1_firstOfAll 25 = .ok (.goto 14, 3) := by decide +kernel
theorem dX1_firstOfAll_28 : decode cX1_firstOfAll 28 = .ok (.aload_n 0, 1) := by decide +kernel
theorem dX1_firstOfAll_29 : decode cX1_firstOfAll 29 = .ok (.getfield 43, 3) := by decide +kernel
theorem dX1_firstOfAll_32 : decode cX1_firstOfAll 32 = .ok (.aload_n 0, 1) := by decide +kernel
theorem dX1_firstOfAll_33 : decode cX1_firstOfAll 33 = .ok (.getfield 46, 3) := by decide +kernel
theorem dX1_firstOfAll_36 : decode cX1_firstOfAll 36 = .ok (.invokestatic 58, 3) := by decide +kernel
theorem dX1_firstOfAll_39 : decode cX1_firstOfAll 39 = .ok (.ireturn, 1) := by decide +kernel
theorem dX1_firstBargeElseCart_0 : decode cX1_firstBargeElseCart 0 = .ok (.aload_n 0, 1) := by decide +kernel
theorem dX1_firstBargeElseCart_1 : decode cX1_firstBargeElseCart 1 = .ok (.getfield 43, 3) := by decide +kernel
theorem dX1_firstBargeElseCart_4 : decode cX1_firstBargeElseCart 4 = .ok (.iconst (-1), 1) := by decide +kernel
theorem dX1_firstBargeElseCart_5 : decode cX1_firstBargeElseCart 5 = .ok (.if_icmp .eq 10, 3) := by decide +kernel
theorem dX1_firstBargeElseCart_8 : decode cX1_firstBargeElseCart 8 = .ok (.aload_n 0, 1) := by decide +kernel
theorem dX1_firstBargeElseCart_9 : decode cX1_firstBargeElseCart 9 = .ok (.getfield 43, 3) := by decide +kernel
theorem dX1_firstBargeElseCart_12 : decode cX1_firstBargeElseCart 12 = .ok (.goto 7, 3) := by decide +kernel
theorem dX1_firstBargeElseCart_15 : decode cX1_firstBargeElseCart 15 = .ok (.aload_n 0, 1) := by decide +kernel
theorem dX1_firstBargeElseCart_16 : decode cX1_firstBargeElseCart 16 = .ok (.getfield 46, 3) := by decide +kernel
theorem dX1_firstBargeElseCart_19 : decode cX1_firstBargeElseCart 19 = .ok (.ireturn, 1) := by decide +kernel
theorem dX1_firstCartElseBarge_0 : decode cX1_firstCartElseBarge 0 = .ok (.aload_n 0, 1) := by decide +kernel
theorem dX1_firstCartElseBarge_1 : decode cX1_firstCartElseBarge 1 = .ok (.getfield 46, 3) := by decide +kernel
theorem dX1_firstCartElseBarge_4 : decode cX1_firstCartElseBarge 4 = .ok (.iconst (-1), 1) := by decide +kernel
theorem dX1_firstCartElseBarge_5 : decode cX1_firstCartElseBarge 5 = .ok (.if_icmp .eq 10, 3) := by decide +kernel
theorem dX1_firstCartElseBarge_8 : decode cX1_firstCartElseBarge 8 = .ok (.aload_n 0, 1) := by decide +kernel
theorem dX1_firstCartElseBarge_9 : decode cX1_firstCartElseBarge 9 = .ok (.getfield 46, 3) := by decide +kernel
theorem dX1_firstCartElseBarge_12 : decode cX1_firstCartElseBarge 12 = .ok (.goto 7, 3) := by decide +kernel
theorem dX1_firstCartElseBarge_15 : decode cX1_firstCartElseBarge 15 = .ok (.aload_n 0, 1) := by decide +kernel
theorem dX1_firstCartElseBarge_16 : decode cX1_firstCartElseBarge 16 = .ok (.getfield 43, 3) := by decide +kernel
theorem dX1_firstCartElseBarge_19 : decode cX1_firstCartElseBarge 19 = .ok (.ireturn, 1) := by decide +kernel
theorem dX1_seeWhoWaits_0 : decode cX1_seeWhoWaits 0 = .ok (.aload_n 0, 1) := by decide +kernel
theorem dX1_seeWhoWaits_1 : decode cX1_seeWhoWaits 1 = .ok (.iconst 0, 1) := by decide +kernel
theorem dX1_seeWhoWaits_2 : decode cX1_seeWhoWaits 2 = .ok (.putfield 18, 3) := by decide +kernel
theorem dX1_seeWhoWaits_5 : decode cX1_seeWhoWaits 5 = .ok (.aload_n 0, 1) := by decide +kernel
theorem dX1_seeWhoWaits_6 : decode cX1_seeWhoWaits 6 = .ok (.iconst 0, 1) := by decide +kernel
theorem dX1_seeWhoWaits_7 : decode cX1_seeWhoWaits 7 = .ok (.putfield 21, 3) := by decide +kernel
theorem dX1_seeWhoWaits_10 : decode cX1_seeWhoWaits 10 = .ok (.aload_n 0, 1) := by decide +kernel
theorem dX1_seeWhoWaits_11 : decode cX1_seeWhoWaits 11 = .ok (.iconst (-1), 1) := by decide +kernel
theorem dX1_seeWhoWaits_12 : decode cX1_seeWhoWaits 12 = .ok (.putfield 43, 3) := by decide +kernel
theorem dX1_seeWhoWaits_15 : decode cX1_seeWhoWaits 15 = .ok (.aload_n 0, 1) := by decide +kernel
theorem dX1_seeWhoWaits_16 : decode cX1_seeWhoWaits 16 = .ok (.iconst (-1), 1) := by decide +kernel
theorem dX1_seeWhoWaits_17 : decode cX1_seeWhoWaits 17 = .ok (.putfield 46, 3) := by decide +kernel
theorem dX1_seeWhoWaits_20 : decode cX1_seeWhoWaits 20 = .ok (.aload_n 0, 1) := by decide +kernel
theorem dX1_seeWhoWaits_21 : decode cX1_seeWhoWaits 21 = .ok (.getfield 9, 3) := by decide +kernel
theorem dX1_seeWhoWaits_24 : decode cX1_seeWhoWaits 24 = .ok (.iconst 1, 1) := by decide +kernel
theorem dX1_seeWhoWaits_25 : decode cX1_seeWhoWaits 25 = .ok (.isub, 1) := by decide +kernel
theorem dX1_seeWhoWaits_26 : decode cX1_seeWhoWaits 26 = .ok (.istore_n 1, 1) := by decide +kernel
theorem dX1_seeWhoWaits_27 : decode cX1_seeWhoWaits 27 = .ok (.iload_n 1, 1) := by decide +kernel
theorem dX1_seeWhoWaits_28 : decode cX1_seeWhoWaits 28 = .ok (.ifCond .lt 64, 3) := by decide +kernel
theorem dX1_seeWhoWaits_31 : decode cX1_seeWhoWaits 31 = .ok (.aload_n 0, 1) := by decide +kernel
theorem dX1_seeWhoWaits_32 : decode cX1_seeWhoWaits 32 = .ok (.getfield 31, 3) := by decide +kernel
theorem dX1_seeWhoWaits_35 : decode cX1_seeWhoWaits 35 = .ok (.iload_n 1, 1) := by decide +kernel
theorem dX1_seeWhoWaits_36 : decode cX1_seeWhoWaits 36 = .ok (.iaload, 1) := by decide +kernel
theorem dX1_seeWhoWaits_37 : decode cX1_seeWhoWaits 37 = .ok (.ifCond .eq 6, 3) := by decide +kernel
theorem dX1_seeWhoWaits_40 : decode cX1_seeWhoWaits 40 = .ok (.goto 46, 3) := by decide +kernel
theorem dX1_seeWhoWaits_43 : decode cX1_seeWhoWaits 43 = .ok (.aload_n 0, 1) := by decide +kernel
theorem dX1_seeWhoWaits_44 : decode cX1_seeWhoWaits 44 = .ok (.getfield 24, 3) := by decide +kernel
theorem dX1_seeWhoWaits_47 : decode cX1_seeWhoWaits 47 = .ok (.iload_n 1, 1) := by decide +kernel
theorem dX1_seeWhoWaits_48 : decode cX1_seeWhoWaits 48 = .ok (.iaload, 1) := by decide +kernel
theorem dX1_seeWhoWaits_49 : decode cX1_seeWhoWaits 49 = .ok (.iconst 1, 1) := by decide +kernel
theorem dX1_seeWhoWaits_50 : decode cX1_seeWhoWaits 50 = .ok (.if_icmp .ne 21, 3) := by decide +kernel
theorem dX1_seeWhoWaits_53 : decode cX1_seeWhoWaits 53 = .ok (.aload_n 0, 1) := by decide +kernel
theorem dX1_seeWhoWaits_54 : decode cX1_seeWhoWaits 54 = .ok (.dup, 1) := by decide +kernel
theorem dX1_seeWhoWaits_55 : decode cX1_seeWhoWaits 55 = .ok (.getfield 18, 3) := by decide +kernel
theorem dX1_seeWhoWaits_58 : decode cX1_seeWhoWaits 58 = .ok (.iconst 1, 1) := by decide +kernel
theorem dX1_seeWhoWaits_59 : decode cX1_seeWhoWaits 59 = .ok (.iadd, 1) := by decide +kernel
theorem dX1_seeWhoWaits_60 : decode cX1_seeWhoWaits 60 = .ok (.putfield 18, 3) := by decide +kernel
theorem dX1_seeWhoWaits_63 : decode cX1_seeWhoWaits 63 = .ok (.aload_n 0, 1) := by decide +kernel
theorem dX1_seeWhoWaits_64 : decode cX1_seeWhoWaits 64 = .ok (.iload_n 1, 1) := by decide +kernel
theorem dX1_seeWhoWaits_65 : decode cX1_seeWhoWaits 65 = .ok (.putfield 43, 3) := by decide +kernel
theorem dX1_seeWhoWaits_68 : decode cX1_seeWhoWaits 68 = .ok (.goto 18, 3) := by decide +kernel
theorem dX1_seeWhoWaits_71 : decode cX1_seeWhoWaits 71 = .ok (.aload_n 0, 1) := by decide +kernel
theorem dX1_seeWhoWaits_72 : decode cX1_seeWhoWaits 72 = .ok (.dup, 1) := by decide +kernel
theorem dX1_seeWhoWaits_73 : decode cX1_seeWhoWaits 73 = .ok (.getfield 21, 3) := by decide +kernel
theorem dX1_seeWhoWaits_76 : decode cX1_seeWhoWaits 76 = .ok (.iconst 1, 1) := by decide +kernel
theorem dX1_seeWhoWaits_77 : decode cX1_seeWhoWaits 77 = .ok (.iadd, 1) := by decide +kernel
theorem dX1_seeWhoWaits_78 : decode cX1_seeWhoWaits 78 = .ok (.putfield 21, 3) := by decide +kernel
theorem dX1_seeWhoWaits_81 : decode cX1_seeWhoWaits 81 = .ok (.aload_n 0, 1) := by decide +kernel
theorem dX1_seeWhoWaits_82 : decode cX1_seeWhoWaits 82 = .ok (.iload_n 1, 1) := by decide +kernel
theorem dX1_seeWhoWaits_83 : decode cX1_seeWhoWaits 83 = .ok (.putfield 46, 3) := by decide +kernel
theorem dX1_seeWhoWaits_86 : decode cX1_seeWhoWaits 86 = .ok (.iinc 1 (-1), 3) := by decide +kernel
theorem dX1_seeWhoWaits_89 : decode cX1_seeWhoWaits 89 = .ok (.goto (-62), 3) := by decide +kernel
theorem dX1_seeWhoWaits_92 : decode cX1_seeWhoWaits 92 = .ok (.return_, 1) := by decide +kernel
set_option maxRecDepth 20000 in
theorem ggX2_init_X0_init : GoodIn wsX2_init wsX0_init := goodIn_r _ [10, 11, 2, 3, 12, 13, 14, 15, 16, 17, 18, 19, 20, 21, 22, 23, 24, 25, 26, 27, 28, 29, 30, 31, 32, 33, 34, 35, 36, 37, 38, 39, 40, 41, 42, 43, 44, 45, 46, 47, 48, 49, 50, 51, 52, 55, 56, 57, 58, 59, 60, 61, 62, 63, 64, 65, 66] (by decide +kernel) (by decide +kernel)
set_option maxRecDepth 20000 in
theorem gX2_init_X0_init_n9 : GoodIn wsX2_init (wsX0_init) := ggX2_init_X0_init
theorem dX2_init_0 : decode cX2_init 0 = .ok (.aload_n 0, 1) := by decide +kernel
theorem dX2_init_1 : decode cX2_init 1 = .ok (.invokespecial 1, 3) := by decide +kernel
theorem dX2_init_4 : decode cX2_init 4 = .ok (.aload_n 0, 1) := by decide +kernel
theorem dX2_init_5 : decode cX2_init 5 = .ok (.new 7, 3) := by decide +kernel
theorem dX2_init_8 : decode cX2_init 8 = .ok (.dup, 1) := by decide +kernel
theorem dX2_init_9 : decode cX2_init 9 = .ok (.invokespecial 9, 3) := by decide +kernel
theorem dX2_init_12 : decode cX2_init 12 = .ok (.putfield 10, 3) := by decide +kernel
theorem dX2_init_15 : decode cX2_init 15 = .ok (.aload_n 0, 1) := by decide +kernel
theorem dX2_init_16 : decode cX2_init 16 = .ok (.new 7, 3) := by decide +kernel
theorem dX2_init_19 : decode cX2_init 19 = .ok (.dup, 1) := by decide +kernel
theorem dX2_init_20 : decode cX2_init 20 = .ok (.invokespecial 9, 3) := by decide +kernel
theorem dX2_init_23 : decode cX2_init 23 = .ok (.putfield 16, 3) := by decide +kernel
theorem dX2_init_26 : decode cX2_init 26 = .ok (.return_, 1) := by decide +kernel
set_option maxRecDepth 20000 in
theorem ggX2_come_X1_add : GoodIn wsX2_come wsX1_add := goodIn_r _ [13, 14, 15, 16, 17, 18, 19, 20, 21, 22, 12, 23, 24, 25, 26, 27, 41, 42, 43, 44, 45, 46, 47, 48, 49, 50, 51, 52] (by decide +kernel) (by decide +kernel)
set_option maxRecDepth 20000 in
theorem gX2_come_X1_add : GoodIn wsX2_come (wsV RX2 44 RX1 yX1_add wsX1_add) := goodIn_app (goodIn_of _ (by decide +kernel)) ggX2_come_X1_add
theorem dX2_come_0 : decode cX2_come 0 = .ok (.iload_n 2, 1) := by decide +kernel
theorem dX2_come_1 : decode cX2_come 1 = .ok (.iconst 1, 1) := by decide +kernel
theorem dX2_come_2 : decode cX2_come 2 = .ok (.if_icmp .lt 9, 3) := by decide +kernel
theorem dX2_come_5 : decode cX2_come 5 = .ok (.iload_n 2, 1) := by decide +kernel
theorem dX2_come_6 : decode cX2_come 6 = .ok (.bipush 6, 2) := by decide +kernel
theorem dX2_come_8 : decode cX2_come 8 = .ok (.if_icmp .le 13, 3) := by decide +kernel
theorem dX2_come_11 : decode cX2_come 11 = .ok (.new 19, 3) := by decide +kernel
theorem dX2_come_14 : decode cX2_come 14 = .ok (.dup, 1) := by decide +kernel
theorem dX2_come_15 : decode cX2_come 15 = .ok (.ldc 21, 2) := by decide +kernel
theorem dX2_come_17 : decode cX2_come 17 = .ok (.invokespecial 23, 3) := by decide +kernel
theorem dX2_come_20 : decode cX2_come 20 = .ok (.athrow, 1) := by decide +kernel
theorem dX2_come_21 : decode cX2_come 21 = .ok (.aload_n 0, 1) := by decide +kernel
theorem dX2_come_22 : decode cX2_come 22 = .ok (.getfield 10, 3) := by decide +kernel
theorem dX2_come_25 : decode cX2_come 25 = .ok (.getfield 26, 3) := by decide +kernel
theorem dX2_come_28 : decode cX2_come 28 = .ok (.getfield 30, 3) := by decide +kernel
theorem dX2_come_31 : decode cX2_come 31 = .ok (.bipush 40, 2) := by decide +kernel
theorem dX2_come_33 : decode cX2_come 33 = .ok (.if_icmp .lt 13, 3) := by decide +kernel
theorem dX2_come_36 : decode cX2_come 36 = .ok (.new 36, 3) := by decide +kernel
theorem dX2_come_39 : decode cX2_come 39 = .ok (.dup, 1) := by decide +kernel
theorem dX2_come_40 : decode cX2_come 40 = .ok (.ldc 38, 2) := by decide +kernel
theorem dX2_come_42 : decode cX2_come 42 = .ok (.invokespecial 40, 3) := by decide +kernel
theorem dX2_come_45 : decode cX2_come 45 = .ok (.athrow, 1) := by decide +kernel
theorem dX2_come_46 : decode cX2_come 46 = .ok (.aload_n 0, 1) := by decide +kernel
theorem dX2_come_47 : decode cX2_come 47 = .ok (.getfield 10, 3) := by decide +kernel
theorem dX2_come_50 : decode cX2_come 50 = .ok (.getfield 26, 3) := by decide +kernel
theorem dX2_come_53 : decode cX2_come 53 = .ok (.iload_n 1, 1) := by decide +kernel
theorem dX2_come_54 : decode cX2_come 54 = .ok (.iload_n 2, 1) := by decide +kernel
theorem dX2_come_55 : decode cX2_come 55 = .ok (.aload_n 0, 1) := by decide +kernel
theorem dX2_come_56 : decode cX2_come 56 = .ok (.getfield 10, 3) := by decide +kernel
theorem dX2_come_59 : decode cX2_come 59 = .ok (.getfield 41, 3) := by decide +kernel
theorem dX2_come_62 : decode cX2_come 62 = .ok (.invokevirtual 44, 3) := by decide +kernel
theorem dX2_come_65 : decode cX2_come 65 = .ok (.ireturn, 1) := by decide +kernel
set_option maxRecDepth 20000 in
theorem ggX2_leave_X1_has : GoodIn wsX2_leave wsX1_has := goodIn_r _ [13, 14, 48, 49, 50, 51, 52, 53, 54, 55, 56, 57, 58, 59] (by decide +kernel) (by decide +kernel)
set_option maxRecDepth 20000 in
theorem gX2_leave_X1_has : GoodIn wsX2_leave (wsV RX2 48 RX1 yX1_has wsX1_has) := goodIn_app (goodIn_of _ (by decide +kernel)) ggX2_leave_X1_has
set_option maxRecDepth 20000 in
theorem ggX2_leave_X1_endWait : GoodIn wsX2_leave wsX1_endWait := goodIn_r _ [18, 19, 20, 21, 22, 23, 12, 24, 25, 26, 27, 28, 14, 29, 48, 49, 50, 51, 52, 53, 54, 55, 56, 57, 58, 59] (by decide +kernel) (by decide +kernel)
set_option maxRecDepth 20000 in
theorem gX2_leave_X1_endWait : GoodIn wsX2_leave (wsV RX2 63 RX1 yX1_endWait wsX1_endWait) := goodIn_app (goodIn_of _ (by decide +kernel)) ggX2_leave_X1_endWait
set_option maxRecDepth 20000 in
theorem ggX2_leave_X1_waited : GoodIn wsX2_leave wsX1_waited := goodIn_r _ [33, 19, 20, 34, 48, 49, 50, 51, 52, 53, 54, 55, 56, 57, 58, 59] (by decide +kernel) (by decide +kernel)
set_option maxRecDepth 20000 in
theorem gX2_leave_X1_waited : GoodIn wsX2_leave (wsV RX2 67 RX1 yX1_waited wsX1_waited) := goodIn_app (goodIn_of _ (by decide +kernel)) ggX2_leave_X1_waited
theorem dX2_leave_0 : decode cX2_leave 0 = .ok (.aload_n 0, 1) := by decide +kernel
theorem dX2_leave_1 : decode cX2_leave 1 = .ok (.getfield 10, 3) := by decide +kernel
theorem dX2_leave_4 : decode cX2_leave 4 = .ok (.getfield 26, 3) := by decide +kernel
theorem dX2_leave_7 : decode cX2_leave 7 = .ok (.iload_n 1, 1) := by decide +kernel
theorem dX2_leave_8 : decode cX2_leave 8 = .ok (.invokevirtual 48, 3) := by decide +kernel
theorem dX2_leave_11 : decode cX2_leave 11 = .ok (.ifCond .ne 13, 3) := by decide +kernel
theorem dX2_leave_14 : decode cX2_leave 14 = .ok (.new 52, 3) := by decide +kernel
theorem dX2_leave_17 : decode cX2_leave 17 = .ok (.dup, 1) := by decide +kernel
theorem dX2_leave_18 : decode cX2_leave 18 = .ok (.ldc 54, 2) := by decide +kernel
theorem dX2_leave_20 : decode cX2_leave 20 = .ok (.invokespecial 56, 3) := by decide +kernel
theorem dX2_leave_23 : decode cX2_leave 23 = .ok (.athrow, 1) := by decide +kernel
theorem dX2_leave_24 : decode cX2_leave 24 = .ok (.aload_n 0, 1) := by decide +kernel
theorem dX2_leave_25 : decode cX2_leave 25 = .ok (.getfield 10, 3) := by decide +kernel
theorem dX2_leave_28 : decode cX2_leave 28 = .ok (.getfield 26, 3) := by decide +kernel
theorem dX2_leave_31 : decode cX2_leave 31 = .ok (.getfield 57, 3) := by decide +kernel
theorem dX2_leave_34 : decode cX2_leave 34 = .ok (.iload_n 1, 1) := by decide +kernel
theorem dX2_leave_35 : decode cX2_leave 35 = .ok (.iaload, 1) := by decide +kernel
theorem dX2_leave_36 : decode cX2_leave 36 = .ok (.ifCond .eq 13, 3) := by decide +kernel
theorem dX2_leave_39 : decode cX2_leave 39 = .ok (.new 36, 3) := by decide +kernel
theorem dX2_leave_42 : decode cX2_leave 42 = .ok (.dup, 1) := by decide +kernel
theorem dX2_leave_43 : decode cX2_leave 43 = .ok (.ldc 61, 2) := by decide +kernel
theorem dX2_leave_45 : decode cX2_leave 45 = .ok (.invokespecial 40, 3) := by decide +kernel
theorem dX2_leave_48 : decode cX2_leave 48 = .ok (.athrow, 1) := by decide +kernel
theorem dX2_leave_49 : decode cX2_leave 49 = .ok (.aload_n 0, 1) := by decide +kernel
theorem dX2_leave_50 : decode cX2_leave 50 = .ok (.getfield 10, 3) := by decide +kernel
theorem dX2_leave_53 : decode cX2_leave 53 = .ok (.getfield 26, 3) := by decide +kernel
theorem dX2_leave_56 : decode cX2_leave 56 = .ok (.iload_n 1, 1) := by decide +kernel
theorem dX2_leave_57 : decode cX2_leave 57 = .ok (.iconst 3, 1) := by decide +kernel
theorem dX2_leave_58 : decode cX2_leave 58 = .ok (.aload_n 0, 1) := by decide +kernel
theorem dX2_leave_59 : decode cX2_leave 59 = .ok (.getfield 10, 3) := by decide +kernel
theorem dX2_leave_62 : decode cX2_leave 62 = .ok (.getfield 41, 3) := by decide +kernel
theorem dX2_leave_65 : decode cX2_leave 65 = .ok (.invokevirtual 63, 3) := by decide +kernel
theorem dX2_leave_68 : decode cX2_leave 68 = .ok (.aload_n 0, 1) := by decide +kernel
theorem dX2_leave_69 : decode cX2_leave 69 = .ok (.getfield 10, 3) := by decide +kernel
theorem dX2_leave_72 : decode cX2_leave 72 = .ok (.getfield 26, 3) := by decide +kernel
theorem dX2_leave_75 : decode cX2_leave 75 = .ok (.iload_n 1, 1) := by decide +kernel
theorem dX2_leave_76 : decode cX2_leave 76 = .ok (.aload_n 0, 1) := by decide +kernel
theorem dX2_leave_77 : decode cX2_leave 77 = .ok (.getfield 10, 3) := by decide +kernel
theorem dX2_leave_80 : decode cX2_leave 80 = .ok (.getfield 41, 3) := by decide +kernel
theorem dX2_leave_83 : decode cX2_leave 83 = .ok (.invokevirtual 67, 3) := by decide +kernel
theorem dX2_leave_86 : decode cX2_leave 86 = .ok (.ireturn, 1) := by decide +kernel
theorem dX2_ring_0 : decode cX2_ring 0 = .ok (.iload_n 1, 1) := by decide +kernel
theorem dX2_ring_1 : decode cX2_ring 1 = .ok (.ifCond .lt 8, 3) := by decide +kernel
theorem dX2_ring_4 : decode cX2_ring 4 = .ok (.iload_n 1, 1) := by decide +kernel
theorem dX2_ring_5 : decode cX2_ring 5 = .ok (.iconst 4, 1) := by decide +kernel
theorem dX2_ring_6 : decode cX2_ring 6 = .ok (.if_icmp .le 13, 3) := by decide +kernel
theorem dX2_ring_9 : decode cX2_ring 9 = .ok (.new 19, 3) := by decide +kernel
theorem dX2_ring_12 : decode cX2_ring 12 = .ok (.dup, 1) := by decide +kernel
theorem dX2_ring_13 : decode cX2_ring 13 = .ok (.ldc 71, 2) := by decide +kernel
theorem dX2_ring_15 : decode cX2_ring 15 = .ok (.invokespecial 23, 3) := by decide +kernel
theorem dX2_ring_18 : decode cX2_ring 18 = .ok (.athrow, 1) := by decide +kernel
theorem dX2_ring_19 : decode cX2_ring 19 = .ok (.aload_n 0, 1) := by decide +kernel
theorem dX2_ring_20 : decode cX2_ring 20 = .ok (.getfield 10, 3) := by decide +kernel
theorem dX2_ring_23 : decode cX2_ring 23 = .ok (.getfield 73, 3) := by decide +kernel
theorem dX2_ring_26 : decode cX2_ring 26 = .ok (.istore_n 2, 1) := by decide +kernel
theorem dX2_ring_27 : decode cX2_ring 27 = .ok (.aload_n 0, 1) := by decide +kernel
theorem dX2_ring_28 : decode cX2_ring 28 = .ok (.getfield 10, 3) := by decide +kernel
theorem dX2_ring_31 : decode cX2_ring 31 = .ok (.iload_n 1, 1) := by decide +kernel
theorem dX2_ring_32 : decode cX2_ring 32 = .ok (.putfield 73, 3) := by decide +kernel
theorem dX2_ring_35 : decode cX2_ring 35 = .ok (.iload_n 2, 1) := by decide +kernel
theorem dX2_ring_36 : decode cX2_ring 36 = .ok (.ireturn, 1) := by decide +kernel
theorem dX2_poise_0 : decode cX2_poise 0 = .ok (.iload_n 1, 1) := by decide +kernel
theorem dX2_poise_1 : decode cX2_poise 1 = .ok (.ifCond .lt 9, 3) := by decide +kernel
theorem dX2_poise_4 : decode cX2_poise 4 = .ok (.iload_n 1, 1) := by decide +kernel
theorem dX2_poise_5 : decode cX2_poise 5 = .ok (.bipush 30, 2) := by decide +kernel
theorem dX2_poise_7 : decode cX2_poise 7 = .ok (.if_icmp .le 13, 3) := by decide +kernel
theorem dX2_poise_10 : decode cX2_poise 10 = .ok (.new 19, 3) := by decide +kernel
theorem dX2_poise_13 : decode cX2_poise 13 = .ok (.dup, 1) := by decide +kernel
theorem dX2_poise_14 : decode cX2_poise 14 = .ok (.ldc 76, 2) := by decide +kernel
theorem dX2_poise_16 : decode cX2_poise 16 = .ok (.invokespecial 23, 3) := by decide +kernel
theorem dX2_poise_19 : decode cX2_poise 19 = .ok (.athrow, 1) := by decide +kernel
theorem dX2_poise_20 : decode cX2_poise 20 = .ok (.aload_n 0, 1) := by decide +kernel
theorem dX2_poise_21 : decode cX2_poise 21 = .ok (.getfield 10, 3) := by decide +kernel
theorem dX2_poise_24 : decode cX2_poise 24 = .ok (.getfield 78, 3) := by decide +kernel
theorem dX2_poise_27 : decode cX2_poise 27 = .ok (.ifCond .eq 25, 3) := by decide +kernel
theorem dX2_poise_30 : decode cX2_poise 30 = .ok (.aload_n 0, 1) := by decide +kernel
theorem dX2_poise_31 : decode cX2_poise 31 = .ok (.getfield 10, 3) := by decide +kernel
theorem dX2_poise_34 : decode cX2_poise 34 = .ok (.getfield 78, 3) := by decide +kernel
theorem dX2_poise_37 : decode cX2_poise 37 = .ok (.bipush 60, 2) := by decide +kernel
theorem dX2_poise_39 : decode cX2_poise 39 = .ok (.if_icmp .eq 13, 3) := by decide +kernel
theorem dX2_poise_42 : decode cX2_poise 42 = .ok (.new 36, 3) := by decide +kernel
theorem dX2_poise_45 : decode cX2_poise 45 = .ok (.dup, 1) := by decide +kernel
theorem dX2_poise_46 : decode cX2_poise 46 = .ok (.ldc 81, 2) := by decide +kernel
theorem dX2_poise_48 : decode cX2_poise 48 = .ok (.invokespecial 40, 3) := by decide +kernel
theorem dX2_poise_51 : decode cX2_poise 51 = .ok (.athrow, 1) := by decide +kernel
theorem dX2_poise_52 : decode cX2_poise 52 = .ok (.aload_n 0, 1) := by decide +kernel
theorem dX2_poise_53 : decode cX2_poise 53 = .ok (.getfield 10, 3) := by decide +kernel
theorem dX2_poise_56 : decode cX2_poise 56 = .ok (.getfield 83, 3) := by decide +kernel
theorem dX2_poise_59 : decode cX2_poise 59 = .ok (.istore_n 2, 1) := by decide +kernel
theorem dX2_poise_60 : decode cX2_poise 60 = .ok (.aload_n 0, 1) := by decide +kernel
theorem dX2_poise_61 : decode cX2_poise 61 = .ok (.getfield 10, 3) := by decide +kernel
theorem dX2_poise_64 : decode cX2_poise 64 = .ok (.iload_n 1, 1) := by decide +kernel
theorem dX2_poise_65 : decode cX2_poise 65 = .ok (.putfield 83, 3) := by decide +kernel
theorem dX2_poise_68 : decode cX2_poise 68 = .ok (.iload_n 2, 1) := by decide +kernel
theorem dX2_poise_69 : decode cX2_poise 69 = .ok (.ireturn, 1) := by decide +kernel
theorem dX2_setCold_0 : decode cX2_setCold 0 = .ok (.iload_n 1, 1) := by decide +kernel
theorem dX2_setCold_1 : decode cX2_setCold 1 = .ok (.ifCond .lt 9, 3) := by decide +kernel
theorem dX2_setCold_4 : decode cX2_setCold 4 = .ok (.iload_n 1, 1) := by decide +kernel
theorem dX2_setCold_5 : decode cX2_setCold 5 = .ok (.bipush 8, 2) := by decide +kernel
theorem dX2_setCold_7 : decode cX2_setCold 7 = .ok (.if_icmp .lt 13, 3) := by decide +kernel
theorem dX2_setCold_10 : decode cX2_setCold 10 = .ok (.new 52, 3) := by decide +kernel
theorem dX2_setCold_13 : decode cX2_setCold 13 = .ok (.dup, 1) := by decide +kernel
theorem dX2_setCold_14 : decode cX2_setCold 14 = .ok (.ldc 86, 2) := by decide +kernel
theorem dX2_setCold_16 : decode cX2_setCold 16 = .ok (.invokespecial 56, 3) := by decide +kernel
theorem dX2_setCold_19 : decode cX2_setCold 19 = .ok (.athrow, 1) := by decide +kernel
theorem dX2_setCold_20 : decode cX2_setCold 20 = .ok (.iload_n 2, 1) := by decide +kernel
theorem dX2_setCold_21 : decode cX2_setCold 21 = .ok (.bipush (-3), 2) := by decide +kernel
theorem dX2_setCold_23 : decode cX2_setCold 23 = .ok (.if_icmp .lt 8, 3) := by decide +kernel
theorem dX2_setCold_26 : decode cX2_setCold 26 = .ok (.iload_n 2, 1) := by decide +kernel
theorem dX2_setCold_27 : decode cX2_setCold 27 = .ok (.iconst 3, 1) := by decide +kernel
theorem dX2_setCold_28 : decode cX2_setCold 28 = .ok (.if_icmp .le 13, 3) := by decide +kernel
theorem dX2_setCold_31 : decode cX2_setCold 31 = .ok (.new 19, 3) := by decide +kernel
theorem dX2_setCold_34 : decode cX2_setCold 34 = .ok (.dup, 1) := by decide +kernel
theorem dX2_setCold_35 : decode cX2_setCold 35 = .ok (.ldc 88, 2) := by decide +kernel
theorem dX2_setCold_37 : decode cX2_setCold 37 = .ok (.invokespecial 23, 3) := by decide +kernel
theorem dX2_setCold_40 : decode cX2_setCold 40 = .ok (.athrow, 1) := by decide +kernel
theorem dX2_setCold_41 : decode cX2_setCold 41 = .ok (.aload_n 0, 1) := by decide +kernel
theorem dX2_setCold_42 : decode cX2_setCold 42 = .ok (.getfield 10, 3) := by decide +kernel
theorem dX2_setCold_45 : decode cX2_setCold 45 = .ok (.getfield 90, 3) := by decide +kernel
theorem dX2_setCold_48 : decode cX2_setCold 48 = .ok (.iload_n 1, 1) := by decide +kernel
theorem dX2_setCold_49 : decode cX2_setCold 49 = .ok (.iaload, 1) := by decide +kernel
theorem dX2_setCold_50 : decode cX2_setCold 50 = .ok (.istore_n 3, 1) := by decide +kernel
theorem dX2_setCold_51 : decode cX2_setCold 51 = .ok (.aload_n 0, 1) := by decide +kernel
theorem dX2_setCold_52 : decode cX2_setCold 52 = .ok (.getfield 10, 3) := by decide +kernel
theorem dX2_setCold_55 : decode cX2_setCold 55 = .ok (.getfield 90, 3) := by decide +kernel
theorem dX2_setCold_58 : decode cX2_setCold 58 = .ok (.iload_n 1, 1) := by decide +kernel
theorem dX2_setCold_59 : decode cX2_setCold 59 = .ok (.iload_n 2, 1) := by decide +kernel
theorem dX2_setCold_60 : decode cX2_setCold 60 = .ok (.iastore, 1) := by decide +kernel
theorem dX2_setCold_61 : decode cX2_setCold 61 = .ok (.iload_n 3, 1) := by decide +kernel
theorem dX2_setCold_62 : decode cX2_setCold 62 = .ok (.ireturn, 1) := by decide +kernel
theorem dX2_crack_0 : decode cX2_crack 0 = .ok (.aload_n 0, 1) := by decide +kernel
theorem dX2_crack_1 : decode cX2_crack 1 = .ok (.getfield 10, 3) := by decide +kernel
theorem dX2_crack_4 : decode cX2_crack 4 = .ok (.iconst 0, 1) := by decide +kernel
theorem dX2_crack_5 : decode cX2_crack 5 = .ok (.aload_n 0, 1) := by decide +kernel
theorem dX2_crack_6 : decode cX2_crack 6 = .ok (.getfield 10, 3) := by decide +kernel
theorem dX2_crack_9 : decode cX2_crack 9 = .ok (.getfield 93, 3) := by decide +kernel
theorem dX2_crack_12 : decode cX2_crack 12 = .ok (.iconst 3, 1) := by decide +kernel
theorem dX2_crack_13 : decode cX2_crack 13 = .ok (.isub, 1) := by decide +kernel
theorem dX2_crack_14 : decode cX2_crack 14 = .ok (.invokestatic 96, 3) := by decide +kernel
theorem dX2_crack_17 : decode cX2_crack 17 = .ok (.putfield 93, 3) := by decide +kernel
theorem dX2_crack_20 : decode cX2_crack 20 = .ok (.aload_n 0, 1) := by decide +kernel
theorem dX2_crack_21 : decode cX2_crack 21 = .ok (.getfield 10, 3) := by decide +kernel
theorem dX2_crack_24 : decode cX2_crack 24 = .ok (.getfield 93, 3) := by decide +kernel
theorem dX2_crack_27 : decode cX2_crack 27 = .ok (.ireturn, 1) := by decide +kernel
set_option maxRecDepth 20000 in
theorem ggX2_traveller_X1_has : GoodIn wsX2_traveller wsX1_has := goodIn_r _ [9, 10, 45, 46, 47, 48, 49, 50, 51, 52, 53, 54, 55, 56] (by decide +kernel) (by decide +kernel)
set_option maxRecDepth 20000 in
theorem gX2_traveller_X1_has : GoodIn wsX2_traveller (wsV RX2 48 RX1 yX1_has wsX1_has) := goodIn_app (goodIn_of _ (by decide +kernel)) ggX2_traveller_X1_has
set_option maxRecDepth 20000 in
theorem ggX2_traveller_X0_factOf : GoodIn wsX2_traveller wsX0_factOf := goodIn_r _ [15, 16, 17, 18, 19, 20, 21, 22, 23, 24, 25, 26, 27, 8, 28, 29, 30, 31, 34, 35, 36, 37, 38, 39, 40, 41, 42, 43, 44, 45, 46, 47, 48, 49, 50, 51, 52, 53, 54, 55, 56] (by decide +kernel) (by decide +kernel)
set_option maxRecDepth 20000 in
theorem gX2_traveller_X0_factOf : GoodIn wsX2_traveller (wsV RX2 103 RX0 yX0_factOf wsX0_factOf) := goodIn_app (goodIn_of _ (by decide +kernel)) ggX2_traveller_X0_factOf
theorem dX2_traveller_0 : decode cX2_traveller 0 = .ok (.aload_n 0, 1) := by decide +kernel
theorem dX2_traveller_1 : decode cX2_traveller 1 = .ok (.getfield 10, 3) := by decide +kernel
theorem dX2_traveller_4 : decode cX2_traveller 4 = .ok (.getfield 26, 3) := by decide +kernel
theorem dX2_traveller_7 : decode cX2_traveller 7 = .ok (.iload_n 1, 1) := by decide +kernel
theorem dX2_traveller_8 : decode cX2_traveller 8 = .ok (.invokevirtual 48, 3) := by decide +kernel
theorem dX2_traveller_11 : decode cX2_traveller 11 = .ok (.ifCond .ne 13, 3) := by decide +kernel
theorem dX2_traveller_14 : decode cX2_traveller 14 = .ok (.new 52, 3) := by decide +kernel
theorem dX2_traveller_17 : decode cX2_traveller 17 = .ok (.dup, 1) := by decide +kernel
theorem dX2_traveller_18 : decode cX2_traveller 18 = .ok (.ldc 54, 2) := by decide +kernel
theorem dX2_traveller_20 : decode cX2_traveller 20 = .ok (.invokespecial 56, 3) := by decide +kernel
theorem dX2_traveller_23 : decode cX2_traveller 23 = .ok (.athrow, 1) := by decide +kernel
theorem dX2_traveller_24 : decode cX2_traveller 24 = .ok (.iload_n 2, 1) := by decide +kernel
theorem dX2_traveller_25 : decode cX2_traveller 25 = .ok (.ifCond .lt 9, 3) := by decide +kernel
theorem dX2_traveller_28 : decode cX2_traveller 28 = .ok (.iload_n 2, 1) := by decide +kernel
theorem dX2_traveller_29 : decode cX2_traveller 29 = .ok (.bipush 7, 2) := by decide +kernel
theorem dX2_traveller_31 : decode cX2_traveller 31 = .ok (.if_icmp .lt 13, 3) := by decide +kernel
theorem dX2_traveller_34 : decode cX2_traveller 34 = .ok (.new 52, 3) := by decide +kernel
theorem dX2_traveller_37 : decode cX2_traveller 37 = .ok (.dup, 1) := by decide +kernel
theorem dX2_traveller_38 : decode cX2_traveller 38 = .ok (.ldc 101, 2) := by decide +kernel
theorem dX2_traveller_40 : decode cX2_traveller 40 = .ok (.invokespecial 56, 3) := by decide +kernel
theorem dX2_traveller_43 : decode cX2_traveller 43 = .ok (.athrow, 1) := by decide +kernel
theorem dX2_traveller_44 : decode cX2_traveller 44 = .ok (.aload_n 0, 1) := by decide +kernel
theorem dX2_traveller_45 : decode cX2_traveller 45 = .ok (.getfield 10, 3) := by decide +kernel
theorem dX2_traveller_48 : decode cX2_traveller 48 = .ok (.iload_n 1, 1) := by decide +kernel
theorem dX2_traveller_49 : decode cX2_traveller 49 = .ok (.iload_n 2, 1) := by decide +kernel
theorem dX2_traveller_50 : decode cX2_traveller 50 = .ok (.invokevirtual 103, 3) := by decide +kernel
theorem dX2_traveller_53 : decode cX2_traveller 53 = .ok (.ireturn, 1) := by decide +kernel
set_option maxRecDepth 20000 in
theorem ggX2_count_X0_total : GoodIn wsX2_count wsX0_total := goodIn_r _ [8, 9, 10, 11, 12, 13, 14, 15, 16, 17, 18, 19, 20, 21, 22, 23, 7, 24, 25, 26, 27, 28, 29, 30, 31, 32, 33, 34, 35, 36, 37, 38, 39, 40, 41, 42, 43, 44, 47, 48, 49, 50, 51, 52, 53, 54, 55, 56, 57, 58, 59, 60, 61, 62, 63, 64, 65, 66, 67, 68, 69] (by decide +kernel) (by decide +kernel)
set_option maxRecDepth 20000 in
theorem gX2_count_X0_total : GoodIn wsX2_count (wsV RX2 108 RX0 yX0_total wsX0_total) := goodIn_app (goodIn_of _ (by decide +kernel)) ggX2_count_X0_total
theorem dX2_count_0 : decode cX2_count 0 = .ok (.iload_n 1, 1) := by decide +kernel
theorem dX2_count_1 : decode cX2_count 1 = .ok (.ifCond .lt 9, 3) := by decide +kernel
theorem dX2_count_4 : decode cX2_count 4 = .ok (.iload_n 1, 1) := by decide +kernel
theorem dX2_count_5 : decode cX2_count 5 = .ok (.bipush 12, 2) := by decide +kernel
theorem dX2_count_7 : decode cX2_count 7 = .ok (.if_icmp .lt 13, 3) := by decide +kernel
theorem dX2_count_10 : decode cX2_count 10 = .ok (.new 52, 3) := by decide +kernel
theorem dX2_count_13 : decode cX2_count 13 = .ok (.dup, 1) := by decide +kernel
theorem dX2_count_14 : decode cX2_count 14 = .ok (.ldc 106, 2) := by decide +kernel
theorem dX2_count_16 : decode cX2_count 16 = .ok (.invokespecial 56, 3) := by decide +kernel
theorem dX2_count_19 : decode cX2_count 19 = .ok (.athrow, 1) := by decide +kernel
theorem dX2_count_20 : decode cX2_count 20 = .ok (.aload_n 0, 1) := by decide +kernel
theorem dX2_count_21 : decode cX2_count 21 = .ok (.getfield 10, 3) := by decide +kernel
theorem dX2_count_24 : decode cX2_count 24 = .ok (.iload_n 1, 1) := by decide +kernel
theorem dX2_count_25 : decode cX2_count 25 = .ok (.invokevirtual 108, 3) := by decide +kernel
theorem dX2_count_28 : decode cX2_count 28 = .ok (.ireturn, 1) := by decide +kernel
set_option maxRecDepth 20000 in
theorem ggX2_speed_X0_speedTowards : GoodIn wsX2_speed wsX0_speedTowards := goodIn_r _ [6, 7, 8, 9, 10, 11, 12, 15, 16, 17, 18, 19, 20, 21, 22, 23, 24, 25] (by decide +kernel) (by decide +kernel)
set_option maxRecDepth 20000 in
theorem gX2_speed_X0_speedTowards : GoodIn wsX2_speed (wsV RX2 112 RX0 yX0_speedTowards wsX0_speedTowards) := goodIn_app (goodIn_of _ (by decide +kernel)) ggX2_speed_X0_speedTowards
theorem dX2_speed_0 : decode cX2_speed 0 = .ok (.aload_n 0, 1) := by decide +kernel
theorem dX2_speed_1 : decode cX2_speed 1 = .ok (.getfield 10, 3) := by decide +kernel
theorem dX2_speed_4 : decode cX2_speed 4 = .ok (.iload_n 1, 1) := by decide +kernel
theorem dX2_speed_5 : decode cX2_speed 5 = .ok (.invokevirtual 112, 3) := by decide +kernel
theorem dX2_speed_8 : decode cX2_speed 8 = .ok (.ireturn, 1) := by decide +kernel
set_option maxRecDepth 20000 in
theorem ggX2_pass_X2_isSpan : GoodIn wsX2_pass wsX2_isSpan := goodIn_r _ [9] (by decide +kernel) (by decide +kernel)
set_option maxRecDepth 20000 in
theorem gX2_pass_X2_isSpan : GoodIn wsX2_pass (va_wsS RX2 116 yX2_isSpan wsX2_isSpan) := goodIn_app (goodIn_of _ (by decide +kernel)) ggX2_pass_X2_isSpan
set_option maxRecDepth 20000 in
theorem ggX2_pass_X0_goOn : GoodIn wsX2_pass wsX0_goOn := goodIn_r _ [14, 15, 16, 17, 13, 18, 19, 20, 21, 22, 23, 24, 25, 26, 27, 28, 29, 30, 31, 32, 33, 34, 35, 36, 37, 38, 39, 40, 41, 42, 43, 44, 45, 46, 47, 48, 49, 50, 51, 52, 53, 54, 55, 56, 57, 58, 59, 60, 61, 62, 63, 64, 65, 66, 67, 68, 69, 70, 71, 72, 73, 74, 75, 76, 77, 78, 79, 80, 81, 82, 83, 84, 85, 86, 87, 88, 89, 90, 91, 92, 93, 94, 95, 96, 97, 98, 99, 100, 101, 102, 103, 104, 107, 108, 109, 110, 111, 112, 113, 114, 115, 116, 117, 118, 119, 120, 121, 122, 123, 124, 125, 126, 127, 128, 129] (by decide +kernel) (by decide +kernel)
set_option maxRecDepth 20000 in
theorem gX2_pass_X0_goOn : GoodIn wsX2_pass (wsV RX2 124 RX0 yX0_goOn wsX0_goOn) := goodIn_app (goodIn_of _ (by decide +kernel)) ggX2_pass_X0_goOn
theorem dX2_pass_0 : decode cX2_pass 0 = .ok (.iload_n 1, 1) := by decide +kernel
theorem dX2_pass_1 : decode cX2_pass 1 = .ok (.invokestatic 116, 3) := by decide +kernel
theorem dX2_pass_4 : decode cX2_pass 4 = .ok (.ifCond .ne 13, 3) := by decide +kernel
theorem dX2_pass_7 : decode cX2_pass 7 = .ok (.new 19, 3) := by decide +kernel
theorem dX2_pass_10 : decode cX2_pass 10 = .ok (.dup, 1) := by decide +kernel
theorem dX2_pass_11 : decode cX2_pass 11 = .ok (.ldc 119, 2) := by decide +kernel
theorem dX2_pass_13 : decode cX2_pass 13 = .ok (.invokespecial 23, 3) := by decide +kernel
theorem dX2_pass_16 : decode cX2_pass 16 = .ok (.athrow, 1) := by decide +kernel
theorem dX2_pass_17 : decode cX2_pass 17 = .ok (.aload_n 0, 1) := by decide +kernel
theorem dX2_pass_18 : decode cX2_pass 18 = .ok (.getfield 10, 3) := by decide +kernel
theorem dX2_pass_21 : decode cX2_pass 21 = .ok (.getfield 26, 3) := by decide +kernel
theorem dX2_pass_24 : decode cX2_pass 24 = .ok (.getfield 121, 3) := by decide +kernel
theorem dX2_pass_27 : decode cX2_pass 27 = .ok (.istore_n 2, 1) := by decide +kernel
theorem dX2_pass_28 : decode cX2_pass 28 = .ok (.aload_n 0, 1) := by decide +kernel
theorem dX2_pass_29 : decode cX2_pass 29 = .ok (.getfield 10, 3) := by decide +kernel
theorem dX2_pass_32 : decode cX2_pass 32 = .ok (.iload_n 1, 1) := by decide +kernel
theorem dX2_pass_33 : decode cX2_pass 33 = .ok (.invokevirtual 124, 3) := by decide +kernel
theorem dX2_pass_36 : decode cX2_pass 36 = .ok (.aload_n 0, 1) := by decide +kernel
theorem dX2_pass_37 : decode cX2_pass 37 = .ok (.getfield 10, 3) := by decide +kernel
theorem dX2_pass_40 : decode cX2_pass 40 = .ok (.getfield 26, 3) := by decide +kernel
theorem dX2_pass_43 : decode cX2_pass 43 = .ok (.getfield 121, 3) := by decide +kernel
theorem dX2_pass_46 : decode cX2_pass 46 = .ok (.iload_n 2, 1) := by decide +kernel
theorem dX2_pass_47 : decode cX2_pass 47 = .ok (.isub, 1) := by decide +kernel
theorem dX2_pass_48 : decode cX2_pass 48 = .ok (.ireturn, 1) := by decide +kernel
set_option maxRecDepth 20000 in
theorem ggX2_when_X1_has : GoodIn wsX2_when wsX1_has := goodIn_r _ [11, 12, 127, 128, 129, 130, 131, 132, 133, 134, 135, 136, 137, 138] (by decide +kernel) (by decide +kernel)
set_option maxRecDepth 20000 in
theorem gX2_when_X1_has : GoodIn wsX2_when (wsV RX2 48 RX1 yX1_has wsX1_has) := goodIn_app (goodIn_of _ (by decide +kernel)) ggX2_when_X1_has
set_option maxRecDepth 20000 in
theorem ggX2_when_X0_copyFrom : GoodIn wsX2_when wsX0_copyFrom := goodIn_r _ [17, 18, 19, 20, 21, 22, 23, 24, 25, 26, 27, 28, 29, 30, 31, 32, 33, 34, 35, 10, 36, 12, 37, 38, 39, 40, 41, 42, 43, 44, 45, 46, 47, 48, 116, 117, 118, 119, 120, 121, 122, 123, 124, 125, 126, 127, 128, 129, 130, 131, 132, 133, 134, 135, 136, 137, 138] (by decide +kernel) (by decide +kernel)
set_option maxRecDepth 20000 in
theorem gX2_when_X0_copyFrom : GoodIn wsX2_when (wsV RX2 128 RX0 yX0_copyFrom wsX0_copyFrom) := goodIn_app (goodIn_of _ (by decide +kernel)) ggX2_when_X0_copyFrom
set_option maxRecDepth 20000 in
theorem ggX2_when_X0_goOneMinute : GoodIn wsX2_when wsX0_goOneMinute := goodIn_r _ [52, 23, 29, 53, 54, 18, 55, 56, 57, 16, 58, 30, 22, 32, 59, 60, 61, 10, 62, 47, 48, 63, 64, 65, 66, 67, 68, 69, 70, 71, 72, 73, 74, 75, 76, 77, 78, 79, 19, 80, 31, 81, 82, 83, 84, 85, 8, 9, 11, 12, 86, 87, 88, 89, 43, 46, 90, 91, 92, 93, 38, 39, 40, 94, 95, 96, 97, 20, 21, 98, 99, 100, 101, 102, 103, 104, 105, 45, 37, 106, 107, 108, 109, 24, 110, 111, 112, 113, 116, 117, 118, 119, 120, 121, 122, 123, 124, 125, 126, 127, 128, 129, 130, 131, 132, 133, 134, 135, 136, 137, 138] (by decide +kernel) (by decide +kernel)
set_option maxRecDepth 20000 in
theorem gX2_when_X0_goOneMinute : GoodIn wsX2_when (wsV RX2 132 RX0 yX0_goOneMinute wsX0_goOneMinute) := goodIn_app (goodIn_of _ (by decide +kernel)) ggX2_when_X0_goOneMinute
theorem dX2_when_0 : decode cX2_when 0 = .ok (.aload_n 0, 1) := by decide +kernel
theorem dX2_when_1 : decode cX2_when 1 = .ok (.getfield 10, 3) := by decide +kernel
theorem dX2_when_4 : decode cX2_when 4 = .ok (.getfield 26, 3) := by decide +kernel
theorem dX2_when_7 : decode cX2_when 7 = .ok (.iload_n 1, 1) := by decide +kernel
theorem dX2_when_8 : decode cX2_when 8 = .ok (.invokevirtual 48, 3) := by decide +kernel
theorem dX2_when_11 : decode cX2_when 11 = .ok (.ifCond .ne 13, 3) := by decide +kernel
theorem dX2_when_14 : decode cX2_when 14 = .ok (.new 52, 3) := by decide +kernel
theorem dX2_when_17 : decode cX2_when 17 = .ok (.dup, 1) := by decide +kernel
theorem dX2_when_18 : decode cX2_when 18 = .ok (.ldc 54, 2) := by decide +kernel
theorem dX2_when_20 : decode cX2_when 20 = .ok (.invokespecial 56, 3) := by decide +kernel
theorem dX2_when_23 : decode cX2_when 23 = .ok (.athrow, 1) := by decide +kernel
theorem dX2_when_24 : decode cX2_when 24 = .ok (.aload_n 0, 1) := by decide +kernel
theorem dX2_when_25 : decode cX2_when 25 = .ok (.getfield 16, 3) := by decide +kernel
theorem dX2_when_28 : decode cX2_when 28 = .ok (.aload_n 0, 1) := by decide +kernel
theorem dX2_when_29 : decode cX2_when 29 = .ok (.getfield 10, 3) := by decide +kernel
theorem dX2_when_32 : decode cX2_when 32 = .ok (.invokevirtual 128, 3) := by decide +kernel
theorem dX2_when_35 : decode cX2_when 35 = .ok (.iconst 0, 1) := by decide +kernel
theorem dX2_when_36 : decode cX2_when 36 = .ok (.istore_n 2, 1) := by decide +kernel
theorem dX2_when_37 : decode cX2_when 37 = .ok (.iload_n 2, 1) := by decide +kernel
theorem dX2_when_38 : decode cX2_when 38 = .ok (.sipush 400, 3) := by decide +kernel
theorem dX2_when_41 : decode cX2_when 41 = .ok (.if_icmp .gt 34, 3) := by decide +kernel
theorem dX2_when_44 : decode cX2_when 44 = .ok (.aload_n 0, 1) := by decide +kernel
theorem dX2_when_45 : decode cX2_when 45 = .ok (.getfield 16, 3) := by decide +kernel
theorem dX2_when_48 : decode cX2_when 48 = .ok (.getfield 26, 3) := by decide +kernel
theorem dX2_when_51 : decode cX2_when 51 = .ok (.getfield 57, 3) := by decide +kernel
theorem dX2_when_54 : decode cX2_when 54 = .ok (.iload_n 1, 1) := by decide +kernel
theorem dX2_when_55 : decode cX2_when 55 = .ok (.iaload, 1) := by decide +kernel
theorem dX2_when_56 : decode cX2_when 56 = .ok (.iconst 2, 1) := by decide +kernel
theorem dX2_when_57 : decode cX2_when 57 = .ok (.if_icmp .ne 5, 3) := by decide +kernel
theorem dX2_when_60 : decode cX2_when 60 = .ok (.iload_n 2, 1) := by decide +kernel
theorem dX2_when_61 : decode cX2_when 61 = .ok (.ireturn, 1) := by decide +kernel
theorem dX2_when_62 : decode cX2_when 62 = .ok (.aload_n 0, 1) := by decide +kernel
theorem dX2_when_63 : decode cX2_when 63 = .ok (.getfield 16, 3) := by decide +kernel
theorem dX2_when_66 : decode cX2_when 66 = .ok (.invokevirtual 132, 3) := by decide +kernel
theorem dX2_when_69 : decode cX2_when 69 = .ok (.iinc 2 1, 3) := by decide +kernel
theorem dX2_when_72 : decode cX2_when 72 = .ok (.goto (-35), 3) := by decide +kernel
theorem dX2_when_75 : decode cX2_when 75 = .ok (.iconst (-1), 1) := by decide +kernel
theorem dX2_when_76 : decode cX2_when 76 = .ok (.ireturn, 1) := by decide +kernel
set_option maxRecDepth 20000 in
theorem ggX2_foresee_X2_isSpan : GoodIn wsX2_foresee wsX2_isSpan := goodIn_r _ [15] (by decide +kernel) (by decide +kernel)
set_option maxRecDepth 20000 in
theorem gX2_foresee_X2_isSpan : GoodIn wsX2_foresee (va_wsS RX2 116 yX2_isSpan wsX2_isSpan) := goodIn_app (goodIn_of _ (by decide +kernel)) ggX2_foresee_X2_isSpan
set_option maxRecDepth 20000 in
theorem ggX2_foresee_X0_copyFrom : GoodIn wsX2_foresee wsX0_copyFrom := goodIn_r _ [20, 21, 22, 23, 24, 25, 26, 27, 28, 29, 30, 31, 32, 33, 34, 35, 36, 37, 38, 39, 40, 41, 42, 43, 44, 45, 46, 47, 48, 49, 50, 51, 52, 53, 128, 129, 130, 131, 132, 133, 134, 135, 136, 137, 138, 139, 140, 141, 142, 143, 144, 145, 146, 147, 148, 149, 150] (by decide +kernel) (by decide +kernel)
set_option maxRecDepth 20000 in
theorem gX2_foresee_X0_copyFrom : GoodIn wsX2_foresee (wsV RX2 128 RX0 yX0_copyFrom wsX0_copyFrom) := goodIn_app (goodIn_of _ (by decide +kernel)) ggX2_foresee_X0_copyFrom
set_option maxRecDepth 20000 in
theorem ggX2_foresee_X0_goOn : GoodIn wsX2_foresee wsX0_goOn := goodIn_r _ [57, 58, 59, 60, 19, 61, 26, 32, 62, 63, 21, 64, 65, 66, 67, 33, 25, 35, 68, 69, 70, 39, 71, 52, 53, 72, 73, 74, 75, 76, 77, 78, 79, 80, 81, 82, 83, 84, 85, 86, 87, 88, 22, 89, 34, 90, 91, 92, 93, 94, 95, 96, 97, 41, 98, 99, 100, 101, 48, 51, 102, 103, 104, 105, 43, 44, 45, 106, 107, 108, 109, 23, 24, 110, 111, 112, 113, 114, 115, 116, 117, 50, 42, 118, 119, 120, 121, 27, 122, 123, 124, 125, 128, 129, 130, 131, 132, 133, 134, 135, 136, 137, 138, 139, 140, 141, 142, 143, 144, 145, 146, 147, 148, 149, 150] (by decide +kernel) (by decide +kernel)
set_option maxRecDepth 20000 in
theorem gX2_foresee_X0_goOn : GoodIn wsX2_foresee (wsV RX2 124 RX0 yX0_goOn wsX0_goOn) := goodIn_app (goodIn_of _ (by decide +kernel)) ggX2_foresee_X0_goOn
theorem dX2_foresee_0 : decode cX2_foresee 0 = .ok (.iload_n 1, 1) := by decide +kernel
theorem dX2_foresee_1 : decode cX2_foresee 1 = .ok (.invokestatic 116, 3) := by decide +kernel
theorem dX2_foresee_4 : decode cX2_foresee 4 = .ok (.ifCond .ne 13, 3) := by decide +kernel
theorem dX2_foresee_7 : decode cX2_foresee 7 = .ok (.new 19, 3) := by decide +kernel
theorem dX2_foresee_10 : decode cX2_foresee 10 = .ok (.dup, 1) := by decide +kernel
theorem dX2_foresee_11 : decode cX2_foresee 11 = .ok (.ldc 119, 2) := by decide +kernel
theorem dX2_foresee_13 : decode cX2_foresee 13 = .ok (.invokespecial 23, 3) := by decide +kernel
theorem dX2_foresee_16 : decode cX2_foresee 16 = .ok (.athrow, 1) := by decide +kernel
theorem dX2_foresee_17 : decode cX2_foresee 17 = .ok (.iload_n 2, 1) := by decide +kernel
theorem dX2_foresee_18 : decode cX2_foresee 18 = .ok (.ifCond .lt 8, 3) := by decide +kernel
theorem dX2_foresee_21 : decode cX2_foresee 21 = .ok (.iload_n 2, 1) := by decide +kernel
theorem dX2_foresee_22 : decode cX2_foresee 22 = .ok (.iconst 4, 1) := by decide +kernel
theorem dX2_foresee_23 : decode cX2_foresee 23 = .ok (.if_icmp .lt 13, 3) := by decide +kernel
theorem dX2_foresee_26 : decode cX2_foresee 26 = .ok (.new 52, 3) := by decide +kernel
theorem dX2_foresee_29 : decode cX2_foresee 29 = .ok (.dup, 1) := by decide +kernel
theorem dX2_foresee_30 : decode cX2_foresee 30 = .ok (.ldc 135, 2) := by decide +kernel
theorem dX2_foresee_32 : decode cX2_foresee 32 = .ok (.invokespecial 56, 3) := by decide +kernel
theorem dX2_foresee_35 : decode cX2_foresee 35 = .ok (.athrow, 1) := by decide +kernel
theorem dX2_foresee_36 : decode cX2_foresee 36 = .ok (.aload_n 0, 1) := by decide +kernel
theorem dX2_foresee_37 : decode cX2_foresee 37 = .ok (.getfield 16, 3) := by decide +kernel
theorem dX2_foresee_40 : decode cX2_foresee 40 = .ok (.aload_n 0, 1) := by decide +kernel
theorem dX2_foresee_41 : decode cX2_foresee 41 = .ok (.getfield 10, 3) := by decide +kernel
theorem dX2_foresee_44 : decode cX2_foresee 44 = .ok (.invokevirtual 128, 3) := by decide +kernel
theorem dX2_foresee_47 : decode cX2_foresee 47 = .ok (.aload_n 0, 1) := by decide +kernel
theorem dX2_foresee_48 : decode cX2_foresee 48 = .ok (.getfield 16, 3) := by decide +kernel
theorem dX2_foresee_51 : decode cX2_foresee 51 = .ok (.iload_n 1, 1) := by decide +kernel
theorem dX2_foresee_52 : decode cX2_foresee 52 = .ok (.invokevirtual 124, 3) := by decide +kernel
theorem dX2_foresee_55 : decode cX2_foresee 55 = .ok (.iload_n 2, 1) := by decide +kernel
theorem dX2_foresee_56 : decode cX2_foresee 56 = .ok (.tableswitch 74 0 2 #[28, 50, 66], 28) := by decide +kernel
theorem dX2_foresee_84 : decode cX2_foresee 84 = .ok (.aload_n 0, 1) := by decide +kernel
theorem dX2_foresee_85 : decode cX2_foresee 85 = .ok (.getfield 16, 3) := by decide +kernel
theorem dX2_foresee_88 : decode cX2_foresee 88 = .ok (.getfield 26, 3) := by decide +kernel
theorem dX2_foresee_91 : decode cX2_foresee 91 = .ok (.getfield 121, 3) := by decide +kernel
theorem dX2_foresee_94 : decode cX2_foresee 94 = .ok (.aload_n 0, 1) := by decide +kernel
theorem dX2_foresee_95 : decode cX2_foresee 95 = .ok (.getfield 10, 3) := by decide +kernel
theorem dX2_foresee_98 : decode cX2_foresee 98 = .ok (.getfield 26, 3) := by decide +kernel
theorem dX2_foresee_101 : decode cX2_foresee 101 = .ok (.getfield 121, 3) := by decide +kernel
theorem dX2_foresee_104 : decode cX2_foresee 104 = .ok (.isub, 1) := by decide +kernel
theorem dX2_foresee_105 : decode cX2_foresee 105 = .ok (.ireturn, 1) := by decide +kernel
theorem dX2_foresee_106 : decode cX2_foresee 106 = .ok (.aload_n 0, 1) := by decide +kernel
theorem dX2_foresee_107 : decode cX2_foresee 107 = .ok (.getfield 16, 3) := by decide +kernel
theorem dX2_foresee_110 : decode cX2_foresee 110 = .ok (.getfield 137, 3) := by decide +kernel
theorem dX2_foresee_113 : decode cX2_foresee 113 = .ok (.aload_n 0, 1) := by decide +kernel
theorem dX2_foresee_114 : decode cX2_foresee 114 = .ok (.getfield 10, 3) := by decide +kernel
theorem dX2_foresee_117 : decode cX2_foresee 117 = .ok (.getfield 137, 3) := by decide +kernel
theorem dX2_foresee_120 : decode cX2_foresee 120 = .ok (.isub, 1) := by decide +kernel
theorem dX2_foresee_121 : decode cX2_foresee 121 = .ok (.ireturn, 1) := by decide +kernel
theorem dX2_foresee_122 : decode cX2_foresee 122 = .ok (.aload_n 0, 1) := by decide +kernel
theorem dX2_foresee_123 : decode cX2_foresee 123 = .ok (.getfield 16, 3) := by decide +kernel
theorem dX2_foresee_126 : decode cX2_foresee 126 = .ok (.getfield 78, 3) := by decide +kernel
theorem dX2_foresee_129 : decode cX2_foresee 129 = .ok (.ireturn, 1) := by decide +kernel
theorem dX2_foresee_130 : decode cX2_foresee 130 = .ok (.aload_n 0, 1) := by decide +kernel
theorem dX2_foresee_131 : decode cX2_foresee 131 = .ok (.getfield 16, 3) := by decide +kernel
theorem dX2_foresee_134 : decode cX2_foresee 134 = .ok (.getfield 93, 3) := by decide +kernel
theorem dX2_foresee_137 : decode cX2_foresee 137 = .ok (.ireturn, 1) := by decide +kernel
set_option maxRecDepth 20000 in
theorem ggX2_bestCode_X2_isSpan : GoodIn wsX2_bestCode wsX2_isSpan := goodIn_r _ [8] (by decide +kernel) (by decide +kernel)
set_option maxRecDepth 20000 in
theorem gX2_bestCode_X2_isSpan : GoodIn wsX2_bestCode (va_wsS RX2 116 yX2_isSpan wsX2_isSpan) := goodIn_app (goodIn_of _ (by decide +kernel)) ggX2_bestCode_X2_isSpan
set_option maxRecDepth 20000 in
theorem ggX2_bestCode_X2_waitWith : GoodIn wsX2_bestCode wsX2_waitWith := goodIn_r _ [12, 13, 3, 14, 4, 15, 16, 17, 18, 19, 20, 21, 22, 23, 24, 25, 26, 27, 28, 29, 30, 31, 32, 33, 34, 35, 36, 37, 38, 39, 40, 41, 42, 43, 44, 45, 46, 47, 48, 49, 50, 51, 52, 53, 54, 55, 56, 57, 58, 59, 60, 61, 62, 63, 64, 65, 66, 67, 68, 69, 70, 71, 72, 73, 74, 75, 76, 77, 78, 79, 80, 81, 82, 83, 84, 85, 86, 87, 88, 89, 90, 91, 92, 93, 94, 95, 96, 97, 98, 99, 100, 101, 102, 103, 104, 105, 106, 107, 108, 109, 110, 111, 112, 113, 114, 115, 116, 117, 118, 119, 120, 121, 122, 123, 124, 125, 126, 127, 128, 129, 130, 131, 132, 133, 134, 135, 136, 137, 138, 139, 140, 141, 142, 143, 144, 145, 146, 147, 148, 149, 150] (by decide +kernel) (by decide +kernel)
set_option maxRecDepth 20000 in
theorem gX2_bestCode_X2_waitWith : GoodIn wsX2_bestCode (wsV RX2 140 RX2 yX2_waitWith wsX2_waitWith) := goodIn_app (goodIn_of _ (by decide +kernel)) ggX2_bestCode_X2_waitWith
theorem dX2_bestCode_0 : decode cX2_bestCode 0 = .ok (.iload_n 1, 1) := by decide +kernel
theorem dX2_bestCode_1 : decode cX2_bestCode 1 = .ok (.invokestatic 116, 3) := by decide +kernel
theorem dX2_bestCode_4 : decode cX2_bestCode 4 = .ok (.ifCond .ne 13, 3) := by decide +kernel
theorem dX2_bestCode_7 : decode cX2_bestCode 7 = .ok (.new 19, 3) := by decide +kernel
theorem dX2_bestCode_10 : decode cX2_bestCode 10 = .ok (.dup, 1) := by decide +kernel
theorem dX2_bestCode_11 : decode cX2_bestCode 11 = .ok (.ldc 119, 2) := by decide +kernel
theorem dX2_bestCode_13 : decode cX2_bestCode 13 = .ok (.invokespecial 23, 3) := by decide +kernel
theorem dX2_bestCode_16 : decode cX2_bestCode 16 = .ok (.athrow, 1) := by decide +kernel
theorem dX2_bestCode_17 : decode cX2_bestCode 17 = .ok (.iconst 0, 1) := by decide +kernel
theorem dX2_bestCode_18 : decode cX2_bestCode 18 = .ok (.istore_n 2, 1) := by decide +kernel
theorem dX2_bestCode_19 : decode cX2_bestCode 19 = .ok (.aload_n 0, 1) := by decide +kernel
theorem dX2_bestCode_20 : decode cX2_bestCode 20 = .ok (.iload_n 2, 1) := by decide +kernel
theorem dX2_bestCode_21 : decode cX2_bestCode 21 = .ok (.aload_n 0, 1) := by decide +kernel
theorem dX2_bestCode_22 : decode cX2_bestCode 22 = .ok (.getfield 10, 3) := by decide +kernel
theorem dX2_bestCode_25 : decode cX2_bestCode 25 = .ok (.getfield 83, 3) := by decide +kernel
theorem dX2_bestCode_28 : decode cX2_bestCode 28 = .ok (.iload_n 1, 1) := by decide +kernel
theorem dX2_bestCode_29 : decode cX2_bestCode 29 = .ok (.invokevirtual 140, 3) := by decide +kernel
theorem dX2_bestCode_32 : decode cX2_bestCode 32 = .ok (.istore_n 3, 1) := by decide +kernel
theorem dX2_bestCode_33 : decode cX2_bestCode 33 = .ok (.iload_n 2, 1) := by decide +kernel
theorem dX2_bestCode_34 : decode cX2_bestCode 34 = .ok (.iconst 1, 1) := by decide +kernel
theorem dX2_bestCode_35 : decode cX2_bestCode 35 = .ok (.iadd, 1) := by decide +kernel
theorem dX2_bestCode_36 : decode cX2_bestCode 36 = .ok (.istore 4, 2) := by decide +kernel
theorem dX2_bestCode_38 : decode cX2_bestCode 38 = .ok (.iload 4, 2) := by decide +kernel
theorem dX2_bestCode_40 : decode cX2_bestCode 40 = .ok (.iconst 3, 1) := by decide +kernel
theorem dX2_bestCode_41 : decode cX2_bestCode 41 = .ok (.if_icmp .gt 37, 3) := by decide +kernel
theorem dX2_bestCode_44 : decode cX2_bestCode 44 = .ok (.aload_n 0, 1) := by decide +kernel
theorem dX2_bestCode_45 : decode cX2_bestCode 45 = .ok (.iload 4, 2) := by decide +kernel
theorem dX2_bestCode_47 : decode cX2_bestCode 47 = .ok (.aload_n 0, 1) := by decide +kernel
theorem dX2_bestCode_48 : decode cX2_bestCode 48 = .ok (.getfield 10, 3) := by decide +kernel
theorem dX2_bestCode_51 : decode cX2_bestCode 51 = .ok (.getfield 83, 3) := by decide +kernel
theorem dX2_bestCode_54 : decode cX2_bestCode 54 = .ok (.iload_n 1, 1) := by decide +kernel
theorem dX2_bestCode_55 : decode cX2_bestCode 55 = .ok (.invokevirtual 140, 3) := by decide +kernel
theorem dX2_bestCode_58 : decode cX2_bestCode 58 = .ok (.istore 5, 2) := by decide +kernel
theorem dX2_bestCode_60 : decode cX2_bestCode 60 = .ok (.iload 5, 2) := by decide +kernel
theorem dX2_bestCode_62 : decode cX2_bestCode 62 = .ok (.iload_n 3, 1) := by decide +kernel
theorem dX2_bestCode_63 : decode cX2_bestCode 63 = .ok (.if_icmp .ge 9, 3) := by decide +kernel
theorem dX2_bestCode_66 : decode cX2_bestCode 66 = .ok (.iload 5, 2) := by decide +kernel
theorem dX2_bestCode_68 : decode cX2_bestCode 68 = .ok (.istore_n 3, 1) := by decide +kernel
theorem dX2_bestCode_69 : decode cX2_bestCode 69 = .ok (.iload 4, 2) := by decide +kernel
theorem dX2_bestCode_71 : decode cX2_bestCode 71 = .ok (.istore_n 2, 1) := by decide +kernel
theorem dX2_bestCode_72 : decode cX2_bestCode 72 = .ok (.iinc 4 1, 3) := by decide +kernel
theorem dX2_bestCode_75 : decode cX2_bestCode 75 = .ok (.goto (-37), 3) := by decide +kernel
theorem dX2_bestCode_78 : decode cX2_bestCode 78 = .ok (.iload_n 2, 1) := by decide +kernel
theorem dX2_bestCode_79 : decode cX2_bestCode 79 = .ok (.ireturn, 1) := by decide +kernel
set_option maxRecDepth 20000 in
theorem ggX2_bestPoise_X2_isSpan : GoodIn wsX2_bestPoise wsX2_isSpan := goodIn_r _ [8] (by decide +kernel) (by decide +kernel)
set_option maxRecDepth 20000 in
theorem gX2_bestPoise_X2_isSpan : GoodIn wsX2_bestPoise (va_wsS RX2 116 yX2_isSpan wsX2_isSpan) := goodIn_app (goodIn_of _ (by decide +kernel)) ggX2_bestPoise_X2_isSpan
set_option maxRecDepth 20000 in
theorem ggX2_bestPoise_X2_waitWith : GoodIn wsX2_bestPoise wsX2_waitWith := goodIn_r _ [12, 13, 3, 4, 14, 15, 16, 17, 18, 19, 20, 21, 22, 23, 24, 25, 26, 27, 28, 29, 30, 31, 32, 33, 34, 35, 36, 37, 38, 39, 40, 41, 42, 43, 44, 45, 46, 47, 48, 49, 50, 51, 52, 53, 54, 55, 56, 57, 58, 59, 60, 61, 62, 63, 64, 65, 66, 67, 68, 69, 70, 71, 72, 73, 74, 75, 76, 77, 78, 79, 80, 81, 82, 83, 84, 85, 86, 87, 88, 89, 90, 91, 92, 93, 94, 95, 96, 97, 98, 99, 100, 101, 102, 103, 104, 105, 106, 107, 108, 109, 110, 111, 112, 113, 114, 115, 116, 117, 118, 119, 120, 121, 122, 123, 124, 125, 126, 127, 128, 129, 130, 131, 132, 133, 134, 135, 136, 137, 138, 139, 140, 141, 142, 143, 144, 145, 146, 147, 148, 149, 150] (by decide +kernel) (by decide +kernel)
set_option maxRecDepth 20000 in
theorem gX2_bestPoise_X2_waitWith : GoodIn wsX2_bestPoise (wsV RX2 140 RX2 yX2_waitWith wsX2_waitWith) := goodIn_app (goodIn_of _ (by decide +kernel)) ggX2_bestPoise_X2_waitWith
theorem dX2_bestPoise_0 : decode cX2_bestPoise 0 = .ok (.iload_n 1, 1) := by decide +kernel
theorem dX2_bestPoise_1 : decode cX2_bestPoise 1 = .ok (.invokestatic 116, 3) := by decide +kernel
theorem dX2_bestPoise_4 : decode cX2_bestPoise 4 = .ok (.ifCond .ne 13, 3) := by decide +kernel
theorem dX2_bestPoise_7 : decode cX2_bestPoise 7 = .ok (.new 19, 3) := by decide +kernel
theorem dX2_bestPoise_10 : decode cX2_bestPoise 10 = .ok (.dup, 1) := by decide +kernel
theorem dX2_bestPoise_11 : decode cX2_bestPoise 11 = .ok (.ldc 119, 2) := by decide +kernel
theorem dX2_bestPoise_13 : decode cX2_bestPoise 13 = .ok (.invokespecial 23, 3) := by decide +kernel
theorem dX2_bestPoise_16 : decode cX2_bestPoise 16 = .ok (.athrow, 1) := by decide +kernel
theorem dX2_bestPoise_17 : decode cX2_bestPoise 17 = .ok (.iconst 0, 1) := by decide +kernel
theorem dX2_bestPoise_18 : decode cX2_bestPoise 18 = .ok (.istore_n 2, 1) := by decide +kernel
theorem dX2_bestPoise_19 : decode cX2_bestPoise 19 = .ok (.aload_n 0, 1) := by decide +kernel
theorem dX2_bestPoise_20 : decode cX2_bestPoise 20 = .ok (.aload_n 0, 1) := by decide +kernel
theorem dX2_bestPoise_21 : decode cX2_bestPoise 21 = .ok (.getfield 10, 3) := by decide +kernel
theorem dX2_bestPoise_24 : decode cX2_bestPoise 24 = .ok (.getfield 73, 3) := by decide +kernel
theorem dX2_bestPoise_27 : decode cX2_bestPoise 27 = .ok (.iload_n 2, 1) := by decide +kernel
theorem dX2_bestPoise_28 : decode cX2_bestPoise 28 = .ok (.iload_n 1, 1) := by decide +kernel
theorem dX2_bestPoise_29 : decode cX2_bestPoise 29 = .ok (.invokevirtual 140, 3) := by decide +kernel
theorem dX2_bestPoise_32 : decode cX2_bestPoise 32 = .ok (.istore_n 3, 1) := by decide +kernel
theorem dX2_bestPoise_33 : decode cX2_bestPoise 33 = .ok (.iload_n 2, 1) := by decide +kernel
theorem dX2_bestPoise_34 : decode cX2_bestPoise 34 = .ok (.iconst 1, 1) := by decide +kernel
theorem dX2_bestPoise_35 : decode cX2_bestPoise 35 = .ok (.iadd, 1) := by decide +kernel
theorem dX2_bestPoise_36 : decode cX2_bestPoise 36 = .ok (.istore 4, 2) := by decide +kernel
theorem dX2_bestPoise_38 : decode cX2_bestPoise 38 = .ok (.iload 4, 2) := by decide +kernel
theorem dX2_bestPoise_40 : decode cX2_bestPoise 40 = .ok (.bipush 30, 2) := by decide +kernel
theorem dX2_bestPoise_42 : decode cX2_bestPoise 42 = .ok (.if_icmp .gt 37, 3) := by decide +kernel
theorem dX2_bestPoise_45 : decode cX2_bestPoise 45 = .ok (.aload_n 0, 1) := by decide +kernel
theorem dX2_bestPoise_46 : decode cX2_bestPoise 46 = .ok (.aload_n 0, 1) := by decide +kernel
theorem dX2_bestPoise_47 : decode cX2_bestPoise 47 = .ok (.getfield 10, 3) := by decide +kernel
theorem dX2_bestPoise_50 : decode cX2_bestPoise 50 = .ok (.getfield 73, 3) := by decide +kernel
theorem dX2_bestPoise_53 : decode cX2_bestPoise 53 = .ok (.iload 4, 2) := by decide +kernel
theorem dX2_bestPoise_55 : decode cX2_bestPoise 55 = .ok (.iload_n 1, 1) := by decide +kernel
theorem dX2_bestPoise_56 : decode cX2_bestPoise 56 = .ok (.invokevirtual 140, 3) := by decide +kernel
theorem dX2_bestPoise_59 : decode cX2_bestPoise 59 = .ok (.istore 5, 2) := by decide +kernel
theorem dX2_bestPoise_61 : decode cX2_bestPoise 61 = .ok (.iload 5, 2) := by decide +kernel
theorem dX2_bestPoise_63 : decode cX2_bestPoise 63 = .ok (.iload_n 3, 1) := by decide +kernel
theorem dX2_bestPoise_64 : decode cX2_bestPoise 64 = .ok (.if_icmp .ge 9, 3) := by decide +kernel
theorem dX2_bestPoise_67 : decode cX2_bestPoise 67 = .ok (.iload 5, 2) := by decide +kernel
theorem dX2_bestPoise_69 : decode cX2_bestPoise 69 = .ok (.istore_n 3, 1) := by decide +kernel
theorem dX2_bestPoise_70 : decode cX2_bestPoise 70 = .ok (.iload 4, 2) := by decide +kernel
theorem dX2_bestPoise_72 : decode cX2_bestPoise 72 = .ok (.istore_n 2, 1) := by decide +kernel
theorem dX2_bestPoise_73 : decode cX2_bestPoise 73 = .ok (.iinc 4 1, 3) := by decide +kernel
theorem dX2_bestPoise_76 : decode cX2_bestPoise 76 = .ok (.goto (-38), 3) := by decide +kernel
theorem dX2_bestPoise_79 : decode cX2_bestPoise 79 = .ok (.iload_n 2, 1) := by decide +kernel
theorem dX2_bestPoise_80 : decode cX2_bestPoise 80 = .ok (.ireturn, 1) := by decide +kernel
theorem dX2_mean_0 : decode cX2_mean 0 = .ok (.aload_n 0, 1) := by decide +kernel
theorem dX2_mean_1 : decode cX2_mean 1 = .ok (.getfield 10, 3) := by decide +kernel
theorem dX2_mean_4 : decode cX2_mean 4 = .ok (.getfield 26, 3) := by decide +kernel
theorem dX2_mean_7 : decode cX2_mean 7 = .ok (.getfield 30, 3) := by decide +kernel
theorem dX2_mean_10 : decode cX2_mean 10 = .ok (.istore_n 1, 1) := by decide +kernel
theorem dX2_mean_11 : decode cX2_mean 11 = .ok (.iload_n 1, 1) := by decide +kernel
theorem dX2_mean_12 : decode cX2_mean 12 = .ok (.ifCond .ne 5, 3) := by decide +kernel
theorem dX2_mean_15 : decode cX2_mean 15 = .ok (.dconst 0, 1) := by decide +kernel
theorem dX2_mean_16 : decode cX2_mean 16 = .ok (.dreturn, 1) := by decide +kernel
theorem dX2_mean_17 : decode cX2_mean 17 = .ok (.aload_n 0, 1) := by decide +kernel
theorem dX2_mean_18 : decode cX2_mean 18 = .ok (.getfield 10, 3) := by decide +kernel
theorem dX2_mean_21 : decode cX2_mean 21 = .ok (.getfield 137, 3) := by decide +kernel
theorem dX2_mean_24 : decode cX2_mean 24 = .ok (.i2d, 1) := by decide +kernel
theorem dX2_mean_25 : decode cX2_mean 25 = .ok (.iload_n 1, 1) := by decide +kernel
theorem dX2_mean_26 : decode cX2_mean 26 = .ok (.i2d, 1) := by decide +kernel
theorem dX2_mean_27 : decode cX2_mean 27 = .ok (.ddiv, 1) := by decide +kernel
theorem dX2_mean_28 : decode cX2_mean 28 = .ok (.dreturn, 1) := by decide +kernel
set_option maxRecDepth 20000 in
theorem ggX2_digest_X0_total : GoodIn wsX2_digest wsX0_total := goodIn_r _ [11, 12, 13, 14, 15, 16, 17, 18, 19, 20, 21, 22, 23, 24, 25, 26, 10, 27, 28, 29, 30, 31, 32, 33, 34, 35, 36, 37, 38, 39, 40, 41, 42, 43, 44, 45, 46, 47, 67, 68, 69, 70, 71, 72, 73, 74, 75, 76, 77, 78, 79, 80, 81, 82, 83, 84, 85, 86, 87, 88, 89] (by decide +kernel) (by decide +kernel)
set_option maxRecDepth 20000 in
theorem gX2_digest_X0_total : GoodIn wsX2_digest (wsV RX2 108 RX0 yX0_total wsX0_total) := goodIn_app (goodIn_of _ (by decide +kernel)) ggX2_digest_X0_total
set_option maxRecDepth 20000 in
theorem ggX2_digest_X0_factOf : GoodIn wsX2_digest wsX0_factOf := goodIn_r _ [51, 17, 52, 53, 54, 55, 12, 23, 56, 57, 58, 59, 60, 32, 61, 62, 63, 64, 67, 68, 69, 70, 71, 72, 73, 74, 75, 76, 77, 78, 79, 80, 81, 82, 83, 84, 85, 86, 87, 88, 89] (by decide +kernel) (by decide +kernel)
set_option maxRecDepth 20000 in
theorem gX2_digest_X0_factOf : GoodIn wsX2_digest (wsV RX2 103 RX0 yX0_factOf wsX0_factOf) := goodIn_app (goodIn_of _ (by decide +kernel)) ggX2_digest_X0_factOf
theorem dX2_digest_0 : decode cX2_digest 0 = .ok (.ldc2_w 144, 3) := by decide +kernel
theorem dX2_digest_3 : decode cX2_digest 3 = .ok (.lstore_n 1, 1) := by decide +kernel
theorem dX2_digest_4 : decode cX2_digest 4 = .ok (.iconst 0, 1) := by decide +kernel
theorem dX2_digest_5 : decode cX2_digest 5 = .ok (.istore_n 3, 1) := by decide +kernel
theorem dX2_digest_6 : decode cX2_digest 6 = .ok (.iload_n 3, 1) := by decide +kernel
theorem dX2_digest_7 : decode cX2_digest 7 = .ok (.bipush 12, 2) := by decide +kernel
theorem dX2_digest_9 : decode cX2_digest 9 = .ok (.if_icmp .ge 25, 3) := by decide +kernel
theorem dX2_digest_12 : decode cX2_digest 12 = .ok (.lload_n 1, 1) := by decide +kernel
theorem dX2_digest_13 : decode cX2_digest 13 = .ok (.ldc2_w 146, 3) := by decide +kernel
theorem dX2_digest_16 : decode cX2_digest 16 = .ok (.lmul, 1) := by decide +kernel
theorem dX2_digest_17 : decode cX2_digest 17 = .ok (.aload_n 0, 1) := by decide +kernel
theorem dX2_digest_18 : decode cX2_digest 18 = .ok (.getfield 10, 3) := by decide +kernel
theorem dX2_digest_21 : decode cX2_digest 21 = .ok (.iload_n 3, 1) := by decide +kernel
theorem dX2_digest_22 : decode cX2_digest 22 = .ok (.invokevirtual 108, 3) := by decide +kernel
theorem dX2_digest_25 : decode cX2_digest 25 = .ok (.i2l, 1) := by decide +kernel
theorem dX2_digest_26 : decode cX2_digest 26 = .ok (.ladd, 1) := by decide +kernel
theorem dX2_digest_27 : decode cX2_digest 27 = .ok (.lstore_n 1, 1) := by decide +kernel
theorem dX2_digest_28 : decode cX2_digest 28 = .ok (.iinc 3 1, 3) := by decide +kernel
theorem dX2_digest_31 : decode cX2_digest 31 = .ok (.goto (-25), 3) := by decide +kernel
theorem dX2_digest_34 : decode cX2_digest 34 = .ok (.iconst 0, 1) := by decide +kernel
theorem dX2_digest_35 : decode cX2_digest 35 = .ok (.istore_n 3, 1) := by decide +kernel
theorem dX2_digest_36 : decode cX2_digest 36 = .ok (.iload_n 3, 1) := by decide +kernel
theorem dX2_digest_37 : decode cX2_digest 37 = .ok (.bipush 8, 2) := by decide +kernel
theorem dX2_digest_39 : decode cX2_digest 39 = .ok (.if_icmp .ge 26, 3) := by decide +kernel
theorem dX2_digest_42 : decode cX2_digest 42 = .ok (.lload_n 1, 1) := by decide +kernel
theorem dX2_digest_43 : decode cX2_digest 43 = .ok (.ldc2_w 146, 3) := by decide +kernel
theorem dX2_digest_46 : decode cX2_digest 46 = .ok (.lmul, 1) := by decide +kernel
theorem dX2_digest_47 : decode cX2_digest 47 = .ok (.aload_n 0, 1) := by decide +kernel
theorem dX2_digest_48 : decode cX2_digest 48 = .ok (.getfield 10, 3) := by decide +kernel
theorem dX2_digest_51 : decode cX2_digest 51 = .ok (.getfield 90, 3) := by decide +kernel
theorem dX2_digest_54 : decode cX2_digest 54 = .ok (.iload_n 3, 1) := by decide +kernel
theorem dX2_digest_55 : decode cX2_digest 55 = .ok (.iaload, 1) := by decide +kernel
theorem dX2_digest_56 : decode cX2_digest 56 = .ok (.i2l, 1) := by decide +kernel
theorem dX2_digest_57 : decode cX2_digest 57 = .ok (.ladd, 1) := by decide +kernel
theorem dX2_digest_58 : decode cX2_digest 58 = .ok (.lstore_n 1, 1) := by decide +kernel
theorem dX2_digest_59 : decode cX2_digest 59 = .ok (.iinc 3 1, 3) := by decide +kernel
theorem dX2_digest_62 : decode cX2_digest 62 = .ok (.goto (-26), 3) := by decide +kernel
theorem dX2_digest_65 : decode cX2_digest 65 = .ok (.iconst 0, 1) := by decide +kernel
theorem dX2_digest_66 : decode cX2_digest 66 = .ok (.istore_n 3, 1) := by decide +kernel
theorem dX2_digest_67 : decode cX2_digest 67 = .ok (.iload_n 3, 1) := by decide +kernel
theorem dX2_digest_68 : decode cX2_digest 68 = .ok (.aload_n 0, 1) := by decide +kernel
theorem dX2_digest_69 : decode cX2_digest 69 = .ok (.getfield 10, 3) := by decide +kernel
theorem dX2_digest_72 : decode cX2_digest 72 = .ok (.getfield 26, 3) := by decide +kernel
theorem dX2_digest_75 : decode cX2_digest 75 = .ok (.getfield 30, 3) := by decide +kernel
theorem dX2_digest_78 : decode cX2_digest 78 = .ok (.if_icmp .ge 43, 3) := by decide +kernel
theorem dX2_digest_81 : decode cX2_digest 81 = .ok (.iconst 0, 1) := by decide +kernel
theorem dX2_digest_82 : decode cX2_digest 82 = .ok (.istore 4, 2) := by decide +kernel
theorem dX2_digest_84 : decode cX2_digest 84 = .ok (.iload 4, 2) := by decide +kernel
theorem dX2_digest_86 : decode cX2_digest 86 = .ok (.bipush 7, 2) := by decide +kernel
theorem dX2_digest_88 : decode cX2_digest 88 = .ok (.if_icmp .ge 27, 3) := by decide +kernel
theorem dX2_digest_91 : decode cX2_digest 91 = .ok (.lload_n 1, 1) := by decide +kernel
theorem dX2_digest_92 : decode cX2_digest 92 = .ok (.ldc2_w 146, 3) := by decide +kernel
theorem dX2_digest_95 : decode cX2_digest 95 = .ok (.lmul, 1) := by decide +kernel
theorem dX2_digest_96 : decode cX2_digest 96 = .ok (.aload_n 0, 1) := by decide +kernel
theorem dX2_digest_97 : decode cX2_digest 97 = .ok (.getfield 10, 3) := by decide +kernel
theorem dX2_digest_100 : decode cX2_digest 100 = .ok (.iload_n 3, 1) := by decide +kernel
theorem dX2_digest_101 : decode cX2_digest 101 = .ok (.iload 4, 2) := by decide +kernel
theorem dX2_digest_103 : decode cX2_digest 103 = .ok (.invokevirtual 103, 3) := by decide +kernel
theorem dX2_digest_106 : decode cX2_digest 106 = .ok (.i2l, 1) := by decide +kernel
theorem dX2_digest_107 : decode cX2_digest 107 = .ok (.ladd, 1) := by decide +kernel
theorem dX2_digest_108 : decode cX2_digest 108 = .ok (.lstore_n 1, 1) := by decide +kernel
theorem dX2_digest_109 : decode cX2_digest 109 = .ok (.iinc 4 1, 3) := by decide +kernel
theorem dX2_digest_112 : decode cX2_digest 112 = .ok (.goto (-28), 3) := by decide +kernel
theorem dX2_digest_115 : decode cX2_digest 115 = .ok (.iinc 3 1, 3) := by decide +kernel
theorem dX2_digest_118 : decode cX2_digest 118 = .ok (.goto (-51), 3) := by decide +kernel
theorem dX2_digest_121 : decode cX2_digest 121 = .ok (.lload_n 1, 1) := by decide +kernel
theorem dX2_digest_122 : decode cX2_digest 122 = .ok (.lreturn, 1) := by decide +kernel
theorem dX2_isSpan_0 : decode cX2_isSpan 0 = .ok (.iload_n 0, 1) := by decide +kernel
theorem dX2_isSpan_1 : decode cX2_isSpan 1 = .ok (.iconst 1, 1) := by decide +kernel
theorem dX2_isSpan_2 : decode cX2_isSpan 2 = .ok (.if_icmp .lt 14, 3) := by decide +kernel
theorem dX2_isSpan_5 : decode cX2_isSpan 5 = .ok (.iload_n 0, 1) := by decide +kernel
theorem dX2_isSpan_6 : decode cX2_isSpan 6 = .ok (.sipush 240, 3) := by decide +kernel
theorem dX2_isSpan_9 : decode cX2_isSpan 9 = .ok (.if_icmp .gt 7, 3) := by decide +kernel
theorem dX2_isSpan_12 : decode cX2_isSpan 12 = .ok (.iconst 1, 1) := by decide +kernel
theorem dX2_isSpan_13 : decode cX2_isSpan 13 = .ok (.goto 4, 3) := by decide +kernel
theorem dX2_isSpan_16 : decode cX2_isSpan 16 = .ok (.iconst 0, 1) := by decide +kernel
theorem dX2_isSpan_17 : decode cX2_isSpan 17 = .ok (.ireturn, 1) := by decide +kernel
set_option maxRecDepth 20000 in
theorem ggX2_waitWith_X0_copyFrom : GoodIn wsX2_waitWith wsX0_copyFrom := goodIn_r _ [10, 11, 12, 13, 14, 15, 16, 17, 18, 19, 20, 21, 22, 23, 24, 25, 26, 27, 28, 29, 30, 31, 32, 33, 34, 35, 36, 37, 38, 39, 40, 41, 42, 43, 118, 119, 120, 121, 122, 123, 124, 125, 126, 127, 128, 129, 130, 131, 132, 133, 134, 135, 136, 137, 138, 139, 140] (by decide +kernel) (by decide +kernel)
set_option maxRecDepth 20000 in
theorem gX2_waitWith_X0_copyFrom : GoodIn wsX2_waitWith (wsV RX2 128 RX0 yX0_copyFrom wsX0_copyFrom) := goodIn_app (goodIn_of _ (by decide +kernel)) ggX2_waitWith_X0_copyFrom
set_option maxRecDepth 20000 in
theorem ggX2_waitWith_X0_goOn : GoodIn wsX2_waitWith wsX0_goOn := goodIn_r _ [47, 48, 49, 50, 9, 51, 16, 22, 52, 53, 11, 54, 55, 56, 57, 23, 15, 25, 58, 59, 60, 29, 61, 42, 43, 62, 63, 64, 65, 66, 67, 68, 69, 70, 71, 72, 73, 74, 75, 76, 77, 78, 12, 79, 24, 80, 81, 82, 83, 84, 85, 86, 87, 31, 88, 89, 90, 91, 38, 41, 92, 93, 94, 95, 33, 34, 35, 96, 97, 98, 99, 13, 14, 100, 101, 102, 103, 104, 105, 106, 107, 40, 32, 108, 109, 110, 111, 17, 112, 113, 114, 115, 118, 119, 120, 121, 122, 123, 124, 125, 126, 127, 128, 129, 130, 131, 132, 133, 134, 135, 136, 137, 138, 139, 140] (by decide +kernel) (by decide +kernel)
set_option maxRecDepth 20000 in
theorem gX2_waitWith_X0_goOn : GoodIn wsX2_waitWith (wsV RX2 124 RX0 yX0_goOn wsX0_goOn) := goodIn_app (goodIn_of _ (by decide +kernel)) ggX2_waitWith_X0_goOn
theorem dX2_waitWith_0 : decode cX2_waitWith 0 = .ok (.aload_n 0, 1) := by decide +kernel
theorem dX2_waitWith_1 : decode cX2_waitWith 1 = .ok (.getfield 16, 3) := by decide +kernel
theorem dX2_waitWith_4 : decode cX2_waitWith 4 = .ok (.aload_n 0, 1) := by decide +kernel
theorem dX2_waitWith_5 : decode cX2_waitWith 5 = .ok (.getfield 10, 3) := by decide +kernel
theorem dX2_waitWith_8 : decode cX2_waitWith 8 = .ok (.invokevirtual 128, 3) := by decide +kernel
theorem dX2_waitWith_11 : decode cX2_waitWith 11 = .ok (.aload_n 0, 1) := by decide +kernel
theorem dX2_waitWith_12 : decode cX2_waitWith 12 = .ok (.getfield 16, 3) := by decide +kernel
theorem dX2_waitWith_15 : decode cX2_waitWith 15 = .ok (.iload_n 1, 1) := by decide +kernel
theorem dX2_waitWith_16 : decode cX2_waitWith 16 = .ok (.putfield 73, 3) := by decide +kernel
theorem dX2_waitWith_19 : decode cX2_waitWith 19 = .ok (.aload_n 0, 1) := by decide +kernel
theorem dX2_waitWith_20 : decode cX2_waitWith 20 = .ok (.getfield 16, 3) := by decide +kernel
theorem dX2_waitWith_23 : decode cX2_waitWith 23 = .ok (.iload_n 2, 1) := by decide +kernel
theorem dX2_waitWith_24 : decode cX2_waitWith 24 = .ok (.putfield 83, 3) := by decide +kernel
theorem dX2_waitWith_27 : decode cX2_waitWith 27 = .ok (.aload_n 0, 1) := by decide +kernel
theorem dX2_waitWith_28 : decode cX2_waitWith 28 = .ok (.getfield 16, 3) := by decide +kernel
theorem dX2_waitWith_31 : decode cX2_waitWith 31 = .ok (.iload_n 3, 1) := by decide +kernel
theorem dX2_waitWith_32 : decode cX2_waitWith 32 = .ok (.invokevirtual 124, 3) := by decide +kernel
theorem dX2_waitWith_35 : decode cX2_waitWith 35 = .ok (.aload_n 0, 1) := by decide +kernel
theorem dX2_waitWith_36 : decode cX2_waitWith 36 = .ok (.getfield 16, 3) := by decide +kernel
theorem dX2_waitWith_39 : decode cX2_waitWith 39 = .ok (.getfield 137, 3) := by decide +kernel
theorem dX2_waitWith_42 : decode cX2_waitWith 42 = .ok (.aload_n 0, 1) := by decide +kernel
theorem dX2_waitWith_43 : decode cX2_waitWith 43 = .ok (.getfield 10, 3) := by decide +kernel
theorem dX2_waitWith_46 : decode cX2_waitWith 46 = .ok (.getfield 137, 3) := by decide +kernel
theorem dX2_waitWith_49 : decode cX2_waitWith 49 = .ok (.isub, 1) := by decide +kernel
theorem dX2_waitWith_50 : decode cX2_waitWith 50 = .ok (.ireturn, 1) := by decide +kernel
theorem dJ9_floorMod_7cf53_0 : decode cJ9_floorMod_7cf53 0 = .ok (.iload_n 0, 1) := by decide +kernel
theorem dJ9_floorMod_7cf53_1 : decode cJ9_floorMod_7cf53 1 = .ok (.iload_n 1, 1) := by decide +kernel
theorem dJ9_floorMod_7cf53_2 : decode cJ9_floorMod_7cf53 2 = .ok (.irem, 1) := by decide +kernel
theorem dJ9_floorMod_7cf53_3 : decode cJ9_floorMod_7cf53 3 = .ok (.istore_n 2, 1) := by decide +kernel
theorem dJ9_floorMod_7cf53_4 : decode cJ9_floorMod_7cf53 4 = .ok (.iload_n 0, 1) := by decide +kernel
theorem dJ9_floorMod_7cf53_5 : decode cJ9_floorMod_7cf53 5 = .ok (.iload_n 1, 1) := by decide +kernel
theorem dJ9_floorMod_7cf53_6 : decode cJ9_floorMod_7cf53 6 = .ok (.ixor, 1) := by decide +kernel
theorem dJ9_floorMod_7cf53_7 : decode cJ9_floorMod_7cf53 7 = .ok (.ifCond .ge 11, 3) := by decide +kernel
theorem dJ9_floorMod_7cf53_10 : decode cJ9_floorMod_7cf53 10 = .ok (.iload_n 2, 1) := by decide +kernel
theorem dJ9_floorMod_7cf53_11 : decode cJ9_floorMod_7cf53 11 = .ok (.ifCond .eq 7, 3) := by decide +kernel
theorem dJ9_floorMod_7cf53_14 : decode cJ9_floorMod_7cf53 14 = .ok (.iload_n 2, 1) := by decide +kernel
theorem dJ9_floorMod_7cf53_15 : decode cJ9_floorMod_7cf53 15 = .ok (.iload_n 1, 1) := by decide +kernel
theorem dJ9_floorMod_7cf53_16 : decode cJ9_floorMod_7cf53 16 = .ok (.iadd, 1) := by decide +kernel
theorem dJ9_floorMod_7cf53_17 : decode cJ9_floorMod_7cf53 17 = .ok (.ireturn, 1) := by decide +kernel
theorem dJ9_floorMod_7cf53_18 : decode cJ9_floorMod_7cf53 18 = .ok (.iload_n 2, 1) := by decide +kernel
theorem dJ9_floorMod_7cf53_19 : decode cJ9_floorMod_7cf53 19 = .ok (.ireturn, 1) := by decide +kernel
theorem dJ9_max_7cf53_0 : decode cJ9_max_7cf53 0 = .ok (.iload_n 0, 1) := by decide +kernel
theorem dJ9_max_7cf53_1 : decode cJ9_max_7cf53 1 = .ok (.iload_n 1, 1) := by decide +kernel
theorem dJ9_max_7cf53_2 : decode cJ9_max_7cf53 2 = .ok (.if_icmp .lt 7, 3) := by decide +kernel
theorem dJ9_max_7cf53_5 : decode cJ9_max_7cf53 5 = .ok (.iload_n 0, 1) := by decide +kernel
theorem dJ9_max_7cf53_6 : decode cJ9_max_7cf53 6 = .ok (.goto 4, 3) := by decide +kernel
theorem dJ9_max_7cf53_9 : decode cJ9_max_7cf53 9 = .ok (.iload_n 1, 1) := by decide +kernel
theorem dJ9_max_7cf53_10 : decode cJ9_max_7cf53 10 = .ok (.ireturn, 1) := by decide +kernel
theorem dJ9_min_7cf53_0 : decode cJ9_min_7cf53 0 = .ok (.iload_n 0, 1) := by decide +kernel
theorem dJ9_min_7cf53_1 : decode cJ9_min_7cf53 1 = .ok (.iload_n 1, 1) := by decide +kernel
theorem dJ9_min_7cf53_2 : decode cJ9_min_7cf53 2 = .ok (.if_icmp .gt 7, 3) := by decide +kernel
theorem dJ9_min_7cf53_5 : decode cJ9_min_7cf53 5 = .ok (.iload_n 0, 1) := by decide +kernel
theorem dJ9_min_7cf53_6 : decode cJ9_min_7cf53 6 = .ok (.goto 4, 3) := by decide +kernel
theorem dJ9_min_7cf53_9 : decode cJ9_min_7cf53 9 = .ok (.iload_n 1, 1) := by decide +kernel
theorem dJ9_min_7cf53_10 : decode cJ9_min_7cf53 10 = .ok (.ireturn, 1) := by decide +kernel
theorem dL_below_0 : decode cL_below 0 = .ok (.iload_n 0, 1) := by decide +kernel
theorem dL_below_1 : decode cL_below 1 = .ok (.ldc 7, 2) := by decide +kernel
theorem dL_below_3 : decode cL_below 3 = .ok (.iand, 1) := by decide +kernel
theorem dL_below_4 : decode cL_below 4 = .ok (.iload_n 1, 1) := by decide +kernel
theorem dL_below_5 : decode cL_below 5 = .ok (.irem, 1) := by decide +kernel
theorem dL_below_6 : decode cL_below 6 = .ok (.ireturn, 1) := by decide +kernel
theorem dL_cell_0 : decode cL_cell 0 = .ok (.iload_n 1, 1) := by decide +kernel
theorem dL_cell_1 : decode cL_cell 1 = .ok (.aload_n 0, 1) := by decide +kernel
theorem dL_cell_2 : decode cL_cell 2 = .ok (.arraylength, 1) := by decide +kernel
theorem dL_cell_3 : decode cL_cell 3 = .ok (.if_icmp .ge 9, 3) := by decide +kernel
theorem dL_cell_6 : decode cL_cell 6 = .ok (.aload_n 0, 1) := by decide +kernel
theorem dL_cell_7 : decode cL_cell 7 = .ok (.iload_n 1, 1) := by decide +kernel
theorem dL_cell_8 : decode cL_cell 8 = .ok (.iaload, 1) := by decide +kernel
theorem dL_cell_9 : decode cL_cell 9 = .ok (.goto 9, 3) := by decide +kernel
theorem dL_cell_12 : decode cL_cell 12 = .ok (.ldc 8, 2) := by decide +kernel
theorem dL_cell_14 : decode cL_cell 14 = .ok (.iload_n 1, 1) := by decide +kernel
theorem dL_cell_15 : decode cL_cell 15 = .ok (.iconst 3, 1) := by decide +kernel
theorem dL_cell_16 : decode cL_cell 16 = .ok (.iadd, 1) := by decide +kernel
theorem dL_cell_17 : decode cL_cell 17 = .ok (.imul, 1) := by decide +kernel
theorem dL_cell_18 : decode cL_cell 18 = .ok (.ireturn, 1) := by decide +kernel
set_option maxRecDepth 20000 in
theorem ggL_bridge_X2_init : GoodIn wsL_bridge wsX2_init := goodIn_r _ [6, 7, 8, 9, 10, 11, 12, 13, 14, 15, 16, 17, 18, 19, 20, 21, 22, 23, 24, 25, 26, 27, 28, 29, 30, 31, 32, 33, 34, 35, 36, 37, 38, 39, 40, 41, 42, 43, 44, 45, 46, 47, 193, 194, 195, 196, 197, 198, 199, 200, 201, 202, 203, 191, 192, 204, 205, 206, 207, 208, 209, 210, 211, 212, 213, 214, 215] (by decide +kernel) (by decide +kernel)
set_option maxRecDepth 20000 in
theorem gL_bridge_X2_init : GoodIn wsL_bridge (wsX2_init) := ggL_bridge_X2_init
set_option maxRecDepth 20000 in
theorem ggL_bridge_L_cell : GoodIn wsL_bridge wsL_cell := goodIn_r _ [51, 52] (by decide +kernel) (by decide +kernel)
set_option maxRecDepth 20000 in
theorem gL_bridge_L_cell : GoodIn wsL_bridge (va_wsS RL 12 yL_cell wsL_cell) := goodIn_app (goodIn_of _ (by decide +kernel)) ggL_bridge_L_cell
set_option maxRecDepth 20000 in
theorem ggL_bridge_L_below : GoodIn wsL_bridge wsL_below := goodIn_r _ [55, 56] (by decide +kernel) (by decide +kernel)
set_option maxRecDepth 20000 in
theorem gL_bridge_L_below : GoodIn wsL_bridge (va_wsS RL 18 yL_below wsL_below) := goodIn_app (goodIn_of _ (by decide +kernel)) ggL_bridge_L_below
set_option maxRecDepth 20000 in
theorem ggL_bridge_X2_setCold : GoodIn wsL_bridge wsX2_setCold := goodIn_ca (goodIn_ca (goodIn_r _ [60, 61, 62, 63, 64, 13, 65, 191, 192, 193, 194, 195, 196, 197, 198, 199, 200, 201, 202, 203] (by decide +kernel) (by decide +kernel)) (goodIn_sub (fun _ h => List.mem_cons_of_mem _ (List.mem_append_left _ (List.mem_append_left _ (List.mem_append_right _ h)))) (by decide +kernel))) (goodIn_sub (fun _ h => List.mem_cons_of_mem _ (List.mem_append_left _ (List.mem_append_right _ h))) (by decide +kernel))
set_option maxRecDepth 20000 in
theorem gL_bridge_X2_setCold : GoodIn wsL_bridge (wsV RL 22 RX2 yX2_setCold wsX2_setCold) := goodIn_app (goodIn_of _ (by decide +kernel)) ggL_bridge_X2_setCold
set_option maxRecDepth 20000 in
theorem ggL_bridge_X2_poise : GoodIn wsL_bridge wsX2_poise := goodIn_ca (goodIn_ca (goodIn_r _ [69, 63, 64, 70, 71, 13, 72, 73, 191, 192, 193, 194, 195, 196, 197, 198, 199, 200, 201, 202, 203] (by decide +kernel) (by decide +kernel)) (goodIn_sub (fun _ h => List.mem_cons_of_mem _ (List.mem_append_left _ (List.mem_append_right _ h))) (by decide +kernel))) (goodIn_sub (fun _ h => List.mem_cons_of_mem _ (List.mem_append_right _ h)) (by decide +kernel))
set_option maxRecDepth 20000 in
theorem gL_bridge_X2_poise : GoodIn wsL_bridge (wsV RL 25 RX2 yX2_poise wsX2_poise) := goodIn_app (goodIn_of _ (by decide +kernel)) ggL_bridge_X2_poise
set_option maxRecDepth 20000 in
theorem ggL_bridge_X2_ring : GoodIn wsL_bridge wsX2_ring := goodIn_ca (goodIn_r _ [77, 63, 64, 13, 78, 191, 192, 193, 194, 195, 196, 197, 198, 199, 200, 201, 202, 203] (by decide +kernel) (by decide +kernel)) (goodIn_sub (fun _ h => List.mem_cons_of_mem _ (List.mem_append_left _ (List.mem_append_right _ h))) (by decide +kernel))
set_option maxRecDepth 20000 in
theorem gL_bridge_X2_ring : GoodIn wsL_bridge (wsV RL 29 RX2 yX2_ring wsX2_ring) := goodIn_app (goodIn_of _ (by decide +kernel)) ggL_bridge_X2_ring
set_option maxRecDepth 20000 in
theorem ggL_bridge_X2_come : GoodIn wsL_bridge wsX2_come := goodIn_ca (goodIn_ca (goodIn_r _ [82, 63, 64, 70, 71, 13, 83, 84, 85, 86, 87, 88, 28, 89, 36, 40, 41, 42, 43, 44, 90, 91, 92, 93, 38, 39, 46, 47, 191, 192, 193, 194, 195, 196, 197, 198, 199, 200, 201, 202, 203, 204, 205, 206, 207, 208, 209, 210, 211, 212, 213, 214, 215] (by decide +kernel) (by decide +kernel)) (goodIn_sub (fun _ h => List.mem_cons_of_mem _ (List.mem_append_left _ (List.mem_append_right _ h))) (by decide +kernel))) (goodIn_sub (fun _ h => List.mem_cons_of_mem _ (List.mem_append_right _ h)) (by decide +kernel))
set_option maxRecDepth 20000 in
theorem gL_bridge_X2_come : GoodIn wsL_bridge (wsV RL 32 RX2 yX2_come wsX2_come) := goodIn_app (goodIn_of _ (by decide +kernel)) ggL_bridge_X2_come
set_option maxRecDepth 20000 in
theorem ggL_bridge_X2_pass : GoodIn wsL_bridge wsX2_pass := goodIn_ca (goodIn_r _ [97, 63, 64, 13, 83, 98, 99, 100, 3, 101, 102, 103, 104, 12, 105, 106, 107, 108, 109, 23, 29, 110, 111, 18, 112, 113, 114, 115, 30, 22, 32, 116, 117, 118, 28, 119, 46, 47, 120, 121, 122, 123, 124, 125, 126, 127, 128, 129, 130, 131, 132, 133, 134, 135, 136, 19, 137, 31, 138, 139, 140, 141, 142, 143, 144, 145, 36, 146, 147, 148, 149, 42, 45, 90, 91, 92, 93, 38, 39, 40, 150, 151, 152, 153, 20, 21, 154, 155, 156, 157, 158, 159, 160, 161, 44, 37, 162, 163, 164, 165, 25, 166, 167, 168, 169, 191, 192, 193, 194, 195, 196, 197, 198, 199, 200, 201, 202, 203, 204, 205, 206, 207, 208, 209, 210, 211, 212, 213, 214, 215] (by decide +kernel) (by decide +kernel)) (goodIn_sub (fun _ h => List.mem_cons_of_mem _ (List.mem_append_left _ (List.mem_append_right _ h))) (by decide +kernel))
set_option maxRecDepth 20000 in
theorem gL_bridge_X2_pass : GoodIn wsL_bridge (wsV RL 36 RX2 yX2_pass wsX2_pass) := goodIn_app (goodIn_of _ (by decide +kernel)) ggL_bridge_X2_pass
set_option maxRecDepth 20000 in
theorem ggL_bridge_L_leave : GoodIn wsL_bridge wsL_leave := goodIn_ca (goodIn_ca (goodIn_r _ [172, 173, 174, 175, 176, 3, 177, 61, 62, 70, 71, 13, 83, 178, 85, 179, 143, 144, 28, 145, 36, 180, 147, 148, 149, 42, 45, 90, 91, 92, 93, 38, 39, 46, 47, 40, 181, 182, 183, 184, 43, 191, 192, 193, 194, 195, 196, 197, 198, 199, 200, 201, 202, 203, 204, 205, 206, 207, 208, 209, 210, 211, 212, 213, 214, 215] (by decide +kernel) (by decide +kernel)) (goodIn_sub (fun _ h => List.mem_cons_of_mem _ (List.mem_append_left _ (List.mem_append_left _ (List.mem_append_right _ h)))) (by decide +kernel))) (goodIn_sub (fun _ h => List.mem_cons_of_mem _ (List.mem_append_right _ h)) (by decide +kernel))
set_option maxRecDepth 20000 in
theorem gL_bridge_L_leave : GoodIn wsL_bridge (va_wsS RL 39 yL_leave wsL_leave) := goodIn_app (goodIn_of _ (by decide +kernel)) ggL_bridge_L_leave
set_option maxRecDepth 20000 in
theorem ggL_bridge_X2_crack : GoodIn wsL_bridge wsX2_crack := goodIn_r _ [188, 13, 189, 190, 140, 122, 141, 191, 192, 193, 194, 195, 196, 197, 198, 199, 200, 201, 202, 203] (by decide +kernel) (by decide +kernel)
set_option maxRecDepth 20000 in
theorem gL_bridge_X2_crack : GoodIn wsL_bridge (wsV RL 43 RX2 yX2_crack wsX2_crack) := goodIn_app (goodIn_of _ (by decide +kernel)) ggL_bridge_X2_crack
theorem dL_bridge_0 : decode cL_bridge 0 = .ok (.new 9, 3) := by decide +kernel
theorem dL_bridge_3 : decode cL_bridge 3 = .ok (.dup, 1) := by decide +kernel
theorem dL_bridge_4 : decode cL_bridge 4 = .ok (.invokespecial 11, 3) := by decide +kernel
theorem dL_bridge_7 : decode cL_bridge 7 = .ok (.astore_n 1, 1) := by decide +kernel
theorem dL_bridge_8 : decode cL_bridge 8 = .ok (.iconst 0, 1) := by decide +kernel
theorem dL_bridge_9 : decode cL_bridge 9 = .ok (.istore_n 2, 1) := by decide +kernel
theorem dL_bridge_10 : decode cL_bridge 10 = .ok (.iload_n 2, 1) := by decide +kernel
theorem dL_bridge_11 : decode cL_bridge 11 = .ok (.bipush 8, 2) := by decide +kernel
theorem dL_bridge_13 : decode cL_bridge 13 = .ok (.if_icmp .ge 31, 3) := by decide +kernel
theorem dL_bridge_16 : decode cL_bridge 16 = .ok (.aload_n 1, 1) := by decide +kernel
theorem dL_bridge_17 : decode cL_bridge 17 = .ok (.iload_n 2, 1) := by decide +kernel
theorem dL_bridge_18 : decode cL_bridge 18 = .ok (.aload_n 0, 1) := by decide +kernel
theorem dL_bridge_19 : decode cL_bridge 19 = .ok (.iconst 0, 1) := by decide +kernel
theorem dL_bridge_20 : decode cL_bridge 20 = .ok (.invokestatic 12, 3) := by decide +kernel
theorem dL_bridge_23 : decode cL_bridge 23 = .ok (.iconst 2, 1) := by decide +kernel
theorem dL_bridge_24 : decode cL_bridge 24 = .ok (.iload_n 2, 1) := by decide +kernel
theorem dL_bridge_25 : decode cL_bridge 25 = .ok (.imul, 1) := by decide +kernel
theorem dL_bridge_26 : decode cL_bridge 26 = .ok (.ishr, 1) := by decide +kernel
theorem dL_bridge_27 : decode cL_bridge 27 = .ok (.bipush 7, 2) := by decide +kernel
theorem dL_bridge_29 : decode cL_bridge 29 = .ok (.invokestatic 18, 3) := by decide +kernel
theorem dL_bridge_32 : decode cL_bridge 32 = .ok (.iconst 3, 1) := by decide +kernel
theorem dL_bridge_33 : decode cL_bridge 33 = .ok (.isub, 1) := by decide +kernel
theorem dL_bridge_34 : decode cL_bridge 34 = .ok (.invokevirtual 22, 3) := by decide +kernel
theorem dL_bridge_37 : decode cL_bridge 37 = .ok (.pop, 1) := by decide +kernel
theorem dL_bridge_38 : decode cL_bridge 38 = .ok (.iinc 2 1, 3) := by decide +kernel
theorem dL_bridge_41 : decode cL_bridge 41 = .ok (.goto (-31), 3) := by decide +kernel
theorem dL_bridge_44 : decode cL_bridge 44 = .ok (.aload_n 1, 1) := by decide +kernel
theorem dL_bridge_45 : decode cL_bridge 45 = .ok (.aload_n 0, 1) := by decide +kernel
theorem dL_bridge_46 : decode cL_bridge 46 = .ok (.iconst 1, 1) := by decide +kernel
theorem dL_bridge_47 : decode cL_bridge 47 = .ok (.invokestatic 12, 3) := by decide +kernel
theorem dL_bridge_50 : decode cL_bridge 50 = .ok (.bipush 31, 2) := by decide +kernel
theorem dL_bridge_52 : decode cL_bridge 52 = .ok (.invokestatic 18, 3) := by decide +kernel
theorem dL_bridge_55 : decode cL_bridge 55 = .ok (.invokevirtual 25, 3) := by decide +kernel
theorem dL_bridge_58 : decode cL_bridge 58 = .ok (.pop, 1) := by decide +kernel
theorem dL_bridge_59 : decode cL_bridge 59 = .ok (.aload_n 1, 1) := by decide +kernel
theorem dL_bridge_60 : decode cL_bridge 60 = .ok (.aload_n 0, 1) := by decide +kernel
theorem dL_bridge_61 : decode cL_bridge 61 = .ok (.iconst 2, 1) := by decide +kernel
theorem dL_bridge_62 : decode cL_bridge 62 = .ok (.invokestatic 12, 3) := by decide +kernel
theorem dL_bridge_65 : decode cL_bridge 65 = .ok (.bipush 9, 2) := by decide +kernel
theorem dL_bridge_67 : decode cL_bridge 67 = .ok (.invokestatic 18, 3) := by decide +kernel
theorem dL_bridge_70 : decode cL_bridge 70 = .ok (.iconst 5, 1) := by decide +kernel
theorem dL_bridge_71 : decode cL_bridge 71 = .ok (.irem, 1) := by decide +kernel
theorem dL_bridge_72 : decode cL_bridge 72 = .ok (.invokevirtual 29, 3) := by decide +kernel
theorem dL_bridge_75 : decode cL_bridge 75 = .ok (.pop, 1) := by decide +kernel
theorem dL_bridge_76 : decode cL_bridge 76 = .ok (.aload_n 0, 1) := by decide +kernel
theorem dL_bridge_77 : decode cL_bridge 77 = .ok (.iconst 3, 1) := by decide +kernel
theorem dL_bridge_78 : decode cL_bridge 78 = .ok (.invokestatic 12, 3) := by decide +kernel
theorem dL_bridge_81 : decode cL_bridge 81 = .ok (.aload_n 0, 1) := by decide +kernel
theorem dL_bridge_82 : decode cL_bridge 82 = .ok (.iconst 3, 1) := by decide +kernel
theorem dL_bridge_83 : decode cL_bridge 83 = .ok (.invokestatic 12, 3) := by decide +kernel
theorem dL_bridge_86 : decode cL_bridge 86 = .ok (.iconst 5, 1) := by decide +kernel
theorem dL_bridge_87 : decode cL_bridge 87 = .ok (.ishr, 1) := by decide +kernel
theorem dL_bridge_88 : decode cL_bridge 88 = .ok (.iconst 3, 1) := by decide +kernel
theorem dL_bridge_89 : decode cL_bridge 89 = .ok (.invokestatic 18, 3) := by decide +kernel
theorem dL_bridge_92 : decode cL_bridge 92 = .ok (.ifCond .ne 8, 3) := by decide +kernel
theorem dL_bridge_95 : decode cL_bridge 95 = .ok (.bipush 41, 2) := by decide +kernel
theorem dL_bridge_97 : decode cL_bridge 97 = .ok (.goto 5, 3) := by decide +kernel
theorem dL_bridge_100 : decode cL_bridge 100 = .ok (.bipush 15, 2) := by decide +kernel
theorem dL_bridge_102 : decode cL_bridge 102 = .ok (.invokestatic 18, 3) := by decide +kernel
theorem dL_bridge_105 : decode cL_bridge 105 = .ok (.istore_n 2, 1) := by decide +kernel
theorem dL_bridge_106 : decode cL_bridge 106 = .ok (.iconst 0, 1) := by decide +kernel
theorem dL_bridge_107 : decode cL_bridge 107 = .ok (.istore_n 3, 1) := by decide +kernel
theorem dL_bridge_108 : decode cL_bridge 108 = .ok (.iload_n 3, 1) := by decide +kernel
theorem dL_bridge_109 : decode cL_bridge 109 = .ok (.iload_n 2, 1) := by decide +kernel
theorem dL_bridge_110 : decode cL_bridge 110 = .ok (.if_icmp .ge 135, 3) := by decide +kernel
theorem dL_bridge_113 : decode cL_bridge 113 = .ok (.aload_n 0, 1) := by decide +kernel
theorem dL_bridge_114 : decode cL_bridge 114 = .ok (.iconst 4, 1) := by decide +kernel
theorem dL_bridge_115 : decode cL_bridge 115 = .ok (.iload_n 3, 1) := by decide +kernel
theorem dL_bridge_116 : decode cL_bridge 116 = .ok (.bipush 8, 2) := by decide +kernel
theorem dL_bridge_118 : decode cL_bridge 118 = .ok (.irem, 1) := by decide +kernel
theorem dL_bridge_119 : decode cL_bridge 119 = .ok (.iadd, 1) := by decide +kernel
theorem dL_bridge_120 : decode cL_bridge 120 = .ok (.invokestatic 12, 3) := by decide +kernel
theorem dL_bridge_123 : decode cL_bridge 123 = .ok (.iload_n 3, 1) := by decide +kernel
theorem dL_bridge_124 : decode cL_bridge 124 = .ok (.bipush 8, 2) := by decide +kernel
theorem dL_bridge_126 : decode cL_bridge 126 = .ok (.idiv, 1) := by decide +kernel
theorem dL_bridge_127 : decode cL_bridge 127 = .ok (.iconst 4, 1) := by decide +kernel
theorem dL_bridge_128 : decode cL_bridge 128 = .ok (.imul, 1) := by decide +kernel
theorem dL_bridge_129 : decode cL_bridge 129 = .ok (.ishr, 1) := by decide +kernel
theorem dL_bridge_130 : decode cL_bridge 130 = .ok (.bipush 19, 2) := by decide +kernel
theorem dL_bridge_132 : decode cL_bridge 132 = .ok (.iload_n 3, 1) := by decide +kernel
theorem dL_bridge_133 : decode cL_bridge 133 = .ok (.imul, 1) := by decide +kernel
theorem dL_bridge_134 : decode cL_bridge 134 = .ok (.iadd, 1) := by decide +kernel
theorem dL_bridge_135 : decode cL_bridge 135 = .ok (.istore 4, 2) := by decide +kernel
theorem dL_bridge_137 : decode cL_bridge 137 = .ok (.aload_n 1, 1) := by decide +kernel
theorem dL_bridge_138 : decode cL_bridge 138 = .ok (.iload 4, 2) := by decide +kernel
theorem dL_bridge_140 : decode cL_bridge 140 = .ok (.iconst 2, 1) := by decide +kernel
theorem dL_bridge_141 : decode cL_bridge 141 = .ok (.invokestatic 18, 3) := by decide +kernel
theorem dL_bridge_144 : decode cL_bridge 144 = .ok (.ifCond .ne 7, 3) := by decide +kernel
theorem dL_bridge_147 : decode cL_bridge 147 = .ok (.iconst 1, 1) := by decide +kernel
theorem dL_bridge_148 : decode cL_bridge 148 = .ok (.goto 4, 3) := by decide +kernel
theorem dL_bridge_151 : decode cL_bridge 151 = .ok (.iconst 0, 1) := by decide +kernel
theorem dL_bridge_152 : decode cL_bridge 152 = .ok (.iconst 1, 1) := by decide +kernel
theorem dL_bridge_153 : decode cL_bridge 153 = .ok (.iload 4, 2) := by decide +kernel
theorem dL_bridge_155 : decode cL_bridge 155 = .ok (.iconst 2, 1) := by decide +kernel
theorem dL_bridge_156 : decode cL_bridge 156 = .ok (.ishr, 1) := by decide +kernel
theorem dL_bridge_157 : decode cL_bridge 157 = .ok (.bipush 6, 2) := by decide +kernel
theorem dL_bridge_159 : decode cL_bridge 159 = .ok (.invokestatic 18, 3) := by decide +kernel
theorem dL_bridge_162 : decode cL_bridge 162 = .ok (.iadd, 1) := by decide +kernel
theorem dL_bridge_163 : decode cL_bridge 163 = .ok (.invokevirtual 32, 3) := by decide +kernel
theorem dL_bridge_166 : decode cL_bridge 166 = .ok (.pop, 1) := by decide +kernel
theorem dL_bridge_167 : decode cL_bridge 167 = .ok (.iload 4, 2) := by decide +kernel
theorem dL_bridge_169 : decode cL_bridge 169 = .ok (.iconst 4, 1) := by decide +kernel
theorem dL_bridge_170 : decode cL_bridge 170 = .ok (.ishr, 1) := by decide +kernel
theorem dL_bridge_171 : decode cL_bridge 171 = .ok (.iconst 3, 1) := by decide +kernel
theorem dL_bridge_172 : decode cL_bridge 172 = .ok (.invokestatic 18, 3) := by decide +kernel
theorem dL_bridge_175 : decode cL_bridge 175 = .ok (.ifCond .ne 36, 3) := by decide +kernel
theorem dL_bridge_178 : decode cL_bridge 178 = .ok (.aload_n 1, 1) := by decide +kernel
theorem dL_bridge_179 : decode cL_bridge 179 = .ok (.iconst 1, 1) := by decide +kernel
theorem dL_bridge_180 : decode cL_bridge 180 = .ok (.iload 4, 2) := by decide +kernel
theorem dL_bridge_182 : decode cL_bridge 182 = .ok (.iconst 5, 1) := by decide +kernel
theorem dL_bridge_183 : decode cL_bridge 183 = .ok (.ishr, 1) := by decide +kernel
theorem dL_bridge_184 : decode cL_bridge 184 = .ok (.iload 4, 2) := by decide +kernel
theorem dL_bridge_186 : decode cL_bridge 186 = .ok (.bipush 6, 2) := by decide +kernel
theorem dL_bridge_188 : decode cL_bridge 188 = .ok (.ishr, 1) := by decide +kernel
theorem dL_bridge_189 : decode cL_bridge 189 = .ok (.iconst 4, 1) := by decide +kernel
theorem dL_bridge_190 : decode cL_bridge 190 = .ok (.invokestatic 18, 3) := by decide +kernel
theorem dL_bridge_193 : decode cL_bridge 193 = .ok (.ifCond .ne 8, 3) := by decide +kernel
theorem dL_bridge_196 : decode cL_bridge 196 = .ok (.bipush 80, 2) := by decide +kernel
theorem dL_bridge_198 : decode cL_bridge 198 = .ok (.goto 5, 3) := by decide +kernel
theorem dL_bridge_201 : decode cL_bridge 201 = .ok (.bipush 12, 2) := by decide +kernel
theorem dL_bridge_203 : decode cL_bridge 203 = .ok (.invokestatic 18, 3) := by decide +kernel
theorem dL_bridge_206 : decode cL_bridge 206 = .ok (.iadd, 1) := by decide +kernel
theorem dL_bridge_207 : decode cL_bridge 207 = .ok (.invokevirtual 36, 3) := by decide +kernel
theorem dL_bridge_210 : decode cL_bridge 210 = .ok (.pop, 1) := by decide +kernel
theorem dL_bridge_211 : decode cL_bridge 211 = .ok (.iload 4, 2) := by decide +kernel
theorem dL_bridge_213 : decode cL_bridge 213 = .ok (.bipush 7, 2) := by decide +kernel
theorem dL_bridge_215 : decode cL_bridge 215 = .ok (.ishr, 1) := by decide +kernel
theorem dL_bridge_216 : decode cL_bridge 216 = .ok (.bipush 9, 2) := by decide +kernel
theorem dL_bridge_218 : decode cL_bridge 218 = .ok (.invokestatic 18, 3) := by decide +kernel
theorem dL_bridge_221 : decode cL_bridge 221 = .ok (.ifCond .ne 18, 3) := by decide +kernel
theorem dL_bridge_224 : decode cL_bridge 224 = .ok (.aload_n 1, 1) := by decide +kernel
theorem dL_bridge_225 : decode cL_bridge 225 = .ok (.iload 4, 2) := by decide +kernel
theorem dL_bridge_227 : decode cL_bridge 227 = .ok (.iconst 3, 1) := by decide +kernel
theorem dL_bridge_228 : decode cL_bridge 228 = .ok (.ishr, 1) := by decide +kernel
theorem dL_bridge_229 : decode cL_bridge 229 = .ok (.iload_n 3, 1) := by decide +kernel
theorem dL_bridge_230 : decode cL_bridge 230 = .ok (.iconst 1, 1) := by decide +kernel
theorem dL_bridge_231 : decode cL_bridge 231 = .ok (.iadd, 1) := by decide +kernel
theorem dL_bridge_232 : decode cL_bridge 232 = .ok (.invokestatic 18, 3) := by decide +kernel
theorem dL_bridge_235 : decode cL_bridge 235 = .ok (.invokestatic 39, 3) := by decide +kernel
theorem dL_bridge_238 : decode cL_bridge 238 = .ok (.pop, 1) := by decide +kernel
theorem dL_bridge_239 : decode cL_bridge 239 = .ok (.iinc 3 1, 3) := by decide +kernel
theorem dL_bridge_242 : decode cL_bridge 242 = .ok (.goto (-134), 3) := by decide +kernel
theorem dL_bridge_245 : decode cL_bridge 245 = .ok (.aload_n 0, 1) := by decide +kernel
theorem dL_bridge_246 : decode cL_bridge 246 = .ok (.bipush 12, 2) := by decide +kernel
theorem dL_bridge_248 : decode cL_bridge 248 = .ok (.invokestatic 12, 3) := by decide +kernel
theorem dL_bridge_251 : decode cL_bridge 251 = .ok (.iconst 3, 1) := by decide +kernel
theorem dL_bridge_252 : decode cL_bridge 252 = .ok (.invokestatic 18, 3) := by decide +kernel
theorem dL_bridge_255 : decode cL_bridge 255 = .ok (.ifCond .ne 20, 3) := by decide +kernel
theorem dL_bridge_258 : decode cL_bridge 258 = .ok (.aload_n 1, 1) := by decide +kernel
theorem dL_bridge_259 : decode cL_bridge 259 = .ok (.aload_n 0, 1) := by decide +kernel
theorem dL_bridge_260 : decode cL_bridge 260 = .ok (.bipush 12, 2) := by decide +kernel
theorem dL_bridge_262 : decode cL_bridge 262 = .ok (.invokestatic 12, 3) := by decide +kernel
theorem dL_bridge_265 : decode cL_bridge 265 = .ok (.iconst 2, 1) := by decide +kernel
theorem dL_bridge_266 : decode cL_bridge 266 = .ok (.ishr, 1) := by decide +kernel
theorem dL_bridge_267 : decode cL_bridge 267 = .ok (.iconst 5, 1) := by decide +kernel
theorem dL_bridge_268 : decode cL_bridge 268 = .ok (.invokestatic 18, 3) := by decide +kernel
theorem dL_bridge_271 : decode cL_bridge 271 = .ok (.invokevirtual 29, 3) := by decide +kernel
theorem dL_bridge_274 : decode cL_bridge 274 = .ok (.pop, 1) := by decide +kernel
theorem dL_bridge_275 : decode cL_bridge 275 = .ok (.aload_n 0, 1) := by decide +kernel
theorem dL_bridge_276 : decode cL_bridge 276 = .ok (.bipush 13, 2) := by decide +kernel
theorem dL_bridge_278 : decode cL_bridge 278 = .ok (.invokestatic 12, 3) := by decide +kernel
theorem dL_bridge_281 : decode cL_bridge 281 = .ok (.iconst 3, 1) := by decide +kernel
theorem dL_bridge_282 : decode cL_bridge 282 = .ok (.invokestatic 18, 3) := by decide +kernel
theorem dL_bridge_285 : decode cL_bridge 285 = .ok (.ifCond .ne 8, 3) := by decide +kernel
theorem dL_bridge_288 : decode cL_bridge 288 = .ok (.aload_n 1, 1) := by decide +kernel
theorem dL_bridge_289 : decode cL_bridge 289 = .ok (.invokevirtual 43, 3) := by decide +kernel
theorem dL_bridge_292 : decode cL_bridge 292 = .ok (.pop, 1) := by decide +kernel
theorem dL_bridge_293 : decode cL_bridge 293 = .ok (.aload_n 1, 1) := by decide +kernel
theorem dL_bridge_294 : decode cL_bridge 294 = .ok (.areturn, 1) := by decide +kernel
set_option maxRecDepth 20000 in
theorem ggL_leave_X2_leave : GoodIn wsL_leave wsX2_leave := goodIn_ca (goodIn_ca (goodIn_r _ [6, 7, 8, 9, 10, 11, 12, 13, 14, 15, 16, 17, 18, 19, 20, 21, 22, 23, 24, 25, 26, 27, 28, 29, 30, 31, 32, 33, 34, 35, 36, 37, 38, 39, 40, 41, 42, 43, 44, 45, 46, 47, 48, 49, 50, 51, 52, 53, 54, 55, 56, 57, 58, 59, 60, 61, 62, 63, 64, 65] (by decide +kernel) (by decide +kernel)) (goodIn_sub (fun _ h => List.mem_cons_of_mem _ (List.mem_append_left _ (List.mem_append_right _ h))) (by decide +kernel))) (goodIn_sub (fun _ h => List.mem_cons_of_mem _ (List.mem_append_right _ h)) (by decide +kernel))
set_option maxRecDepth 20000 in
theorem gL_leave_X2_leave : GoodIn wsL_leave (wsV RL 47 RX2 yX2_leave wsX2_leave) := goodIn_app (goodIn_of _ (by decide +kernel)) ggL_leave_X2_leave
theorem dL_leave_0 : decode cL_leave 0 = .ok (.aload_n 0, 1) := by decide +kernel
theorem dL_leave_1 : decode cL_leave 1 = .ok (.iload_n 1, 1) := by decide +kernel
theorem dL_leave_2 : decode cL_leave 2 = .ok (.invokevirtual 47, 3) := by decide +kernel
theorem dL_leave_5 : decode cL_leave 5 = .ok (.ireturn, 1) := by decide +kernel
theorem dL_leave_6 : decode cL_leave 6 = .ok (.astore_n 2, 1) := by decide +kernel
theorem dL_leave_7 : decode cL_leave 7 = .ok (.iconst (-1), 1) := by decide +kernel
theorem dL_leave_8 : decode cL_leave 8 = .ok (.ireturn, 1) := by decide +kernel
set_option maxRecDepth 20000 in
theorem ggL_poise_X2_poise : GoodIn wsL_poise wsX2_poise := goodIn_ca (goodIn_ca (goodIn_r _ [6, 7, 8, 9, 10, 11, 12, 13, 14, 15, 16, 17, 18, 19, 20, 21, 22, 23, 24, 25, 26] (by decide +kernel) (by decide +kernel)) (goodIn_sub (fun _ h => List.mem_cons_of_mem _ (List.mem_append_left _ (List.mem_append_right _ h))) (by decide +kernel))) (goodIn_sub (fun _ h => List.mem_cons_of_mem _ (List.mem_append_right _ h)) (by decide +kernel))
set_option maxRecDepth 20000 in
theorem gL_poise_X2_poise : GoodIn wsL_poise (wsV RL 25 RX2 yX2_poise wsX2_poise) := goodIn_app (goodIn_of _ (by decide +kernel)) ggL_poise_X2_poise
theorem dL_poise_0 : decode cL_poise 0 = .ok (.aload_n 0, 1) := by decide +kernel
theorem dL_poise_1 : decode cL_poise 1 = .ok (.iload_n 1, 1) := by decide +kernel
theorem dL_poise_2 : decode cL_poise 2 = .ok (.invokevirtual 25, 3) := by decide +kernel
theorem dL_poise_5 : decode cL_poise 5 = .ok (.ireturn, 1) := by decide +kernel
theorem dL_poise_6 : decode cL_poise 6 = .ok (.astore_n 2, 1) := by decide +kernel
theorem dL_poise_7 : decode cL_poise 7 = .ok (.iconst (-1), 1) := by decide +kernel
theorem dL_poise_8 : decode cL_poise 8 = .ok (.ireturn, 1) := by decide +kernel
set_option maxRecDepth 20000 in
theorem ggL_law_L_bridge : GoodIn wsL_law wsL_bridge := goodIn_ca (goodIn_ca (goodIn_ca (goodIn_r _ [12, 13, 14, 15, 16, 17, 18, 19, 20, 21, 22, 23, 24, 25, 26, 27, 28, 29, 30, 31, 32, 33, 34, 35, 0, 36, 37, 38, 39, 40, 41, 42, 43, 44, 45, 46, 47, 48, 49, 50, 51, 52, 53, 54, 55, 56, 57, 58, 59, 60, 11, 61, 62, 63, 64, 65, 66, 67, 68, 69, 70, 71, 72, 73, 74, 75, 76, 77, 78, 79, 80, 81, 82, 83, 84, 85, 86, 87, 88, 89, 90, 91, 92, 93, 94, 95, 96, 97, 98, 99, 100, 101, 102, 103, 104, 105, 106, 107, 108, 109, 110, 111, 112, 113, 114, 115, 116, 117, 118, 119, 120, 121, 122, 123, 124, 125, 126, 127, 128, 129, 130, 3, 4, 5, 131, 132, 133, 134, 135, 136, 137, 138, 139, 140, 141, 142, 143, 144, 145, 146, 7, 8, 147, 148, 149, 150, 151, 152, 153, 154, 155, 156, 157, 158, 159, 160, 161, 162, 163, 164, 165, 166, 167, 168, 169, 170, 171, 172, 173, 174, 175, 176, 177, 178, 179, 180, 181, 182, 183, 184, 185, 186, 187, 188, 189, 190, 191, 192, 193, 194, 195, 271, 272, 273, 274, 275, 276, 277, 278, 279, 280, 281, 282, 283, 284, 285, 286, 287, 288, 289, 290, 291, 292, 293, 294, 295] (by decide +kernel) (by decide +kernel)) (goodIn_sub (fun _ h => List.mem_append_left _ (List.mem_append_left _ (List.mem_append_right _ h))) (by decide +kernel))) (goodIn_sub (fun _ h => List.mem_append_left _ (List.mem_append_right _ h)) (by decide +kernel))) (goodIn_sub (fun _ h => List.mem_append_right _ h) (by decide +kernel))
set_option maxRecDepth 20000 in
theorem gL_law_L_bridge : GoodIn wsL_law (va_wsS RL 51 yL_bridge wsL_bridge) := goodIn_app (goodIn_of _ (by decide +kernel)) ggL_law_L_bridge
set_option maxRecDepth 20000 in
theorem ggL_law_X2_setCold : GoodIn wsL_law wsX2_setCold := goodIn_ca (goodIn_ca (goodIn_r _ [70, 71, 72, 73, 74, 25, 75, 271, 272, 273, 274, 275, 276, 277, 278, 279, 280, 281, 282, 283] (by decide +kernel) (by decide +kernel)) (goodIn_sub (fun _ h => List.mem_append_left _ (List.mem_append_left _ (List.mem_append_right _ h))) (by decide +kernel))) (goodIn_sub (fun _ h => List.mem_append_left _ (List.mem_append_right _ h)) (by decide +kernel))
set_option maxRecDepth 20000 in
theorem gL_law_X2_setCold : GoodIn wsL_law (wsV RL 22 RX2 yX2_setCold wsX2_setCold) := goodIn_app (goodIn_of _ (by decide +kernel)) ggL_law_X2_setCold
set_option maxRecDepth 20000 in
theorem ggL_law_L_cell : GoodIn wsL_law wsL_cell := goodIn_r _ [61, 62] (by decide +kernel) (by decide +kernel)
set_option maxRecDepth 20000 in
theorem gL_law_L_cell : GoodIn wsL_law (va_wsS RL 12 yL_cell wsL_cell) := goodIn_app (goodIn_of _ (by decide +kernel)) ggL_law_L_cell
set_option maxRecDepth 20000 in
theorem ggL_law_X2_count : GoodIn wsL_law wsX2_count := goodIn_ca (goodIn_r _ [199, 71, 72, 25, 200, 201, 202, 24, 203, 30, 31, 32, 33, 34, 40, 204, 120, 121, 205, 35, 41, 122, 123, 124, 125, 43, 126, 127, 128, 39, 129, 57, 58, 130, 3, 4, 5, 131, 132, 133, 134, 135, 136, 137, 138, 271, 272, 273, 274, 275, 276, 277, 278, 279, 280, 281, 282, 283, 284, 285, 286, 287, 288, 289, 290, 291, 292, 293, 294, 295] (by decide +kernel) (by decide +kernel)) (goodIn_sub (fun _ h => List.mem_append_left _ (List.mem_append_left _ (List.mem_append_right _ h))) (by decide +kernel))
set_option maxRecDepth 20000 in
theorem gL_law_X2_count : GoodIn wsL_law (wsV RL 55 RX2 yX2_count wsX2_count) := goodIn_app (goodIn_of _ (by decide +kernel)) ggL_law_X2_count
set_option maxRecDepth 20000 in
theorem ggL_law_L_below : GoodIn wsL_law wsL_below := goodIn_r _ [65, 66] (by decide +kernel) (by decide +kernel)
set_option maxRecDepth 20000 in
theorem gL_law_L_below : GoodIn wsL_law (va_wsS RL 18 yL_below wsL_below) := goodIn_app (goodIn_of _ (by decide +kernel)) ggL_law_L_below
set_option maxRecDepth 20000 in
theorem ggL_law_X2_come : GoodIn wsL_law wsX2_come := goodIn_ca (goodIn_ca (goodIn_r _ [92, 73, 74, 80, 81, 25, 93, 94, 95, 96, 97, 98, 39, 99, 47, 51, 52, 53, 54, 55, 100, 101, 102, 103, 49, 50, 57, 58, 271, 272, 273, 274, 275, 276, 277, 278, 279, 280, 281, 282, 283, 284, 285, 286, 287, 288, 289, 290, 291, 292, 293, 294, 295] (by decide +kernel) (by decide +kernel)) (goodIn_sub (fun _ h => List.mem_append_left _ (List.mem_append_right _ h)) (by decide +kernel))) (goodIn_sub (fun _ h => List.mem_append_right _ h) (by decide +kernel))
set_option maxRecDepth 20000 in
theorem gL_law_X2_come : GoodIn wsL_law (wsV RL 32 RX2 yX2_come wsX2_come) := goodIn_app (goodIn_of _ (by decide +kernel)) ggL_law_X2_come
set_option maxRecDepth 20000 in
theorem ggL_law_X2_traveller : GoodIn wsL_law wsX2_traveller := goodIn_ca (goodIn_r _ [209, 71, 72, 25, 93, 184, 148, 149, 39, 150, 47, 210, 211, 212, 24, 213, 40, 143, 144, 214, 215, 30, 41, 42, 216, 217, 187, 188, 189, 53, 56, 54, 271, 272, 273, 274, 275, 276, 277, 278, 279, 280, 281, 282, 283, 284, 285, 286, 287, 288, 289, 290, 291, 292, 293, 294, 295] (by decide +kernel) (by decide +kernel)) (goodIn_sub (fun _ h => List.mem_append_left _ (List.mem_append_left _ (List.mem_append_right _ h))) (by decide +kernel))
set_option maxRecDepth 20000 in
theorem gL_law_X2_traveller : GoodIn wsL_law (wsV RL 58 RX2 yX2_traveller wsX2_traveller) := goodIn_app (goodIn_of _ (by decide +kernel)) ggL_law_X2_traveller
set_option maxRecDepth 20000 in
theorem ggL_law_L_leave : GoodIn wsL_law wsL_leave := goodIn_ca (goodIn_ca (goodIn_r _ [177, 178, 179, 180, 181, 15, 182, 71, 72, 80, 81, 25, 93, 183, 95, 184, 148, 149, 39, 150, 47, 185, 152, 153, 154, 53, 56, 100, 101, 102, 103, 49, 50, 57, 58, 51, 186, 187, 188, 189, 54, 271, 272, 273, 274, 275, 276, 277, 278, 279, 280, 281, 282, 283, 284, 285, 286, 287, 288, 289, 290, 291, 292, 293, 294, 295] (by decide +kernel) (by decide +kernel)) (goodIn_sub (fun _ h => List.mem_append_left _ (List.mem_append_left _ (List.mem_append_right _ h))) (by decide +kernel))) (goodIn_sub (fun _ h => List.mem_append_right _ h) (by decide +kernel))
set_option maxRecDepth 20000 in
theorem gL_law_L_leave : GoodIn wsL_law (va_wsS RL 39 yL_leave wsL_leave) := goodIn_app (goodIn_of _ (by decide +kernel)) ggL_law_L_leave
set_option maxRecDepth 20000 in
theorem ggL_law_X2_ring : GoodIn wsL_law wsX2_ring := goodIn_ca (goodIn_r _ [87, 73, 74, 25, 88, 271, 272, 273, 274, 275, 276, 277, 278, 279, 280, 281, 282, 283] (by decide +kernel) (by decide +kernel)) (goodIn_sub (fun _ h => List.mem_append_left _ (List.mem_append_right _ h)) (by decide +kernel))
set_option maxRecDepth 20000 in
theorem gL_law_X2_ring : GoodIn wsL_law (wsV RL 29 RX2 yX2_ring wsX2_ring) := goodIn_app (goodIn_of _ (by decide +kernel)) ggL_law_X2_ring
set_option maxRecDepth 20000 in
theorem ggL_law_L_poise : GoodIn wsL_law wsL_poise := goodIn_ca (goodIn_ca (goodIn_r _ [220, 178, 76, 77, 78, 15, 79, 73, 74, 80, 81, 25, 82, 83, 271, 272, 273, 274, 275, 276, 277, 278, 279, 280, 281, 282, 283] (by decide +kernel) (by decide +kernel)) (goodIn_sub (fun _ h => List.mem_append_left _ (List.mem_append_right _ h)) (by decide +kernel))) (goodIn_sub (fun _ h => List.mem_append_right _ h) (by decide +kernel))
set_option maxRecDepth 20000 in
theorem gL_law_L_poise : GoodIn wsL_law (va_wsS RL 61 yL_poise wsL_poise) := goodIn_app (goodIn_of _ (by decide +kernel)) ggL_law_L_poise
set_option maxRecDepth 20000 in
theorem ggL_law_X2_speed : GoodIn wsL_law wsX2_speed := goodIn_r _ [224, 25, 225, 156, 157, 24, 158, 32, 33, 146, 7, 4, 8, 271, 272, 273, 274, 275, 276, 277, 278, 279, 280, 281, 282, 283] (by decide +kernel) (by decide +kernel)
set_option maxRecDepth 20000 in
theorem gL_law_X2_speed : GoodIn wsL_law (wsV RL 65 RX2 yX2_speed wsX2_speed) := goodIn_app (goodIn_of _ (by decide +kernel)) ggL_law_X2_speed
set_option maxRecDepth 20000 in
theorem ggL_law_X2_digest : GoodIn wsL_law wsX2_digest := goodIn_r _ [229, 230, 231, 25, 75, 93, 94, 200, 201, 202, 24, 203, 30, 31, 32, 33, 34, 40, 204, 120, 121, 205, 35, 41, 122, 123, 124, 125, 43, 126, 127, 128, 39, 129, 57, 58, 130, 3, 4, 5, 131, 132, 133, 134, 135, 136, 137, 138, 210, 211, 212, 213, 143, 144, 214, 215, 42, 216, 217, 187, 188, 189, 53, 56, 54, 271, 272, 273, 274, 275, 276, 277, 278, 279, 280, 281, 282, 283, 284, 285, 286, 287, 288, 289, 290, 291, 292, 293, 294, 295] (by decide +kernel) (by decide +kernel)
set_option maxRecDepth 20000 in
theorem gL_law_X2_digest : GoodIn wsL_law (wsV RL 69 RX2 yX2_digest wsX2_digest) := goodIn_app (goodIn_of _ (by decide +kernel)) ggL_law_X2_digest
set_option maxRecDepth 20000 in
theorem ggL_law_X2_foresee : GoodIn wsL_law wsX2_foresee := goodIn_ca (goodIn_ca (goodIn_r _ [235, 73, 74, 71, 72, 26, 25, 93, 108, 236, 82, 194, 109, 110, 15, 111, 237, 238, 239, 24, 240, 30, 31, 32, 33, 34, 35, 36, 241, 242, 243, 244, 40, 41, 42, 43, 245, 246, 247, 39, 248, 47, 48, 49, 50, 51, 249, 52, 53, 54, 55, 56, 57, 58, 112, 113, 114, 115, 116, 117, 118, 119, 120, 121, 122, 123, 124, 125, 126, 127, 128, 129, 130, 3, 4, 5, 131, 132, 133, 134, 135, 136, 137, 138, 139, 140, 141, 142, 143, 144, 145, 146, 7, 8, 147, 148, 149, 150, 151, 152, 153, 154, 100, 101, 102, 103, 155, 156, 157, 158, 159, 160, 161, 162, 163, 164, 165, 166, 167, 168, 169, 170, 171, 172, 173, 174, 271, 272, 273, 274, 275, 276, 277, 278, 279, 280, 281, 282, 283, 284, 285, 286, 287, 288, 289, 290, 291, 292, 293, 294, 295] (by decide +kernel) (by decide +kernel)) (goodIn_sub (fun _ h => List.mem_append_left _ (List.mem_append_right _ h)) (by decide +kernel))) (goodIn_sub (fun _ h => List.mem_append_left _ (List.mem_append_left _ (List.mem_append_right _ h))) (by decide +kernel))
set_option maxRecDepth 20000 in
theorem gL_law_X2_foresee : GoodIn wsL_law (wsV RL 73 RX2 yX2_foresee wsX2_foresee) := goodIn_app (goodIn_of _ (by decide +kernel)) ggL_law_X2_foresee
set_option maxRecDepth 20000 in
theorem ggL_law_X2_when : GoodIn wsL_law wsX2_when := goodIn_ca (goodIn_r _ [253, 71, 72, 25, 93, 26, 183, 184, 148, 149, 39, 150, 47, 237, 238, 239, 24, 240, 30, 31, 32, 33, 34, 35, 36, 241, 242, 243, 244, 40, 41, 42, 43, 245, 246, 247, 248, 48, 49, 50, 51, 249, 52, 53, 54, 55, 56, 57, 58, 254, 117, 118, 119, 120, 121, 122, 123, 124, 125, 126, 127, 128, 129, 130, 3, 4, 5, 131, 132, 133, 134, 135, 136, 137, 138, 139, 140, 141, 142, 143, 144, 145, 146, 7, 8, 147, 151, 152, 153, 154, 100, 101, 102, 103, 155, 156, 157, 158, 159, 160, 161, 162, 163, 164, 165, 166, 167, 168, 169, 170, 171, 172, 173, 174, 271, 272, 273, 274, 275, 276, 277, 278, 279, 280, 281, 282, 283, 284, 285, 286, 287, 288, 289, 290, 291, 292, 293, 294, 295] (by decide +kernel) (by decide +kernel)) (goodIn_sub (fun _ h => List.mem_append_left _ (List.mem_append_left _ (List.mem_append_right _ h))) (by decide +kernel))
set_option maxRecDepth 20000 in
theorem gL_law_X2_when : GoodIn wsL_law (wsV RL 76 RX2 yX2_when wsX2_when) := goodIn_app (goodIn_of _ (by decide +kernel)) ggL_law_X2_when
set_option maxRecDepth 20000 in
theorem ggL_law_X2_bestCode : GoodIn wsL_law wsX2_bestCode := goodIn_ca (goodIn_r _ [258, 73, 74, 25, 83, 109, 110, 15, 111, 259, 260, 261, 262, 26, 88, 236, 237, 238, 239, 24, 240, 30, 31, 32, 33, 34, 35, 36, 241, 242, 243, 244, 40, 41, 42, 43, 245, 246, 247, 39, 248, 47, 48, 49, 50, 51, 249, 52, 53, 54, 55, 56, 57, 58, 112, 113, 114, 115, 116, 117, 118, 119, 120, 121, 122, 123, 124, 125, 126, 127, 128, 129, 130, 3, 4, 5, 131, 132, 133, 134, 135, 136, 137, 138, 139, 140, 141, 142, 143, 144, 145, 146, 7, 8, 147, 148, 149, 150, 151, 152, 153, 154, 100, 101, 102, 103, 155, 156, 157, 158, 159, 160, 161, 162, 163, 164, 165, 166, 167, 168, 169, 170, 171, 172, 173, 174, 271, 272, 273, 274, 275, 276, 277, 278, 279, 280, 281, 282, 283, 284, 285, 286, 287, 288, 289, 290, 291, 292, 293, 294, 295] (by decide +kernel) (by decide +kernel)) (goodIn_sub (fun _ h => List.mem_append_left _ (List.mem_append_right _ h)) (by decide +kernel))
set_option maxRecDepth 20000 in
theorem gL_law_X2_bestCode : GoodIn wsL_law (wsV RL 79 RX2 yX2_bestCode wsX2_bestCode) := goodIn_app (goodIn_of _ (by decide +kernel)) ggL_law_X2_bestCode
set_option maxRecDepth 20000 in
theorem ggL_law_X2_bestPoise : GoodIn wsL_law wsX2_bestPoise := goodIn_ca (goodIn_r _ [266, 73, 74, 25, 88, 109, 110, 15, 111, 259, 260, 261, 262, 26, 83, 236, 237, 238, 239, 24, 240, 30, 31, 32, 33, 34, 35, 36, 241, 242, 243, 244, 40, 41, 42, 43, 245, 246, 247, 39, 248, 47, 48, 49, 50, 51, 249, 52, 53, 54, 55, 56, 57, 58, 112, 113, 114, 115, 116, 117, 118, 119, 120, 121, 122, 123, 124, 125, 126, 127, 128, 129, 130, 3, 4, 5, 131, 132, 133, 134, 135, 136, 137, 138, 139, 140, 141, 142, 143, 144, 145, 146, 7, 8, 147, 148, 149, 150, 151, 152, 153, 154, 100, 101, 102, 103, 155, 156, 157, 158, 159, 160, 161, 162, 163, 164, 165, 166, 167, 168, 169, 170, 171, 172, 173, 174, 271, 272, 273, 274, 275, 276, 277, 278, 279, 280, 281, 282, 283, 284, 285, 286, 287, 288, 289, 290, 291, 292, 293, 294, 295] (by decide +kernel) (by decide +kernel)) (goodIn_sub (fun _ h => List.mem_append_left _ (List.mem_append_right _ h)) (by decide +kernel))
set_option maxRecDepth 20000 in
theorem gL_law_X2_bestPoise : GoodIn wsL_law (wsV RL 82 RX2 yX2_bestPoise wsX2_bestPoise) := goodIn_app (goodIn_of _ (by decide +kernel)) ggL_law_X2_bestPoise
set_option maxRecDepth 20000 in
theorem ggL_law_X2_pass : GoodIn wsL_law wsX2_pass := goodIn_ca (goodIn_r _ [107, 73, 74, 25, 93, 108, 109, 110, 15, 111, 112, 113, 114, 24, 115, 116, 117, 118, 119, 35, 40, 120, 121, 30, 122, 123, 124, 125, 41, 34, 43, 126, 127, 128, 39, 129, 57, 58, 130, 3, 4, 5, 131, 132, 133, 134, 135, 136, 137, 138, 139, 140, 141, 142, 143, 31, 144, 42, 145, 146, 7, 8, 147, 148, 149, 150, 47, 151, 152, 153, 154, 53, 56, 100, 101, 102, 103, 49, 50, 51, 155, 156, 157, 158, 32, 33, 159, 160, 161, 162, 163, 164, 165, 166, 55, 48, 167, 168, 169, 170, 36, 171, 172, 173, 174, 271, 272, 273, 274, 275, 276, 277, 278, 279, 280, 281, 282, 283, 284, 285, 286, 287, 288, 289, 290, 291, 292, 293, 294, 295] (by decide +kernel) (by decide +kernel)) (goodIn_sub (fun _ h => List.mem_append_left _ (List.mem_append_right _ h)) (by decide +kernel))
set_option maxRecDepth 20000 in
theorem gL_law_X2_pass : GoodIn wsL_law (wsV RL 36 RX2 yX2_pass wsX2_pass) := goodIn_app (goodIn_of _ (by decide +kernel)) ggL_law_X2_pass
set_option maxRecDepth 20000 in
theorem ggL_law_X2_mean : GoodIn wsL_law wsX2_mean := goodIn_r _ [270, 25, 93, 94, 236, 271, 272, 273, 274, 275, 276, 277, 278, 279, 280, 281, 282, 283, 284, 285, 286, 287, 288, 289, 290, 291, 292, 293, 294, 295] (by decide +kernel) (by decide +kernel)
set_option maxRecDepth 20000 in
theorem gL_law_X2_mean : GoodIn wsL_law (wsV RL 93 RX2 yX2_mean wsX2_mean) := goodIn_app (goodIn_of _ (by decide +kernel)) ggL_law_X2_mean
theorem dL_law_0 : decode cL_law 0 = .ok (.aload_n 0, 1) := by decide +kernel
theorem dL_law_1 : decode cL_law 1 = .ok (.invokestatic 51, 3) := by decide +kernel
theorem dL_law_4 : decode cL_law 4 = .ok (.astore_n 1, 1) := by decide +kernel
theorem dL_law_5 : decode cL_law 5 = .ok (.bipush 8, 2) := by decide +kernel
theorem dL_law_7 : decode cL_law 7 = .ok (.newarray .int, 2) := by decide +kernel
theorem dL_law_9 : decode cL_law 9 = .ok (.astore_n 2, 1) := by decide +kernel
theorem dL_law_10 : decode cL_law 10 = .ok (.iconst 0, 1) := by decide +kernel
theorem dL_law_11 : decode cL_law 11 = .ok (.istore_n 3, 1) := by decide +kernel
theorem dL_law_12 : decode cL_law 12 = .ok (.iload_n 3, 1) := by decide +kernel
theorem dL_law_13 : decode cL_law 13 = .ok (.bipush 8, 2) := by decide +kernel
theorem dL_law_15 : decode cL_law 15 = .ok (.if_icmp .ge 31, 3) := by decide +kernel
theorem dL_law_18 : decode cL_law 18 = .ok (.aload_n 2, 1) := by decide +kernel
theorem dL_law_19 : decode cL_law 19 = .ok (.iload_n 3, 1) := by decide +kernel
theorem dL_law_20 : decode cL_law 20 = .ok (.aload_n 1, 1) := by decide +kernel
theorem dL_law_21 : decode cL_law 21 = .ok (.iload_n 3, 1) := by decide +kernel
theorem dL_law_22 : decode cL_law 22 = .ok (.iconst 0, 1) := by decide +kernel
theorem dL_law_23 : decode cL_law 23 = .ok (.invokevirtual 22, 3) := by decide +kernel
theorem dL_law_26 : decode cL_law 26 = .ok (.iastore, 1) := by decide +kernel
theorem dL_law_27 : decode cL_law 27 = .ok (.aload_n 1, 1) := by decide +kernel
theorem dL_law_28 : decode cL_law 28 = .ok (.iload_n 3, 1) := by decide +kernel
theorem dL_law_29 : decode cL_law 29 = .ok (.aload_n 2, 1) := by decide +kernel
theorem dL_law_30 : decode cL_law 30 = .ok (.iload_n 3, 1) := by decide +kernel
theorem dL_law_31 : decode cL_law 31 = .ok (.iaload, 1) := by decide +kernel
theorem dL_law_32 : decode cL_law 32 = .ok (.invokevirtual 22, 3) := by decide +kernel
theorem dL_law_35 : decode cL_law 35 = .ok (.ifCond .eq 5, 3) := by decide +kernel
theorem dL_law_38 : decode cL_law 38 = .ok (.iconst 0, 1) := by decide +kernel
theorem dL_law_39 : decode cL_law 39 = .ok (.ireturn, 1) := by decide +kernel
theorem dL_law_40 : decode cL_law 40 = .ok (.iinc 3 1, 3) := by decide +kernel
theorem dL_law_43 : decode cL_law 43 = .ok (.goto (-31), 3) := by decide +kernel
theorem dL_law_46 : decode cL_law 46 = .ok (.iconst 0, 1) := by decide +kernel
theorem dL_law_47 : decode cL_law 47 = .ok (.istore_n 3, 1) := by decide +kernel
theorem dL_law_48 : decode cL_law 48 = .ok (.iload_n 3, 1) := by decide +kernel
theorem dL_law_49 : decode cL_law 49 = .ok (.bipush 60, 2) := by decide +kernel
theorem dL_law_51 : decode cL_law 51 = .ok (.if_icmp .ge 1300, 3) := by decide +kernel
theorem dL_law_54 : decode cL_law 54 = .ok (.aload_n 0, 1) := by decide +kernel
theorem dL_law_55 : decode cL_law 55 = .ok (.iload_n 3, 1) := by decide +kernel
theorem dL_law_56 : decode cL_law 56 = .ok (.bipush 16, 2) := by decide +kernel
theorem dL_law_58 : decode cL_law 58 = .ok (.irem, 1) := by decide +kernel
theorem dL_law_59 : decode cL_law 59 = .ok (.invokestatic 12, 3) := by decide +kernel
theorem dL_law_62 : decode cL_law 62 = .ok (.iload_n 3, 1) := by decide +kernel
theorem dL_law_63 : decode cL_law 63 = .ok (.bipush 16, 2) := by decide +kernel
theorem dL_law_65 : decode cL_law 65 = .ok (.idiv, 1) := by decide +kernel
theorem dL_law_66 : decode cL_law 66 = .ok (.iconst 5, 1) := by decide +kernel
theorem dL_law_67 : decode cL_law 67 = .ok (.imul, 1) := by decide +kernel
theorem dL_law_68 : decode cL_law 68 = .ok (.ishr, 1) := by decide +kernel
theorem dL_law_69 : decode cL_law 69 = .ok (.istore 4, 2) := by decide +kernel
theorem dL_law_71 : decode cL_law 71 = .ok (.aload_n 1, 1) := by decide +kernel
theorem dL_law_72 : decode cL_law 72 = .ok (.iconst 5, 1) := by decide +kernel
theorem dL_law_73 : decode cL_law 73 = .ok (.invokevirtual 55, 3) := by decide +kernel
theorem dL_law_76 : decode cL_law 76 = .ok (.istore 5, 2) := by decide +kernel
theorem dL_law_78 : decode cL_law 78 = .ok (.iload 4, 2) := by decide +kernel
theorem dL_law_80 : decode cL_law 80 = .ok (.bipush 8, 2) := by decide +kernel
theorem dL_law_82 : decode cL_law 82 = .ok (.invokestatic 18, 3) := by decide +kernel
theorem dL_law_85 : decode cL_law 85 = .ok (.tableswitch 237 0 4 #[35, 35, 80, 163, 184], 35) := by decide +kernel
theorem dL_law_120 : decode cL_law 120 = .ok (.iload 5, 2) := by decide +kernel
theorem dL_law_122 : decode cL_law 122 = .ok (.bipush 40, 2) := by decide +kernel
theorem dL_law_124 : decode cL_law 124 = .ok (.if_icmp .ge 198, 3) := by decide +kernel
theorem dL_law_127 : decode cL_law 127 = .ok (.aload_n 1, 1) := by decide +kernel
theorem dL_law_128 : decode cL_law 128 = .ok (.iload 4, 2) := by decide +kernel
theorem dL_law_130 : decode cL_law 130 = .ok (.iconst 4, 1) := by decide +kernel
theorem dL_law_131 : decode cL_law 131 = .ok (.ishr, 1) := by decide +kernel
theorem dL_law_132 : decode cL_law 132 = .ok (.iconst 2, 1) := by decide +kernel
theorem dL_law_133 : decode cL_law 133 = .ok (.invokestatic 18, 3) := by decide +kernel
theorem dL_law_136 : decode cL_law 136 = .ok (.ifCond .ne 7, 3) := by decide +kernel
theorem dL_law_139 : decode cL_law 139 = .ok (.iconst 1, 1) := by decide +kernel
theorem dL_law_140 : decode cL_law 140 = .ok (.goto 4, 3) := by decide +kernel
theorem dL_law_143 : decode cL_law 143 = .ok (.iconst 0, 1) := by decide +kernel
theorem dL_law_144 : decode cL_law 144 = .ok (.iconst 1, 1) := by decide +kernel
theorem dL_law_145 : decode cL_law 145 = .ok (.iload 4, 2) := by decide +kernel
theorem dL_law_147 : decode cL_law 147 = .ok (.iconst 5, 1) := by decide +kernel
theorem dL_law_148 : decode cL_law 148 = .ok (.ishr, 1) := by decide +kernel
theorem dL_law_149 : decode cL_law 149 = .ok (.bipush 6, 2) := by decide +kernel
theorem dL_law_151 : decode cL_law 151 = .ok (.invokestatic 18, 3) := by decide +kernel
theorem dL_law_154 : decode cL_law 154 = .ok (.iadd, 1) := by decide +kernel
theorem dL_law_155 : decode cL_law 155 = .ok (.invokevirtual 32, 3) := by decide +kernel
theorem dL_law_158 : decode cL_law 158 = .ok (.iload 5, 2) := by decide +kernel
theorem dL_law_160 : decode cL_law 160 = .ok (.if_icmp .eq 162, 3) := by decide +kernel
theorem dL_law_163 : decode cL_law 163 = .ok (.iconst 0, 1) := by decide +kernel
theorem dL_law_164 : decode cL_law 164 = .ok (.ireturn, 1) := by decide +kernel
theorem dL_law_165 : decode cL_law 165 = .ok (.iload 5, 2) := by decide +kernel
theorem dL_law_167 : decode cL_law 167 = .ok (.ifCond .ne 6, 3) := by decide +kernel
theorem dL_law_170 : decode cL_law 170 = .ok (.goto 152, 3) := by decide +kernel
theorem dL_law_173 : decode cL_law 173 = .ok (.iload 4, 2) := by decide +kernel
theorem dL_law_175 : decode cL_law 175 = .ok (.iconst 4, 1) := by decide +kernel
theorem dL_law_176 : decode cL_law 176 = .ok (.ishr, 1) := by decide +kernel
theorem dL_law_177 : decode cL_law 177 = .ok (.iload 5, 2) := by decide +kernel
theorem dL_law_179 : decode cL_law 179 = .ok (.invokestatic 18, 3) := by decide +kernel
theorem dL_law_182 : decode cL_law 182 = .ok (.istore 6, 2) := by decide +kernel
theorem dL_law_184 : decode cL_law 184 = .ok (.aload_n 1, 1) := by decide +kernel
theorem dL_law_185 : decode cL_law 185 = .ok (.iload 6, 2) := by decide +kernel
theorem dL_law_187 : decode cL_law 187 = .ok (.iconst 2, 1) := by decide +kernel
theorem dL_law_188 : decode cL_law 188 = .ok (.invokevirtual 58, 3) := by decide +kernel
theorem dL_law_191 : decode cL_law 191 = .ok (.ifCond .ne 7, 3) := by decide +kernel
theorem dL_law_194 : decode cL_law 194 = .ok (.iconst 1, 1) := by decide +kernel
theorem dL_law_195 : decode cL_law 195 = .ok (.goto 4, 3) := by decide +kernel
theorem dL_law_198 : decode cL_law 198 = .ok (.iconst 0, 1) := by decide +kernel
theorem dL_law_199 : decode cL_law 199 = .ok (.istore 7, 2) := by decide +kernel
theorem dL_law_201 : decode cL_law 201 = .ok (.aload_n 1, 1) := by decide +kernel
theorem dL_law_202 : decode cL_law 202 = .ok (.iload 6, 2) := by decide +kernel
theorem dL_law_204 : decode cL_law 204 = .ok (.iconst 4, 1) := by decide +kernel
theorem dL_law_205 : decode cL_law 205 = .ok (.invokevirtual 58, 3) := by decide +kernel
theorem dL_law_208 : decode cL_law 208 = .ok (.istore 8, 2) := by decide +kernel
theorem dL_law_210 : decode cL_law 210 = .ok (.aload_n 1, 1) := by decide +kernel
theorem dL_law_211 : decode cL_law 211 = .ok (.iload 6, 2) := by decide +kernel
theorem dL_law_213 : decode cL_law 213 = .ok (.invokestatic 39, 3) := by decide +kernel
theorem dL_law_216 : decode cL_law 216 = .ok (.iload 7, 2) := by decide +kernel
theorem dL_law_218 : decode cL_law 218 = .ok (.ifCond .eq 8, 3) := by decide +kernel
theorem dL_law_221 : decode cL_law 221 = .ok (.iload 8, 2) := by decide +kernel
theorem dL_law_223 : decode cL_law 223 = .ok (.goto 4, 3) := by decide +kernel
theorem dL_law_226 : decode cL_law 226 = .ok (.iconst (-1), 1) := by decide +kernel
theorem dL_law_227 : decode cL_law 227 = .ok (.if_icmp .ne 19, 3) := by decide +kernel
theorem dL_law_230 : decode cL_law 230 = .ok (.iload 7, 2) := by decide +kernel
theorem dL_law_232 : decode cL_law 232 = .ok (.ifCond .eq 90, 3) := by decide +kernel
theorem dL_law_235 : decode cL_law 235 = .ok (.aload_n 1, 1) := by decide +kernel
theorem dL_law_236 : decode cL_law 236 = .ok (.iload 6, 2) := by decide +kernel
theorem dL_law_238 : decode cL_law 238 = .ok (.iconst 2, 1) := by decide +kernel
theorem dL_law_239 : decode cL_law 239 = .ok (.invokevirtual 58, 3) := by decide +kernel
theorem dL_law_242 : decode cL_law 242 = .ok (.iconst 3, 1) := by decide +kernel
theorem dL_law_243 : decode cL_law 243 = .ok (.if_icmp .eq 79, 3) := by decide +kernel
theorem dL_law_246 : decode cL_law 246 = .ok (.iconst 0, 1) := by decide +kernel
theorem dL_law_247 : decode cL_law 247 = .ok (.ireturn, 1) := by decide +kernel
theorem dL_law_248 : decode cL_law 248 = .ok (.aload_n 1, 1) := by decide +kernel
theorem dL_law_249 : decode cL_law 249 = .ok (.iload 4, 2) := by decide +kernel
theorem dL_law_251 : decode cL_law 251 = .ok (.iconst 4, 1) := by decide +kernel
theorem dL_law_252 : decode cL_law 252 = .ok (.ishr, 1) := by decide +kernel
theorem dL_law_253 : decode cL_law 253 = .ok (.bipush 9, 2) := by decide +kernel
theorem dL_law_255 : decode cL_law 255 = .ok (.invokestatic 18, 3) := by decide +kernel
theorem dL_law_258 : decode cL_law 258 = .ok (.iconst 5, 1) := by decide +kernel
theorem dL_law_259 : decode cL_law 259 = .ok (.irem, 1) := by decide +kernel
theorem dL_law_260 : decode cL_law 260 = .ok (.invokevirtual 29, 3) := by decide +kernel
theorem dL_law_263 : decode cL_law 263 = .ok (.iconst 4, 1) := by decide +kernel
theorem dL_law_264 : decode cL_law 264 = .ok (.if_icmp .le 58, 3) := by decide +kernel
theorem dL_law_267 : decode cL_law 267 = .ok (.iconst 0, 1) := by decide +kernel
theorem dL_law_268 : decode cL_law 268 = .ok (.ireturn, 1) := by decide +kernel
theorem dL_law_269 : decode cL_law 269 = .ok (.aload_n 1, 1) := by decide +kernel
theorem dL_law_270 : decode cL_law 270 = .ok (.iconst 1, 1) := by decide +kernel
theorem dL_law_271 : decode cL_law 271 = .ok (.invokevirtual 55, 3) := by decide +kernel
theorem dL_law_274 : decode cL_law 274 = .ok (.ifCond .eq 13, 3) := by decide +kernel
theorem dL_law_277 : decode cL_law 277 = .ok (.aload_n 1, 1) := by decide +kernel
theorem dL_law_278 : decode cL_law 278 = .ok (.iconst 1, 1) := by decide +kernel
theorem dL_law_279 : decode cL_law 279 = .ok (.invokevirtual 55, 3) := by decide +kernel
theorem dL_law_282 : decode cL_law 282 = .ok (.bipush 60, 2) := by decide +kernel
theorem dL_law_284 : decode cL_law 284 = .ok (.if_icmp .ne 7, 3) := by decide +kernel
theorem dL_law_287 : decode cL_law 287 = .ok (.iconst 1, 1) := by decide +kernel
theorem dL_law_288 : decode cL_law 288 = .ok (.goto 4, 3) := by decide +kernel
theorem dL_law_291 : decode cL_law 291 = .ok (.iconst 0, 1) := by decide +kernel
theorem dL_law_292 : decode cL_law 292 = .ok (.istore 6, 2) := by decide +kernel
theorem dL_law_294 : decode cL_law 294 = .ok (.aload_n 1, 1) := by decide +kernel
theorem dL_law_295 : decode cL_law 295 = .ok (.iload 4, 2) := by decide +kernel
theorem dL_law_297 : decode cL_law 297 = .ok (.iconst 4, 1) := by decide +kernel
theorem dL_law_298 : decode cL_law 298 = .ok (.ishr, 1) := by decide +kernel
theorem dL_law_299 : decode cL_law 299 = .ok (.bipush 31, 2) := by decide +kernel
theorem dL_law_301 : decode cL_law 301 = .ok (.invokestatic 18, 3) := by decide +kernel
theorem dL_law_304 : decode cL_law 304 = .ok (.invokestatic 61, 3) := by decide +kernel
theorem dL_law_307 : decode cL_law 307 = .ok (.ifCond .lt 7, 3) := by decide +kernel
theorem dL_law_310 : decode cL_law 310 = .ok (.iconst 1, 1) := by decide +kernel
theorem dL_law_311 : decode cL_law 311 = .ok (.goto 4, 3) := by decide +kernel
theorem dL_law_314 : decode cL_law 314 = .ok (.iconst 0, 1) := by decide +kernel
theorem dL_law_315 : decode cL_law 315 = .ok (.iload 6, 2) := by decide +kernel
theorem dL_law_317 : decode cL_law 317 = .ok (.if_icmp .eq 5, 3) := by decide +kernel
theorem dL_law_320 : decode cL_law 320 = .ok (.iconst 0, 1) := by decide +kernel
theorem dL_law_321 : decode cL_law 321 = .ok (.ireturn, 1) := by decide +kernel
theorem dL_law_322 : decode cL_law 322 = .ok (.aload_n 1, 1) := by decide +kernel
theorem dL_law_323 : decode cL_law 323 = .ok (.iconst 5, 1) := by decide +kernel
theorem dL_law_324 : decode cL_law 324 = .ok (.invokevirtual 55, 3) := by decide +kernel
theorem dL_law_327 : decode cL_law 327 = .ok (.istore 5, 2) := by decide +kernel
theorem dL_law_329 : decode cL_law 329 = .ok (.iload 5, 2) := by decide +kernel
theorem dL_law_331 : decode cL_law 331 = .ok (.bipush 7, 2) := by decide +kernel
theorem dL_law_333 : decode cL_law 333 = .ok (.multianewarray 63 2, 4) := by decide +kernel
theorem dL_law_337 : decode cL_law 337 = .ok (.astore 6, 2) := by decide +kernel
theorem dL_law_339 : decode cL_law 339 = .ok (.iconst 0, 1) := by decide +kernel
theorem dL_law_340 : decode cL_law 340 = .ok (.istore 7, 2) := by decide +kernel
theorem dL_law_342 : decode cL_law 342 = .ok (.iload 7, 2) := by decide +kernel
theorem dL_law_344 : decode cL_law 344 = .ok (.iload 5, 2) := by decide +kernel
theorem dL_law_346 : decode cL_law 346 = .ok (.if_icmp .ge 41, 3) := by decide +kernel
theorem dL_law_349 : decode cL_law 349 = .ok (.iconst 0, 1) := by decide +kernel
theorem dL_law_350 : decode cL_law 350 = .ok (.istore 8, 2) := by decide +kernel
theorem dL_law_352 : decode cL_law 352 = .ok (.iload 8, 2) := by decide +kernel
theorem dL_law_354 : decode cL_law 354 = .ok (.bipush 7, 2) := by decide +kernel
theorem dL_law_356 : decode cL_law 356 = .ok (.if_icmp .ge 25, 3) := by decide +kernel
theorem dL_law_359 : decode cL_law 359 = .ok (.aload 6, 2) := by decide +kernel
theorem dL_law_361 : decode cL_law 361 = .ok (.iload 7, 2) := by decide +kernel
theorem dL_law_363 : decode cL_law 363 = .ok (.aaload, 1) := by decide +kernel
theorem dL_law_364 : decode cL_law 364 = .ok (.iload 8, 2) := by decide +kernel
theorem dL_law_366 : decode cL_law 366 = .ok (.aload_n 1, 1) := by decide +kernel
theorem dL_law_367 : decode cL_law 367 = .ok (.iload 7, 2) := by decide +kernel
theorem dL_law_369 : decode cL_law 369 = .ok (.iload 8, 2) := by decide +kernel
theorem dL_law_371 : decode cL_law 371 = .ok (.invokevirtual 58, 3) := by decide +kernel
theorem dL_law_374 : decode cL_law 374 = .ok (.iastore, 1) := by decide +kernel
theorem dL_law_375 : decode cL_law 375 = .ok (.iinc 8 1, 3) := by decide +kernel
theorem dL_law_378 : decode cL_law 378 = .ok (.goto (-26), 3) := by decide +kernel
theorem dL_law_381 : decode cL_law 381 = .ok (.iinc 7 1, 3) := by decide +kernel
theorem dL_law_384 : decode cL_law 384 = .ok (.goto (-42), 3) := by decide +kernel
theorem dL_law_387 : decode cL_law 387 = .ok (.aload_n 1, 1) := by decide +kernel
theorem dL_law_388 : decode cL_law 388 = .ok (.iconst 0, 1) := by decide +kernel
theorem dL_law_389 : decode cL_law 389 = .ok (.invokevirtual 55, 3) := by decide +kernel
theorem dL_law_392 : decode cL_law 392 = .ok (.istore 7, 2) := by decide +kernel
theorem dL_law_394 : decode cL_law 394 = .ok (.aload_n 1, 1) := by decide +kernel
theorem dL_law_395 : decode cL_law 395 = .ok (.iconst 1, 1) := by decide +kernel
theorem dL_law_396 : decode cL_law 396 = .ok (.invokevirtual 55, 3) := by decide +kernel
theorem dL_law_399 : decode cL_law 399 = .ok (.istore 8, 2) := by decide +kernel
theorem dL_law_401 : decode cL_law 401 = .ok (.aload_n 1, 1) := by decide +kernel
theorem dL_law_402 : decode cL_law 402 = .ok (.iconst 3, 1) := by decide +kernel
theorem dL_law_403 : decode cL_law 403 = .ok (.invokevirtual 55, 3) := by decide +kernel
theorem dL_law_406 : decode cL_law 406 = .ok (.istore 9, 2) := by decide +kernel
theorem dL_law_408 : decode cL_law 408 = .ok (.aload_n 1, 1) := by decide +kernel
theorem dL_law_409 : decode cL_law 409 = .ok (.bipush 9, 2) := by decide +kernel
theorem dL_law_411 : decode cL_law 411 = .ok (.invokevirtual 55, 3) := by decide +kernel
theorem dL_law_414 : decode cL_law 414 = .ok (.istore 10, 2) := by decide +kernel
theorem dL_law_416 : decode cL_law 416 = .ok (.aload_n 1, 1) := by decide +kernel
theorem dL_law_417 : decode cL_law 417 = .ok (.bipush 10, 2) := by decide +kernel
theorem dL_law_419 : decode cL_law 419 = .ok (.invokevirtual 55, 3) := by decide +kernel
theorem dL_law_422 : decode cL_law 422 = .ok (.istore 11, 2) := by decide +kernel
theorem dL_law_424 : decode cL_law 424 = .ok (.aload_n 1, 1) := by decide +kernel
theorem dL_law_425 : decode cL_law 425 = .ok (.bipush 11, 2) := by decide +kernel
theorem dL_law_427 : decode cL_law 427 = .ok (.invokevirtual 55, 3) := by decide +kernel
theorem dL_law_430 : decode cL_law 430 = .ok (.istore 12, 2) := by decide +kernel
theorem dL_law_432 : decode cL_law 432 = .ok (.aload_n 1, 1) := by decide +kernel
theorem dL_law_433 : decode cL_law 433 = .ok (.iconst 1, 1) := by decide +kernel
theorem dL_law_434 : decode cL_law 434 = .ok (.invokevirtual 65, 3) := by decide +kernel
theorem dL_law_437 : decode cL_law 437 = .ok (.istore 13, 2) := by decide +kernel
theorem dL_law_439 : decode cL_law 439 = .ok (.aload_n 1, 1) := by decide +kernel
theorem dL_law_440 : decode cL_law 440 = .ok (.iconst 0, 1) := by decide +kernel
theorem dL_law_441 : decode cL_law 441 = .ok (.invokevirtual 65, 3) := by decide +kernel
theorem dL_law_444 : decode cL_law 444 = .ok (.istore 14, 2) := by decide +kernel
theorem dL_law_446 : decode cL_law 446 = .ok (.aload_n 1, 1) := by decide +kernel
theorem dL_law_447 : decode cL_law 447 = .ok (.invokevirtual 69, 3) := by decide +kernel
theorem dL_law_450 : decode cL_law 450 = .ok (.lstore 15, 2) := by decide +kernel
theorem dL_law_452 : decode cL_law 452 = .ok (.iconst 4, 1) := by decide +kernel
theorem dL_law_453 : decode cL_law 453 = .ok (.newarray .int, 2) := by decide +kernel
theorem dL_law_455 : decode cL_law 455 = .ok (.astore 17, 2) := by decide +kernel
theorem dL_law_457 : decode cL_law 457 = .ok (.iconst 0, 1) := by decide +kernel
theorem dL_law_458 : decode cL_law 458 = .ok (.istore 18, 2) := by decide +kernel
theorem dL_law_460 : decode cL_law 460 = .ok (.iload 18, 2) := by decide +kernel
theorem dL_law_462 : decode cL_law 462 = .ok (.iconst 4, 1) := by decide +kernel
theorem dL_law_463 : decode cL_law 463 = .ok (.if_icmp .ge 21, 3) := by decide +kernel
theorem dL_law_466 : decode cL_law 466 = .ok (.aload 17, 2) := by decide +kernel
theorem dL_law_468 : decode cL_law 468 = .ok (.iload 18, 2) := by decide +kernel
theorem dL_law_470 : decode cL_law 470 = .ok (.aload_n 1, 1) := by decide +kernel
theorem dL_law_471 : decode cL_law 471 = .ok (.iconst 1, 1) := by decide +kernel
theorem dL_law_472 : decode cL_law 472 = .ok (.iload 18, 2) := by decide +kernel
theorem dL_law_474 : decode cL_law 474 = .ok (.invokevirtual 73, 3) := by decide +kernel
theorem dL_law_477 : decode cL_law 477 = .ok (.iastore, 1) := by decide +kernel
theorem dL_law_478 : decode cL_law 478 = .ok (.iinc 18 1, 3) := by decide +kernel
theorem dL_law_481 : decode cL_law 481 = .ok (.goto (-21), 3) := by decide +kernel
theorem dL_law_484 : decode cL_law 484 = .ok (.iload 5, 2) := by decide +kernel
theorem dL_law_486 : decode cL_law 486 = .ok (.ifCond .ne 7, 3) := by decide +kernel
theorem dL_law_489 : decode cL_law 489 = .ok (.iconst 0, 1) := by decide +kernel
theorem dL_law_490 : decode cL_law 490 = .ok (.goto 12, 3) := by decide +kernel
theorem dL_law_493 : decode cL_law 493 = .ok (.iload 4, 2) := by decide +kernel
theorem dL_law_495 : decode cL_law 495 = .ok (.iconst 3, 1) := by decide +kernel
theorem dL_law_496 : decode cL_law 496 = .ok (.ishr, 1) := by decide +kernel
theorem dL_law_497 : decode cL_law 497 = .ok (.iload 5, 2) := by decide +kernel
theorem dL_law_499 : decode cL_law 499 = .ok (.invokestatic 18, 3) := by decide +kernel
theorem dL_law_502 : decode cL_law 502 = .ok (.istore 18, 2) := by decide +kernel
theorem dL_law_504 : decode cL_law 504 = .ok (.iload 5, 2) := by decide +kernel
theorem dL_law_506 : decode cL_law 506 = .ok (.ifCond .ne 7, 3) := by decide +kernel
theorem dL_law_509 : decode cL_law 509 = .ok (.iconst (-1), 1) := by decide +kernel
theorem dL_law_510 : decode cL_law 510 = .ok (.goto 9, 3) := by decide +kernel
theorem dL_law_513 : decode cL_law 513 = .ok (.aload_n 1, 1) := by decide +kernel
theorem dL_law_514 : decode cL_law 514 = .ok (.iload 18, 2) := by decide +kernel
theorem dL_law_516 : decode cL_law 516 = .ok (.invokevirtual 76, 3) := by decide +kernel
theorem dL_law_519 : decode cL_law 519 = .ok (.istore 19, 2) := by decide +kernel
theorem dL_law_521 : decode cL_law 521 = .ok (.iload_n 3, 1) := by decide +kernel
theorem dL_law_522 : decode cL_law 522 = .ok (.bipush 6, 2) := by decide +kernel
theorem dL_law_524 : decode cL_law 524 = .ok (.irem, 1) := by decide +kernel
theorem dL_law_525 : decode cL_law 525 = .ok (.ifCond .le 7, 3) := by decide +kernel
theorem dL_law_528 : decode cL_law 528 = .ok (.iconst 0, 1) := by decide +kernel
theorem dL_law_529 : decode cL_law 529 = .ok (.goto 18, 3) := by decide +kernel
theorem dL_law_532 : decode cL_law 532 = .ok (.aload_n 1, 1) := by decide +kernel
theorem dL_law_533 : decode cL_law 533 = .ok (.iconst 1, 1) := by decide +kernel
theorem dL_law_534 : decode cL_law 534 = .ok (.iload 4, 2) := by decide +kernel
theorem dL_law_536 : decode cL_law 536 = .ok (.iconst 4, 1) := by decide +kernel
theorem dL_law_537 : decode cL_law 537 = .ok (.ishr, 1) := by decide +kernel
theorem dL_law_538 : decode cL_law 538 = .ok (.bipush 60, 2) := by decide +kernel
theorem dL_law_540 : decode cL_law 540 = .ok (.invokestatic 18, 3) := by decide +kernel
theorem dL_law_543 : decode cL_law 543 = .ok (.iadd, 1) := by decide +kernel
theorem dL_law_544 : decode cL_law 544 = .ok (.invokevirtual 79, 3) := by decide +kernel
theorem dL_law_547 : decode cL_law 547 = .ok (.istore 20, 2) := by decide +kernel
theorem dL_law_549 : decode cL_law 549 = .ok (.iload_n 3, 1) := by decide +kernel
theorem dL_law_550 : decode cL_law 550 = .ok (.bipush 12, 2) := by decide +kernel
theorem dL_law_552 : decode cL_law 552 = .ok (.irem, 1) := by decide +kernel
theorem dL_law_553 : decode cL_law 553 = .ok (.ifCond .le 7, 3) := by decide +kernel
theorem dL_law_556 : decode cL_law 556 = .ok (.iconst 0, 1) := by decide +kernel
theorem dL_law_557 : decode cL_law 557 = .ok (.goto 18, 3) := by decide +kernel
theorem dL_law_560 : decode cL_law 560 = .ok (.aload_n 1, 1) := by decide +kernel
theorem dL_law_561 : decode cL_law 561 = .ok (.iconst 1, 1) := by decide +kernel
theorem dL_law_562 : decode cL_law 562 = .ok (.iload 4, 2) := by decide +kernel
theorem dL_law_564 : decode cL_law 564 = .ok (.iconst 4, 1) := by decide +kernel
theorem dL_law_565 : decode cL_law 565 = .ok (.ishr, 1) := by decide +kernel
theorem dL_law_566 : decode cL_law 566 = .ok (.bipush 60, 2) := by decide +kernel
theorem dL_law_568 : decode cL_law 568 = .ok (.invokestatic 18, 3) := by decide +kernel
theorem dL_law_571 : decode cL_law 571 = .ok (.iadd, 1) := by decide +kernel
theorem dL_law_572 : decode cL_law 572 = .ok (.invokevirtual 82, 3) := by decide +kernel
theorem dL_law_575 : decode cL_law 575 = .ok (.istore 21, 2) := by decide +kernel
theorem dL_law_577 : decode cL_law 577 = .ok (.aload_n 1, 1) := by decide +kernel
theorem dL_law_578 : decode cL_law 578 = .ok (.invokevirtual 69, 3) := by decide +kernel
theorem dL_law_581 : decode cL_law 581 = .ok (.lload 15, 2) := by decide +kernel
theorem dL_law_583 : decode cL_law 583 = .ok (.lcmp, 1) := by decide +kernel
theorem dL_law_584 : decode cL_law 584 = .ok (.ifCond .ne 127, 3) := by decide +kernel
theorem dL_law_587 : decode cL_law 587 = .ok (.iload 20, 2) := by decide +kernel
theorem dL_law_589 : decode cL_law 589 = .ok (.ifCond .lt 122, 3) := by decide +kernel
theorem dL_law_592 : decode cL_law 592 = .ok (.iload 20, 2) := by decide +kernel
theorem dL_law_594 : decode cL_law 594 = .ok (.iconst 3, 1) := by decide +kernel
theorem dL_law_595 : decode cL_law 595 = .ok (.if_icmp .gt 116, 3) := by decide +kernel
theorem dL_law_598 : decode cL_law 598 = .ok (.iload 21, 2) := by decide +kernel
theorem dL_law_600 : decode cL_law 600 = .ok (.ifCond .lt 111, 3) := by decide +kernel
theorem dL_law_603 : decode cL_law 603 = .ok (.iload 21, 2) := by decide +kernel
theorem dL_law_605 : decode cL_law 605 = .ok (.bipush 30, 2) := by decide +kernel
theorem dL_law_607 : decode cL_law 607 = .ok (.if_icmp .gt 104, 3) := by decide +kernel
theorem dL_law_610 : decode cL_law 610 = .ok (.iload 13, 2) := by decide +kernel
theorem dL_law_612 : decode cL_law 612 = .ok (.iconst 1, 1) := by decide +kernel
theorem dL_law_613 : decode cL_law 613 = .ok (.if_icmp .lt 98, 3) := by decide +kernel
theorem dL_law_616 : decode cL_law 616 = .ok (.iload 13, 2) := by decide +kernel
theorem dL_law_618 : decode cL_law 618 = .ok (.bipush 6, 2) := by decide +kernel
theorem dL_law_620 : decode cL_law 620 = .ok (.if_icmp .gt 91, 3) := by decide +kernel
theorem dL_law_623 : decode cL_law 623 = .ok (.iload 14, 2) := by decide +kernel
theorem dL_law_625 : decode cL_law 625 = .ok (.iconst 1, 1) := by decide +kernel
theorem dL_law_626 : decode cL_law 626 = .ok (.if_icmp .lt 85, 3) := by decide +kernel
theorem dL_law_629 : decode cL_law 629 = .ok (.iload 14, 2) := by decide +kernel
theorem dL_law_631 : decode cL_law 631 = .ok (.bipush 6, 2) := by decide +kernel
theorem dL_law_633 : decode cL_law 633 = .ok (.if_icmp .gt 78, 3) := by decide +kernel
theorem dL_law_636 : decode cL_law 636 = .ok (.iload 11, 2) := by decide +kernel
theorem dL_law_638 : decode cL_law 638 = .ok (.ifCond .lt 8, 3) := by decide +kernel
theorem dL_law_641 : decode cL_law 641 = .ok (.iload 12, 2) := by decide +kernel
theorem dL_law_643 : decode cL_law 643 = .ok (.ifCond .ge 68, 3) := by decide +kernel
theorem dL_law_646 : decode cL_law 646 = .ok (.iload 12, 2) := by decide +kernel
theorem dL_law_648 : decode cL_law 648 = .ok (.ifCond .lt 13, 3) := by decide +kernel
theorem dL_law_651 : decode cL_law 651 = .ok (.aload 6, 2) := by decide +kernel
theorem dL_law_653 : decode cL_law 653 = .ok (.iload 12, 2) := by decide +kernel
theorem dL_law_655 : decode cL_law 655 = .ok (.aaload, 1) := by decide +kernel
theorem dL_law_656 : decode cL_law 656 = .ok (.iconst 2, 1) := by decide +kernel
theorem dL_law_657 : decode cL_law 657 = .ok (.iaload, 1) := by decide +kernel
theorem dL_law_658 : decode cL_law 658 = .ok (.ifCond .ne 53, 3) := by decide +kernel
theorem dL_law_661 : decode cL_law 661 = .ok (.iload 5, 2) := by decide +kernel
theorem dL_law_663 : decode cL_law 663 = .ok (.ifCond .le 50, 3) := by decide +kernel
theorem dL_law_666 : decode cL_law 666 = .ok (.iload 19, 2) := by decide +kernel
theorem dL_law_668 : decode cL_law 668 = .ok (.ifCond .ne 7, 3) := by decide +kernel
theorem dL_law_671 : decode cL_law 671 = .ok (.iconst 1, 1) := by decide +kernel
theorem dL_law_672 : decode cL_law 672 = .ok (.goto 4, 3) := by decide +kernel
theorem dL_law_675 : decode cL_law 675 = .ok (.iconst 0, 1) := by decide +kernel
theorem dL_law_676 : decode cL_law 676 = .ok (.aload 6, 2) := by decide +kernel
theorem dL_law_678 : decode cL_law 678 = .ok (.iload 18, 2) := by decide +kernel
theorem dL_law_680 : decode cL_law 680 = .ok (.aaload, 1) := by decide +kernel
theorem dL_law_681 : decode cL_law 681 = .ok (.iconst 2, 1) := by decide +kernel
theorem dL_law_682 : decode cL_law 682 = .ok (.iaload, 1) := by decide +kernel
theorem dL_law_683 : decode cL_law 683 = .ok (.iconst 2, 1) := by decide +kernel
theorem dL_law_684 : decode cL_law 684 = .ok (.if_icmp .ne 7, 3) := by decide +kernel
theorem dL_law_687 : decode cL_law 687 = .ok (.iconst 1, 1) := by decide +kernel
theorem dL_law_688 : decode cL_law 688 = .ok (.goto 4, 3) := by decide +kernel
theorem dL_law_691 : decode cL_law 691 = .ok (.iconst 0, 1) := by decide +kernel
theorem dL_law_692 : decode cL_law 692 = .ok (.if_icmp .ne 19, 3) := by decide +kernel
theorem dL_law_695 : decode cL_law 695 = .ok (.iload 19, 2) := by decide +kernel
theorem dL_law_697 : decode cL_law 697 = .ok (.ifCond .lt 16, 3) := by decide +kernel
theorem dL_law_700 : decode cL_law 700 = .ok (.aload 6, 2) := by decide +kernel
theorem dL_law_702 : decode cL_law 702 = .ok (.iload 18, 2) := by decide +kernel
theorem dL_law_704 : decode cL_law 704 = .ok (.aaload, 1) := by decide +kernel
theorem dL_law_705 : decode cL_law 705 = .ok (.iconst 2, 1) := by decide +kernel
theorem dL_law_706 : decode cL_law 706 = .ok (.iaload, 1) := by decide +kernel
theorem dL_law_707 : decode cL_law 707 = .ok (.iconst 3, 1) := by decide +kernel
theorem dL_law_708 : decode cL_law 708 = .ok (.if_icmp .ne 5, 3) := by decide +kernel
theorem dL_law_711 : decode cL_law 711 = .ok (.iconst 0, 1) := by decide +kernel
theorem dL_law_712 : decode cL_law 712 = .ok (.ireturn, 1) := by decide +kernel
theorem dL_law_713 : decode cL_law 713 = .ok (.aload_n 1, 1) := by decide +kernel
theorem dL_law_714 : decode cL_law 714 = .ok (.iconst 1, 1) := by decide +kernel
theorem dL_law_715 : decode cL_law 715 = .ok (.invokevirtual 36, 3) := by decide +kernel
theorem dL_law_718 : decode cL_law 718 = .ok (.istore 22, 2) := by decide +kernel
theorem dL_law_720 : decode cL_law 720 = .ok (.aload_n 1, 1) := by decide +kernel
theorem dL_law_721 : decode cL_law 721 = .ok (.iconst 1, 1) := by decide +kernel
theorem dL_law_722 : decode cL_law 722 = .ok (.invokevirtual 55, 3) := by decide +kernel
theorem dL_law_725 : decode cL_law 725 = .ok (.istore 23, 2) := by decide +kernel
theorem dL_law_727 : decode cL_law 727 = .ok (.iload 12, 2) := by decide +kernel
theorem dL_law_729 : decode cL_law 729 = .ok (.ifCond .lt 22, 3) := by decide +kernel
theorem dL_law_732 : decode cL_law 732 = .ok (.iload 8, 2) := by decide +kernel
theorem dL_law_734 : decode cL_law 734 = .ok (.bipush 60, 2) := by decide +kernel
theorem dL_law_736 : decode cL_law 736 = .ok (.aload 6, 2) := by decide +kernel
theorem dL_law_738 : decode cL_law 738 = .ok (.iload 12, 2) := by decide +kernel
theorem dL_law_740 : decode cL_law 740 = .ok (.aaload, 1) := by decide +kernel
theorem dL_law_741 : decode cL_law 741 = .ok (.iconst 0, 1) := by decide +kernel
theorem dL_law_742 : decode cL_law 742 = .ok (.iaload, 1) := by decide +kernel
theorem dL_law_743 : decode cL_law 743 = .ok (.imul, 1) := by decide +kernel
theorem dL_law_744 : decode cL_law 744 = .ok (.if_icmp .ne 7, 3) := by decide +kernel
theorem dL_law_747 : decode cL_law 747 = .ok (.iconst 1, 1) := by decide +kernel
theorem dL_law_748 : decode cL_law 748 = .ok (.goto 4, 3) := by decide +kernel
theorem dL_law_751 : decode cL_law 751 = .ok (.iconst 0, 1) := by decide +kernel
theorem dL_law_752 : decode cL_law 752 = .ok (.istore 24, 2) := by decide +kernel
theorem dL_law_754 : decode cL_law 754 = .ok (.iload 22, 2) := by decide +kernel
theorem dL_law_756 : decode cL_law 756 = .ok (.aload 17, 2) := by decide +kernel
theorem dL_law_758 : decode cL_law 758 = .ok (.iconst 0, 1) := by decide +kernel
theorem dL_law_759 : decode cL_law 759 = .ok (.iaload, 1) := by decide +kernel
theorem dL_law_760 : decode cL_law 760 = .ok (.if_icmp .ne 58, 3) := by decide +kernel
theorem dL_law_763 : decode cL_law 763 = .ok (.aload_n 1, 1) := by decide +kernel
theorem dL_law_764 : decode cL_law 764 = .ok (.bipush 9, 2) := by decide +kernel
theorem dL_law_766 : decode cL_law 766 = .ok (.invokevirtual 55, 3) := by decide +kernel
theorem dL_law_769 : decode cL_law 769 = .ok (.iload 10, 2) := by decide +kernel
theorem dL_law_771 : decode cL_law 771 = .ok (.isub, 1) := by decide +kernel
theorem dL_law_772 : decode cL_law 772 = .ok (.aload 17, 2) := by decide +kernel
theorem dL_law_774 : decode cL_law 774 = .ok (.iconst 1, 1) := by decide +kernel
theorem dL_law_775 : decode cL_law 775 = .ok (.iaload, 1) := by decide +kernel
theorem dL_law_776 : decode cL_law 776 = .ok (.if_icmp .ne 42, 3) := by decide +kernel
theorem dL_law_779 : decode cL_law 779 = .ok (.iload 23, 2) := by decide +kernel
theorem dL_law_781 : decode cL_law 781 = .ok (.aload 17, 2) := by decide +kernel
theorem dL_law_783 : decode cL_law 783 = .ok (.iconst 2, 1) := by decide +kernel
theorem dL_law_784 : decode cL_law 784 = .ok (.iaload, 1) := by decide +kernel
theorem dL_law_785 : decode cL_law 785 = .ok (.if_icmp .ne 33, 3) := by decide +kernel
theorem dL_law_788 : decode cL_law 788 = .ok (.aload_n 1, 1) := by decide +kernel
theorem dL_law_789 : decode cL_law 789 = .ok (.iconst 3, 1) := by decide +kernel
theorem dL_law_790 : decode cL_law 790 = .ok (.invokevirtual 55, 3) := by decide +kernel
theorem dL_law_793 : decode cL_law 793 = .ok (.aload 17, 2) := by decide +kernel
theorem dL_law_795 : decode cL_law 795 = .ok (.iconst 3, 1) := by decide +kernel
theorem dL_law_796 : decode cL_law 796 = .ok (.iaload, 1) := by decide +kernel
theorem dL_law_797 : decode cL_law 797 = .ok (.if_icmp .ne 21, 3) := by decide +kernel
theorem dL_law_800 : decode cL_law 800 = .ok (.aload_n 1, 1) := by decide +kernel
theorem dL_law_801 : decode cL_law 801 = .ok (.iconst 0, 1) := by decide +kernel
theorem dL_law_802 : decode cL_law 802 = .ok (.invokevirtual 55, 3) := by decide +kernel
theorem dL_law_805 : decode cL_law 805 = .ok (.iload 7, 2) := by decide +kernel
theorem dL_law_807 : decode cL_law 807 = .ok (.iconst 1, 1) := by decide +kernel
theorem dL_law_808 : decode cL_law 808 = .ok (.iadd, 1) := by decide +kernel
theorem dL_law_809 : decode cL_law 809 = .ok (.if_icmp .ne 9, 3) := by decide +kernel
theorem dL_law_812 : decode cL_law 812 = .ok (.iload 22, 2) := by decide +kernel
theorem dL_law_814 : decode cL_law 814 = .ok (.iconst 1, 1) := by decide +kernel
theorem dL_law_815 : decode cL_law 815 = .ok (.if_icmp .le 5, 3) := by decide +kernel
theorem dL_law_818 : decode cL_law 818 = .ok (.iconst 0, 1) := by decide +kernel
theorem dL_law_819 : decode cL_law 819 = .ok (.ireturn, 1) := by decide +kernel
theorem dL_law_820 : decode cL_law 820 = .ok (.iload 8, 2) := by decide +kernel
theorem dL_law_822 : decode cL_law 822 = .ok (.istore 25, 2) := by decide +kernel
theorem dL_law_824 : decode cL_law 824 = .ok (.iload 12, 2) := by decide +kernel
theorem dL_law_826 : decode cL_law 826 = .ok (.ifCond .lt 43, 3) := by decide +kernel
theorem dL_law_829 : decode cL_law 829 = .ok (.iload 24, 2) := by decide +kernel
theorem dL_law_831 : decode cL_law 831 = .ok (.ifCond .ne 38, 3) := by decide +kernel
theorem dL_law_834 : decode cL_law 834 = .ok (.aload 6, 2) := by decide +kernel
theorem dL_law_836 : decode cL_law 836 = .ok (.iload 12, 2) := by decide +kernel
theorem dL_law_838 : decode cL_law 838 = .ok (.aaload, 1) := by decide +kernel
theorem dL_law_839 : decode cL_law 839 = .ok (.iconst 0, 1) := by decide +kernel
theorem dL_law_840 : decode cL_law 840 = .ok (.iaload, 1) := by decide +kernel
theorem dL_law_841 : decode cL_law 841 = .ok (.iconst 1, 1) := by decide +kernel
theorem dL_law_842 : decode cL_law 842 = .ok (.if_icmp .ne 16, 3) := by decide +kernel
theorem dL_law_845 : decode cL_law 845 = .ok (.bipush 60, 2) := by decide +kernel
theorem dL_law_847 : decode cL_law 847 = .ok (.iload 8, 2) := by decide +kernel
theorem dL_law_849 : decode cL_law 849 = .ok (.iload 13, 2) := by decide +kernel
theorem dL_law_851 : decode cL_law 851 = .ok (.iadd, 1) := by decide +kernel
theorem dL_law_852 : decode cL_law 852 = .ok (.invokestatic 85, 3) := by decide +kernel
theorem dL_law_855 : decode cL_law 855 = .ok (.goto 12, 3) := by decide +kernel
theorem dL_law_858 : decode cL_law 858 = .ok (.iconst 0, 1) := by decide +kernel
theorem dL_law_859 : decode cL_law 859 = .ok (.iload 8, 2) := by decide +kernel
theorem dL_law_861 : decode cL_law 861 = .ok (.iload 14, 2) := by decide +kernel
theorem dL_law_863 : decode cL_law 863 = .ok (.isub, 1) := by decide +kernel
theorem dL_law_864 : decode cL_law 864 = .ok (.invokestatic 90, 3) := by decide +kernel
theorem dL_law_867 : decode cL_law 867 = .ok (.istore 25, 2) := by decide +kernel
theorem dL_law_869 : decode cL_law 869 = .ok (.iload 7, 2) := by decide +kernel
theorem dL_law_871 : decode cL_law 871 = .ok (.bipush 60, 2) := by decide +kernel
theorem dL_law_873 : decode cL_law 873 = .ok (.irem, 1) := by decide +kernel
theorem dL_law_874 : decode cL_law 874 = .ok (.ifCond .ne 28, 3) := by decide +kernel
theorem dL_law_877 : decode cL_law 877 = .ok (.bipush 9, 2) := by decide +kernel
theorem dL_law_879 : decode cL_law 879 = .ok (.iconst 0, 1) := by decide +kernel
theorem dL_law_880 : decode cL_law 880 = .ok (.iload 9, 2) := by decide +kernel
theorem dL_law_882 : decode cL_law 882 = .ok (.aload_n 2, 1) := by decide +kernel
theorem dL_law_883 : decode cL_law 883 = .ok (.iload 7, 2) := by decide +kernel
theorem dL_law_885 : decode cL_law 885 = .ok (.bipush 60, 2) := by decide +kernel
theorem dL_law_887 : decode cL_law 887 = .ok (.idiv, 1) := by decide +kernel
theorem dL_law_888 : decode cL_law 888 = .ok (.bipush 8, 2) := by decide +kernel
theorem dL_law_890 : decode cL_law 890 = .ok (.irem, 1) := by decide +kernel
theorem dL_law_891 : decode cL_law 891 = .ok (.iaload, 1) := by decide +kernel
theorem dL_law_892 : decode cL_law 892 = .ok (.iadd, 1) := by decide +kernel
theorem dL_law_893 : decode cL_law 893 = .ok (.invokestatic 90, 3) := by decide +kernel
theorem dL_law_896 : decode cL_law 896 = .ok (.invokestatic 85, 3) := by decide +kernel
theorem dL_law_899 : decode cL_law 899 = .ok (.goto 5, 3) := by decide +kernel
theorem dL_law_902 : decode cL_law 902 = .ok (.iload 9, 2) := by decide +kernel
theorem dL_law_904 : decode cL_law 904 = .ok (.istore 26, 2) := by decide +kernel
theorem dL_law_906 : decode cL_law 906 = .ok (.iload 23, 2) := by decide +kernel
theorem dL_law_908 : decode cL_law 908 = .ok (.iload 25, 2) := by decide +kernel
theorem dL_law_910 : decode cL_law 910 = .ok (.if_icmp .ne 48, 3) := by decide +kernel
theorem dL_law_913 : decode cL_law 913 = .ok (.aload_n 1, 1) := by decide +kernel
theorem dL_law_914 : decode cL_law 914 = .ok (.iconst 3, 1) := by decide +kernel
theorem dL_law_915 : decode cL_law 915 = .ok (.invokevirtual 55, 3) := by decide +kernel
theorem dL_law_918 : decode cL_law 918 = .ok (.iload 26, 2) := by decide +kernel
theorem dL_law_920 : decode cL_law 920 = .ok (.if_icmp .ne 38, 3) := by decide +kernel
theorem dL_law_923 : decode cL_law 923 = .ok (.aload_n 1, 1) := by decide +kernel
theorem dL_law_924 : decode cL_law 924 = .ok (.iconst 1, 1) := by decide +kernel
theorem dL_law_925 : decode cL_law 925 = .ok (.invokevirtual 65, 3) := by decide +kernel
theorem dL_law_928 : decode cL_law 928 = .ok (.aload_n 1, 1) := by decide +kernel
theorem dL_law_929 : decode cL_law 929 = .ok (.iconst 0, 1) := by decide +kernel
theorem dL_law_930 : decode cL_law 930 = .ok (.invokevirtual 65, 3) := by decide +kernel
theorem dL_law_933 : decode cL_law 933 = .ok (.iadd, 1) := by decide +kernel
theorem dL_law_934 : decode cL_law 934 = .ok (.bipush 6, 2) := by decide +kernel
theorem dL_law_936 : decode cL_law 936 = .ok (.if_icmp .le 7, 3) := by decide +kernel
theorem dL_law_939 : decode cL_law 939 = .ok (.iconst 1, 1) := by decide +kernel
theorem dL_law_940 : decode cL_law 940 = .ok (.goto 4, 3) := by decide +kernel
theorem dL_law_943 : decode cL_law 943 = .ok (.iconst 0, 1) := by decide +kernel
theorem dL_law_944 : decode cL_law 944 = .ok (.iload 26, 2) := by decide +kernel
theorem dL_law_946 : decode cL_law 946 = .ok (.iconst 5, 1) := by decide +kernel
theorem dL_law_947 : decode cL_law 947 = .ok (.if_icmp .ge 7, 3) := by decide +kernel
theorem dL_law_950 : decode cL_law 950 = .ok (.iconst 1, 1) := by decide +kernel
theorem dL_law_951 : decode cL_law 951 = .ok (.goto 4, 3) := by decide +kernel
theorem dL_law_954 : decode cL_law 954 = .ok (.iconst 0, 1) := by decide +kernel
theorem dL_law_955 : decode cL_law 955 = .ok (.if_icmp .eq 5, 3) := by decide +kernel
theorem dL_law_958 : decode cL_law 958 = .ok (.iconst 0, 1) := by decide +kernel
theorem dL_law_959 : decode cL_law 959 = .ok (.ireturn, 1) := by decide +kernel
theorem dL_law_960 : decode cL_law 960 = .ok (.iconst 0, 1) := by decide +kernel
theorem dL_law_961 : decode cL_law 961 = .ok (.istore 27, 2) := by decide +kernel
theorem dL_law_963 : decode cL_law 963 = .ok (.iconst 0, 1) := by decide +kernel
theorem dL_law_964 : decode cL_law 964 = .ok (.istore 28, 2) := by decide +kernel
theorem dL_law_966 : decode cL_law 966 = .ok (.iload 28, 2) := by decide +kernel
theorem dL_law_968 : decode cL_law 968 = .ok (.iload 5, 2) := by decide +kernel
theorem dL_law_970 : decode cL_law 970 = .ok (.if_icmp .ge 324, 3) := by decide +kernel
theorem dL_law_973 : decode cL_law 973 = .ok (.aload_n 1, 1) := by decide +kernel
theorem dL_law_974 : decode cL_law 974 = .ok (.iload 28, 2) := by decide +kernel
theorem dL_law_976 : decode cL_law 976 = .ok (.iconst 2, 1) := by decide +kernel
theorem dL_law_977 : decode cL_law 977 = .ok (.invokevirtual 58, 3) := by decide +kernel
theorem dL_law_980 : decode cL_law 980 = .ok (.istore 29, 2) := by decide +kernel
theorem dL_law_982 : decode cL_law 982 = .ok (.aload_n 1, 1) := by decide +kernel
theorem dL_law_983 : decode cL_law 983 = .ok (.iload 28, 2) := by decide +kernel
theorem dL_law_985 : decode cL_law 985 = .ok (.iconst 5, 1) := by decide +kernel
theorem dL_law_986 : decode cL_law 986 = .ok (.invokevirtual 58, 3) := by decide +kernel
theorem dL_law_989 : decode cL_law 989 = .ok (.istore 30, 2) := by decide +kernel
theorem dL_law_991 : decode cL_law 991 = .ok (.iload 27, 2) := by decide +kernel
theorem dL_law_993 : decode cL_law 993 = .ok (.iload 29, 2) := by decide +kernel
theorem dL_law_995 : decode cL_law 995 = .ok (.iconst 1, 1) := by decide +kernel
theorem dL_law_996 : decode cL_law 996 = .ok (.if_icmp .ne 7, 3) := by decide +kernel
theorem dL_law_999 : decode cL_law 999 = .ok (.iconst 1, 1) := by decide +kernel
theorem dL_law_1000 : decode cL_law 1000 = .ok (.goto 4, 3) := by decide +kernel
theorem dL_law_1003 : decode cL_law 1003 = .ok (.iconst 0, 1) := by decide +kernel
theorem dL_law_1004 : decode cL_law 1004 = .ok (.iadd, 1) := by decide +kernel
theorem dL_law_1005 : decode cL_law 1005 = .ok (.istore 27, 2) := by decide +kernel
theorem dL_law_1007 : decode cL_law 1007 = .ok (.iload 28, 2) := by decide +kernel
theorem dL_law_1009 : decode cL_law 1009 = .ok (.iload 11, 2) := by decide +kernel
theorem dL_law_1011 : decode cL_law 1011 = .ok (.if_icmp .eq 15, 3) := by decide +kernel
theorem dL_law_1014 : decode cL_law 1014 = .ok (.iload 24, 2) := by decide +kernel
theorem dL_law_1016 : decode cL_law 1016 = .ok (.ifCond .eq 14, 3) := by decide +kernel
theorem dL_law_1019 : decode cL_law 1019 = .ok (.iload 28, 2) := by decide +kernel
theorem dL_law_1021 : decode cL_law 1021 = .ok (.iload 12, 2) := by decide +kernel
theorem dL_law_1023 : decode cL_law 1023 = .ok (.if_icmp .ne 7, 3) := by decide +kernel
theorem dL_law_1026 : decode cL_law 1026 = .ok (.iconst 1, 1) := by decide +kernel
theorem dL_law_1027 : decode cL_law 1027 = .ok (.goto 4, 3) := by decide +kernel
theorem dL_law_1030 : decode cL_law 1030 = .ok (.iconst 0, 1) := by decide +kernel
theorem dL_law_1031 : decode cL_law 1031 = .ok (.istore 31, 2) := by decide +kernel
theorem dL_law_1033 : decode cL_law 1033 = .ok (.iload 28, 2) := by decide +kernel
theorem dL_law_1035 : decode cL_law 1035 = .ok (.iload 11, 2) := by decide +kernel
theorem dL_law_1037 : decode cL_law 1037 = .ok (.if_icmp .ne 13, 3) := by decide +kernel
theorem dL_law_1040 : decode cL_law 1040 = .ok (.aload 6, 2) := by decide +kernel
theorem dL_law_1042 : decode cL_law 1042 = .ok (.iload 28, 2) := by decide +kernel
theorem dL_law_1044 : decode cL_law 1044 = .ok (.aaload, 1) := by decide +kernel
theorem dL_law_1045 : decode cL_law 1045 = .ok (.iconst 5, 1) := by decide +kernel
theorem dL_law_1046 : decode cL_law 1046 = .ok (.iaload, 1) := by decide +kernel
theorem dL_law_1047 : decode cL_law 1047 = .ok (.goto 10, 3) := by decide +kernel
theorem dL_law_1050 : decode cL_law 1050 = .ok (.aload 6, 2) := by decide +kernel
theorem dL_law_1052 : decode cL_law 1052 = .ok (.iload 28, 2) := by decide +kernel
theorem dL_law_1054 : decode cL_law 1054 = .ok (.aaload, 1) := by decide +kernel
theorem dL_law_1055 : decode cL_law 1055 = .ok (.iconst 1, 1) := by decide +kernel
theorem dL_law_1056 : decode cL_law 1056 = .ok (.iaload, 1) := by decide +kernel
theorem dL_law_1057 : decode cL_law 1057 = .ok (.istore 32, 2) := by decide +kernel
theorem dL_law_1059 : decode cL_law 1059 = .ok (.aload_n 1, 1) := by decide +kernel
theorem dL_law_1060 : decode cL_law 1060 = .ok (.iload 28, 2) := by decide +kernel
theorem dL_law_1062 : decode cL_law 1062 = .ok (.iconst 4, 1) := by decide +kernel
theorem dL_law_1063 : decode cL_law 1063 = .ok (.invokevirtual 58, 3) := by decide +kernel
theorem dL_law_1066 : decode cL_law 1066 = .ok (.aload 6, 2) := by decide +kernel
theorem dL_law_1068 : decode cL_law 1068 = .ok (.iload 28, 2) := by decide +kernel
theorem dL_law_1070 : decode cL_law 1070 = .ok (.aaload, 1) := by decide +kernel
theorem dL_law_1071 : decode cL_law 1071 = .ok (.iconst 4, 1) := by decide +kernel
theorem dL_law_1072 : decode cL_law 1072 = .ok (.iaload, 1) := by decide +kernel
theorem dL_law_1073 : decode cL_law 1073 = .ok (.iload 29, 2) := by decide +kernel
theorem dL_law_1075 : decode cL_law 1075 = .ok (.ifCond .ne 7, 3) := by decide +kernel
theorem dL_law_1078 : decode cL_law 1078 = .ok (.iconst 1, 1) := by decide +kernel
theorem dL_law_1079 : decode cL_law 1079 = .ok (.goto 4, 3) := by decide +kernel
theorem dL_law_1082 : decode cL_law 1082 = .ok (.iconst 0, 1) := by decide +kernel
theorem dL_law_1083 : decode cL_law 1083 = .ok (.iadd, 1) := by decide +kernel
theorem dL_law_1084 : decode cL_law 1084 = .ok (.if_icmp .ne 54, 3) := by decide +kernel
theorem dL_law_1087 : decode cL_law 1087 = .ok (.aload_n 1, 1) := by decide +kernel
theorem dL_law_1088 : decode cL_law 1088 = .ok (.iload 28, 2) := by decide +kernel
theorem dL_law_1090 : decode cL_law 1090 = .ok (.iconst 0, 1) := by decide +kernel
theorem dL_law_1091 : decode cL_law 1091 = .ok (.invokevirtual 58, 3) := by decide +kernel
theorem dL_law_1094 : decode cL_law 1094 = .ok (.aload 6, 2) := by decide +kernel
theorem dL_law_1096 : decode cL_law 1096 = .ok (.iload 28, 2) := by decide +kernel
theorem dL_law_1098 : decode cL_law 1098 = .ok (.aaload, 1) := by decide +kernel
theorem dL_law_1099 : decode cL_law 1099 = .ok (.iconst 0, 1) := by decide +kernel
theorem dL_law_1100 : decode cL_law 1100 = .ok (.iaload, 1) := by decide +kernel
theorem dL_law_1101 : decode cL_law 1101 = .ok (.if_icmp .ne 37, 3) := by decide +kernel
theorem dL_law_1104 : decode cL_law 1104 = .ok (.aload_n 1, 1) := by decide +kernel
theorem dL_law_1105 : decode cL_law 1105 = .ok (.iload 28, 2) := by decide +kernel
theorem dL_law_1107 : decode cL_law 1107 = .ok (.iconst 1, 1) := by decide +kernel
theorem dL_law_1108 : decode cL_law 1108 = .ok (.invokevirtual 58, 3) := by decide +kernel
theorem dL_law_1111 : decode cL_law 1111 = .ok (.aload 6, 2) := by decide +kernel
theorem dL_law_1113 : decode cL_law 1113 = .ok (.iload 28, 2) := by decide +kernel
theorem dL_law_1115 : decode cL_law 1115 = .ok (.aaload, 1) := by decide +kernel
theorem dL_law_1116 : decode cL_law 1116 = .ok (.iconst 1, 1) := by decide +kernel
theorem dL_law_1117 : decode cL_law 1117 = .ok (.iaload, 1) := by decide +kernel
theorem dL_law_1118 : decode cL_law 1118 = .ok (.if_icmp .ne 20, 3) := by decide +kernel
theorem dL_law_1121 : decode cL_law 1121 = .ok (.aload_n 1, 1) := by decide +kernel
theorem dL_law_1122 : decode cL_law 1122 = .ok (.iload 28, 2) := by decide +kernel
theorem dL_law_1124 : decode cL_law 1124 = .ok (.iconst 3, 1) := by decide +kernel
theorem dL_law_1125 : decode cL_law 1125 = .ok (.invokevirtual 58, 3) := by decide +kernel
theorem dL_law_1128 : decode cL_law 1128 = .ok (.aload 6, 2) := by decide +kernel
theorem dL_law_1130 : decode cL_law 1130 = .ok (.iload 28, 2) := by decide +kernel
theorem dL_law_1132 : decode cL_law 1132 = .ok (.aaload, 1) := by decide +kernel
theorem dL_law_1133 : decode cL_law 1133 = .ok (.iconst 3, 1) := by decide +kernel
theorem dL_law_1134 : decode cL_law 1134 = .ok (.iaload, 1) := by decide +kernel
theorem dL_law_1135 : decode cL_law 1135 = .ok (.if_icmp .eq 5, 3) := by decide +kernel
theorem dL_law_1138 : decode cL_law 1138 = .ok (.iconst 0, 1) := by decide +kernel
theorem dL_law_1139 : decode cL_law 1139 = .ok (.ireturn, 1) := by decide +kernel
theorem dL_law_1140 : decode cL_law 1140 = .ok (.iload 31, 2) := by decide +kernel
theorem dL_law_1142 : decode cL_law 1142 = .ok (.ifCond .eq 69, 3) := by decide +kernel
theorem dL_law_1145 : decode cL_law 1145 = .ok (.iload 29, 2) := by decide +kernel
theorem dL_law_1147 : decode cL_law 1147 = .ok (.iload 32, 2) := by decide +kernel
theorem dL_law_1149 : decode cL_law 1149 = .ok (.iconst 1, 1) := by decide +kernel
theorem dL_law_1150 : decode cL_law 1150 = .ok (.if_icmp .ne 7, 3) := by decide +kernel
theorem dL_law_1153 : decode cL_law 1153 = .ok (.iconst 2, 1) := by decide +kernel
theorem dL_law_1154 : decode cL_law 1154 = .ok (.goto 4, 3) := by decide +kernel
theorem dL_law_1157 : decode cL_law 1157 = .ok (.iconst 1, 1) := by decide +kernel
theorem dL_law_1158 : decode cL_law 1158 = .ok (.if_icmp .ne 89, 3) := by decide +kernel
theorem dL_law_1161 : decode cL_law 1161 = .ok (.iload 30, 2) := by decide +kernel
theorem dL_law_1163 : decode cL_law 1163 = .ok (.iload 32, 2) := by decide +kernel
theorem dL_law_1165 : decode cL_law 1165 = .ok (.iconst 1, 1) := by decide +kernel
theorem dL_law_1166 : decode cL_law 1166 = .ok (.isub, 1) := by decide +kernel
theorem dL_law_1167 : decode cL_law 1167 = .ok (.if_icmp .ne 80, 3) := by decide +kernel
theorem dL_law_1170 : decode cL_law 1170 = .ok (.aload_n 1, 1) := by decide +kernel
theorem dL_law_1171 : decode cL_law 1171 = .ok (.iload 28, 2) := by decide +kernel
theorem dL_law_1173 : decode cL_law 1173 = .ok (.bipush 6, 2) := by decide +kernel
theorem dL_law_1175 : decode cL_law 1175 = .ok (.invokevirtual 58, 3) := by decide +kernel
theorem dL_law_1178 : decode cL_law 1178 = .ok (.iload 32, 2) := by decide +kernel
theorem dL_law_1180 : decode cL_law 1180 = .ok (.iconst 1, 1) := by decide +kernel
theorem dL_law_1181 : decode cL_law 1181 = .ok (.if_icmp .ne 8, 3) := by decide +kernel
theorem dL_law_1184 : decode cL_law 1184 = .ok (.iload 7, 2) := by decide +kernel
theorem dL_law_1186 : decode cL_law 1186 = .ok (.goto 4, 3) := by decide +kernel
theorem dL_law_1189 : decode cL_law 1189 = .ok (.iconst (-1), 1) := by decide +kernel
theorem dL_law_1190 : decode cL_law 1190 = .ok (.if_icmp .ne 57, 3) := by decide +kernel
theorem dL_law_1193 : decode cL_law 1193 = .ok (.iload 23, 2) := by decide +kernel
theorem dL_law_1195 : decode cL_law 1195 = .ok (.bipush 60, 2) := by decide +kernel
theorem dL_law_1197 : decode cL_law 1197 = .ok (.aload 6, 2) := by decide +kernel
theorem dL_law_1199 : decode cL_law 1199 = .ok (.iload 28, 2) := by decide +kernel
theorem dL_law_1201 : decode cL_law 1201 = .ok (.aaload, 1) := by decide +kernel
theorem dL_law_1202 : decode cL_law 1202 = .ok (.iconst 0, 1) := by decide +kernel
theorem dL_law_1203 : decode cL_law 1203 = .ok (.iaload, 1) := by decide +kernel
theorem dL_law_1204 : decode cL_law 1204 = .ok (.imul, 1) := by decide +kernel
theorem dL_law_1205 : decode cL_law 1205 = .ok (.if_icmp .eq 44, 3) := by decide +kernel
theorem dL_law_1208 : decode cL_law 1208 = .ok (.goto 39, 3) := by decide +kernel
theorem dL_law_1211 : decode cL_law 1211 = .ok (.iload 29, 2) := by decide +kernel
theorem dL_law_1213 : decode cL_law 1213 = .ok (.aload 6, 2) := by decide +kernel
theorem dL_law_1215 : decode cL_law 1215 = .ok (.iload 28, 2) := by decide +kernel
theorem dL_law_1217 : decode cL_law 1217 = .ok (.aaload, 1) := by decide +kernel
theorem dL_law_1218 : decode cL_law 1218 = .ok (.iconst 2, 1) := by decide +kernel
theorem dL_law_1219 : decode cL_law 1219 = .ok (.iaload, 1) := by decide +kernel
theorem dL_law_1220 : decode cL_law 1220 = .ok (.if_icmp .ne 27, 3) := by decide +kernel
theorem dL_law_1223 : decode cL_law 1223 = .ok (.iload 30, 2) := by decide +kernel
theorem dL_law_1225 : decode cL_law 1225 = .ok (.ifCond .ne 22, 3) := by decide +kernel
theorem dL_law_1228 : decode cL_law 1228 = .ok (.aload_n 1, 1) := by decide +kernel
theorem dL_law_1229 : decode cL_law 1229 = .ok (.iload 28, 2) := by decide +kernel
theorem dL_law_1231 : decode cL_law 1231 = .ok (.bipush 6, 2) := by decide +kernel
theorem dL_law_1233 : decode cL_law 1233 = .ok (.invokevirtual 58, 3) := by decide +kernel
theorem dL_law_1236 : decode cL_law 1236 = .ok (.aload 6, 2) := by decide +kernel
theorem dL_law_1238 : decode cL_law 1238 = .ok (.iload 28, 2) := by decide +kernel
theorem dL_law_1240 : decode cL_law 1240 = .ok (.aaload, 1) := by decide +kernel
theorem dL_law_1241 : decode cL_law 1241 = .ok (.bipush 6, 2) := by decide +kernel
theorem dL_law_1243 : decode cL_law 1243 = .ok (.iaload, 1) := by decide +kernel
theorem dL_law_1244 : decode cL_law 1244 = .ok (.if_icmp .eq 5, 3) := by decide +kernel
theorem dL_law_1247 : decode cL_law 1247 = .ok (.iconst 0, 1) := by decide +kernel
theorem dL_law_1248 : decode cL_law 1248 = .ok (.ireturn, 1) := by decide +kernel
theorem dL_law_1249 : decode cL_law 1249 = .ok (.iload 28, 2) := by decide +kernel
theorem dL_law_1251 : decode cL_law 1251 = .ok (.iload 18, 2) := by decide +kernel
theorem dL_law_1253 : decode cL_law 1253 = .ok (.if_icmp .ne 35, 3) := by decide +kernel
theorem dL_law_1256 : decode cL_law 1256 = .ok (.iload 19, 2) := by decide +kernel
theorem dL_law_1258 : decode cL_law 1258 = .ok (.ifCond .le 30, 3) := by decide +kernel
theorem dL_law_1261 : decode cL_law 1261 = .ok (.iload 19, 2) := by decide +kernel
theorem dL_law_1263 : decode cL_law 1263 = .ok (.iconst 1, 1) := by decide +kernel
theorem dL_law_1264 : decode cL_law 1264 = .ok (.if_icmp .ne 7, 3) := by decide +kernel
theorem dL_law_1267 : decode cL_law 1267 = .ok (.iconst 1, 1) := by decide +kernel
theorem dL_law_1268 : decode cL_law 1268 = .ok (.goto 4, 3) := by decide +kernel
theorem dL_law_1271 : decode cL_law 1271 = .ok (.iconst 0, 1) := by decide +kernel
theorem dL_law_1272 : decode cL_law 1272 = .ok (.iload 29, 2) := by decide +kernel
theorem dL_law_1274 : decode cL_law 1274 = .ok (.iconst 2, 1) := by decide +kernel
theorem dL_law_1275 : decode cL_law 1275 = .ok (.if_icmp .ne 7, 3) := by decide +kernel
theorem dL_law_1278 : decode cL_law 1278 = .ok (.iconst 1, 1) := by decide +kernel
theorem dL_law_1279 : decode cL_law 1279 = .ok (.goto 4, 3) := by decide +kernel
theorem dL_law_1282 : decode cL_law 1282 = .ok (.iconst 0, 1) := by decide +kernel
theorem dL_law_1283 : decode cL_law 1283 = .ok (.if_icmp .eq 5, 3) := by decide +kernel
theorem dL_law_1286 : decode cL_law 1286 = .ok (.iconst 0, 1) := by decide +kernel
theorem dL_law_1287 : decode cL_law 1287 = .ok (.ireturn, 1) := by decide +kernel
theorem dL_law_1288 : decode cL_law 1288 = .ok (.iinc 28 1, 3) := by decide +kernel
theorem dL_law_1291 : decode cL_law 1291 = .ok (.goto (-325), 3) := by decide +kernel
theorem dL_law_1294 : decode cL_law 1294 = .ok (.iload 27, 2) := by decide +kernel
theorem dL_law_1296 : decode cL_law 1296 = .ok (.iconst 1, 1) := by decide +kernel
theorem dL_law_1297 : decode cL_law 1297 = .ok (.if_icmp .gt 46, 3) := by decide +kernel
theorem dL_law_1300 : decode cL_law 1300 = .ok (.iload 27, 2) := by decide +kernel
theorem dL_law_1302 : decode cL_law 1302 = .ok (.aload_n 1, 1) := by decide +kernel
theorem dL_law_1303 : decode cL_law 1303 = .ok (.bipush 10, 2) := by decide +kernel
theorem dL_law_1305 : decode cL_law 1305 = .ok (.invokevirtual 55, 3) := by decide +kernel
theorem dL_law_1308 : decode cL_law 1308 = .ok (.ifCond .lt 7, 3) := by decide +kernel
theorem dL_law_1311 : decode cL_law 1311 = .ok (.iconst 1, 1) := by decide +kernel
theorem dL_law_1312 : decode cL_law 1312 = .ok (.goto 4, 3) := by decide +kernel
theorem dL_law_1315 : decode cL_law 1315 = .ok (.iconst 0, 1) := by decide +kernel
theorem dL_law_1316 : decode cL_law 1316 = .ok (.if_icmp .ne 27, 3) := by decide +kernel
theorem dL_law_1319 : decode cL_law 1319 = .ok (.iload 5, 2) := by decide +kernel
theorem dL_law_1321 : decode cL_law 1321 = .ok (.ifCond .le 24, 3) := by decide +kernel
theorem dL_law_1324 : decode cL_law 1324 = .ok (.aload_n 1, 1) := by decide +kernel
theorem dL_law_1325 : decode cL_law 1325 = .ok (.invokevirtual 93, 3) := by decide +kernel
theorem dL_law_1328 : decode cL_law 1328 = .ok (.aload_n 1, 1) := by decide +kernel
theorem dL_law_1329 : decode cL_law 1329 = .ok (.bipush 9, 2) := by decide +kernel
theorem dL_law_1331 : decode cL_law 1331 = .ok (.invokevirtual 55, 3) := by decide +kernel
theorem dL_law_1334 : decode cL_law 1334 = .ok (.i2d, 1) := by decide +kernel
theorem dL_law_1335 : decode cL_law 1335 = .ok (.iload 5, 2) := by decide +kernel
theorem dL_law_1337 : decode cL_law 1337 = .ok (.i2d, 1) := by decide +kernel
theorem dL_law_1338 : decode cL_law 1338 = .ok (.ddiv, 1) := by decide +kernel
theorem dL_law_1339 : decode cL_law 1339 = .ok (.dcmp .l, 1) := by decide +kernel
theorem dL_law_1340 : decode cL_law 1340 = .ok (.ifCond .eq 5, 3) := by decide +kernel
theorem dL_law_1343 : decode cL_law 1343 = .ok (.iconst 0, 1) := by decide +kernel
theorem dL_law_1344 : decode cL_law 1344 = .ok (.ireturn, 1) := by decide +kernel
theorem dL_law_1345 : decode cL_law 1345 = .ok (.iinc 3 1, 3) := by decide +kernel
theorem dL_law_1348 : decode cL_law 1348 = .ok (.goto (-1300), 3) := by decide +kernel
theorem dL_law_1351 : decode cL_law 1351 = .ok (.iconst 1, 1) := by decide +kernel
theorem dL_law_1352 : decode cL_law 1352 = .ok (.ireturn, 1) := by decide +kernel
abbrev vwCl : List vw_C := [(RX0, TX0, 11), (RX1, TX1, 12), (RX2, TX2, 2)]
end
section
/-! OWN KIT: contracts whose answer and world are functions; calls and ends in one row each -/
section XK
abbrev nwl : List Cond := [.methodLinkNest RX2 9 yX0_init "BridgeBells", .methodLinkNest RX0 36 yX1_init "BridgeBells"]
def xNw (U : State) : Prop := ∀ w ∈ nwl, va_Nw w U
theorem xN_on : ∀ w ∈ nwl, w.onTables = true := by decide +kernel
theorem xN_tbl : ∀ w ∈ nwl, w ∈ lw_tbl := by decide +kernel
theorem xNw.same {u U : State} (h : u.vm = U.vm) (hZ : xNw u) : xNw U := fun w hw => va_Nw.same (xN_on w hw) h (hZ w hw)
theorem xNw.warm {s U : State} (hW : s.WarmedH U.vm) (h : xNw s) : xNw U := by
  intro w hw
  have h0 := h w hw
  simp only [nwl, List.mem_cons, List.not_mem_nil, or_false] at hw
  rcases hw with rfl | rfl
  all_goals first | exact va_Nw.warmF hW h0 | exact va_Nw.warmM hW h0
theorem xNw.use {s : State} (h : xNw s) (i : Nat) {w : Cond} (hw : nwl[i]? = some w) {a : Array Value} : w.before a s = true := va_Nw.use (xN_on w (List.mem_of_getElem? hw)) (h w (List.mem_of_getElem? hw))
theorem xNw.at {s : State} (h : xNw s) (i : Nat) {w : Cond} (hw : nwl[i]? = some w) : va_Nw w s := h w (List.mem_of_getElem? hw)
/-- a start: the arguments, the cells, the tables -/
def xPc (D : va_G) (tys : List (ClassId × FieldType)) (av : List Value) (sz : Nat) (ws : va_W) : Array Value → State → Prop := va_Pc av (fun U => U.heap.size = sz ∧ va_P D vwCl ws U.heap ∧ va_K D vwCl tys U ∧ va_D (fun _ => True) ws ∧ xNw U)
def xB (D : va_G) (tys : List (ClassId × FieldType)) (A : Nat → Prop) (ws : va_W) (t : State) : Prop := va_P D vwCl ws t.heap ∧ va_K D vwCl tys t ∧ va_D A ws
abbrev xQi (D : va_G) (tys : List (ClassId × FieldType)) (A : Nat → Prop) (R : Int32) (w1 : va_W) := va_Qi (fun (r : Int32) (_ : Unit) => r = R) (fun _ => xB D tys A w1) A
abbrev xQl (D : va_G) (tys : List (ClassId × FieldType)) (A : Nat → Prop) (R : Int64) (w1 : va_W) := va_Ql (fun (r : Int64) (_ : Unit) => r = R) (fun _ => xB D tys A w1) A
abbrev xQd (D : va_G) (tys : List (ClassId × FieldType)) (A : Nat → Prop) (R : UInt64) (w1 : va_W) := va_Qd (fun (r : UInt64) (_ : Unit) => r = R) (fun _ => xB D tys A w1) A
abbrev xQv (D : va_G) (tys : List (ClassId × FieldType)) (A : Nat → Prop) (w1 : va_W) := va_Qv (fun (_ : Unit) => True) (fun _ => xB D tys A w1) A
abbrev xMi (l : Launch) (D : va_G) (tys : List (ClassId × FieldType)) (y : MethodName) (ws : List Cond) (rm : Room) (av : List Value) (sz : Nat) (wc : va_W) (R : Int32) (w1 : va_W) (mc ms : Nat) := Met l y ws rm (xPc D tys av sz wc) (xQi D tys (va_A wc sz) R w1) mc ms (va_A wc sz)
abbrev xMl (l : Launch) (D : va_G) (tys : List (ClassId × FieldType)) (y : MethodName) (ws : List Cond) (rm : Room) (av : List Value) (sz : Nat) (wc : va_W) (R : Int64) (w1 : va_W) (mc ms : Nat) := Met l y ws rm (xPc D tys av sz wc) (xQl D tys (va_A wc sz) R w1) mc ms (va_A wc sz)
abbrev xMd (l : Launch) (D : va_G) (tys : List (ClassId × FieldType)) (y : MethodName) (ws : List Cond) (rm : Room) (av : List Value) (sz : Nat) (wc : va_W) (R : UInt64) (w1 : va_W) (mc ms : Nat) := Met l y ws rm (xPc D tys av sz wc) (xQd D tys (va_A wc sz) R w1) mc ms (va_A wc sz)
abbrev xMv (l : Launch) (D : va_G) (tys : List (ClassId × FieldType)) (y : MethodName) (ws : List Cond) (rm : Room) (av : List Value) (sz : Nat) (wc : va_W) (w1 : va_W) (mc ms : Nat) := Met l y ws rm (xPc D tys av sz wc) (xQv D tys (va_A wc sz) w1) mc ms (va_A wc sz)
/-- what a body has at its start -/
def xSt (p : Program) (s : State) (m : MethodId) (meth : Method) (c : Code) (cc : ByteArray) (ret : Option FieldType) (ws : List Cond) (y : MethodName) (args : Array Value) (maxL : Nat) (D : va_G) (tys : List (ClassId × FieldType)) (wc : va_W) (A : Nat → Prop) (H : Heap) : Prop :=
  p.tables.exec = Jvm.exec ∧ c.code = cc ∧ meth.sig.returnType = ret ∧ (∀ w ∈ ws, w.before args s = true) ∧ s.vm.findClass y.cls = some m.cls ∧ meth.locks = false ∧ c.maxLocals = maxL ∧ meth.name = y.name ∧ xNw s ∧ va_K D vwCl tys s ∧ va_P D vwCl wc H ∧ va_D A wc ∧ (∀ q : Nat, s.heap.size ≤ q → A q) ∧ va_S A s.heap H []
theorem xk_start {l : Launch} {y : MethodName} {ws ws' : List Cond} {rm : Room} {D : va_G} {tys : List (ClassId × FieldType)} {av : List Value} {sz : Nat} {wc : va_W} {Qf : (Nat → Prop) → Array Value → State → Outcome → State → Prop} {mc ms : Nat} {cc : ByteArray} {maxL : Nat} {ret : Option FieldType}
    (hy : plainName y.cls = true) (hw : ws = Cond.code y cc maxL ret :: ws') (hn : (lg_sl av).length ≤ maxL)
    (body : ∀ (p : Program) (e : Env) (s : State) (m : MethodId) (below : List Frame) (meth : Method) (c : Code) (A : Nat → Prop) (H : Heap) (ls : Array Slot), xSt p s m meth c cc ret ws y av.toArray maxL D tys wc A H → va_A wc s.heap.size = A → s.heap.size = sz → lv_has ls maxL (lv_args 0 av) → W p l e rm s m av.toArray below meth c H [] 0 0 (MQ below (Qf A) av.toArray s mc ms A) (F0 m 0 ls [])) :
    Met l y ws rm (xPc D tys av sz wc) (Qf (va_A wc sz)) mc ms (va_A wc sz) := by
  refine Met.ofW (cc := cc) (maxL := maxL) (ret := ret) hy hw ?_
  intro p e s m args below meth c s₁ B hml hv
  obtain ⟨rfl, hsz, hP, hK, hD0, hN⟩ := hv
  subst hsz
  have hl := lv_entry av (n := maxL) hn
  rw [lg_entry_eq]
  exact body p e s m below meth c (va_A wc s.heap.size) s.heap _ ⟨B.exec, B.bytes, B.returns, atoms_spec (ws := ws) B.pre, findClass_of_methodNamed B.named, B.notSynchronized, hml, (name_of_methodNamed B.named B.method).1, hN, hK, hP, hD0.self, fun q h => Or.inr h, va_S.rf⟩ rfl rfl hl
theorem xk_startF {l : Launch} {y : MethodName} {ws ws' : List Cond} {rm : Room} {D : va_G} {tys : List (ClassId × FieldType)} {av : List Value} {sz : Nat} {wc : va_W} {Qf : (Nat → Prop) → Array Value → State → Outcome → State → Prop} {mc ms : Nat} {cc : ByteArray} {maxL : Nat} {ret : Option FieldType}
    (hy : plainFor y = true) (hw : ws = Cond.code y cc maxL ret :: ws') (hn : (lg_sl av).length ≤ maxL)
    (body : ∀ (p : Program) (e : Env) (s : State) (m : MethodId) (below : List Frame) (meth : Method) (c : Code) (A : Nat → Prop) (H : Heap) (ls : Array Slot), xSt p s m meth c cc ret ws y av.toArray maxL D tys wc A H → va_A wc s.heap.size = A → s.heap.size = sz → lv_has ls maxL (lv_args 0 av) → W p l e rm s m av.toArray below meth c H [] 0 0 (MQ below (Qf A) av.toArray s mc ms A) (F0 m 0 ls [])) :
    Met l y ws rm (xPc D tys av sz wc) (Qf (va_A wc sz)) mc ms (va_A wc sz) := by
  refine MetFree.of_bodySF (code := cc) (maxLocals := maxL) (ret := ret) hy ?_ ?_
  · intro args s m h hn
    obtain ⟨meth, c, h1, h2, h3, h4, h5, h6, -, -⟩ := Cond.code_spec hn (atoms_spec (ws := ws) h _ (by rw [hw]; exact List.mem_cons_self))
    exact ⟨meth, c, h1, h2, h3, h4, h5, h6⟩
  · intro p e s m args below meth c s₁ B hml hv _
    have hh0 : s₁.heap = s.heap := by rw [B.state]; rfl
    obtain ⟨rfl, hsz, hP, hK, hD0, hN⟩ := hv
    subst hsz
    have hl := lv_entry av (n := maxL) hn
    have K := body p e s m below meth c (va_A wc s.heap.size) s.heap _ ⟨B.exec, B.bytes, B.returns, atoms_spec (ws := ws) B.pre, findClass_of_methodNamed B.named, B.notSynchronized, hml, (name_of_methodNamed B.named B.method).1, hN, hK, hP, hD0.self, fun q h => Or.inr h, va_S.rf⟩ rfl rfl hl
    rw [← lg_entry_eq] at K
    obtain ⟨t, a1, o, b1, b2, b3⟩ := K s₁ hh0 (Stand.of_body B)
    exact ⟨t, o, a1, b1, b2, ⟨b3.1, b3.2⟩⟩
variable {p : Program} {l : Launch} {e : Env} {R : Room} {s : State} {m : MethodId} {args : Array Value} {below : List Frame} {meth : Method} {c : Code} {H : Heap} {locs : List Loc} {cells slots : Nat} {Q : State → Prop}
variable {cc : ByteArray} {pc : Nat} {ls : Array Slot} {rest st0 : List Value} {D : va_G} {tys : List (ClassId × FieldType)} {A : Nat → Prop} {H0 : Heap}
theorem xfm {α β : Type} {f : α → Option β} : ∀ {is : List α} {w : List β}, is.map f = w.map some → is.filterMap f = w
  | [], w, h => by
    cases w with
    | nil => rfl
    | cons => simp at h
  | i :: is, w, h => by
    cases w with
    | nil => simp at h
    | cons b w =>
      simp only [List.map_cons, List.cons.injEq] at h
      rw [List.filterMap_cons, h.1]
      exact congrArg (b :: ·) (xfm h.2)
theorem xk_iret {V : Type} {wf : V → va_W} {u u1 : V} {v Rv : Int32} {ty : FieldType} (hx : p.tables.exec = Jvm.exec) (hb : c.code = cc) (hr : meth.sig.returnType = some ty) (hn : narrow ty (.int v) = .int v) (hlocks : meth.locks = false) (hP : va_P D vwCl (wf u) H) (hK : va_K D vwCl tys s) (hD : va_D A (wf u)) (hS : va_S A s.heap H locs) (hv : v = Rv) (hu : u = u1) (hdg : decode cc pc = .ok (.ireturn, 1)) :
    W p l e R s m args below meth c H locs cells slots (MQ below (xQi D tys A Rv (wf u1)) args s cells slots A) (F0 m pc ls [.int v]) := by
  subst hu
  exact W.zret hx hb hr hn (fun t ht hW => ⟨⟨v, (), rfl, hv, by rw [ht]; exact hP, va_K.moved hW.alike hK, hD⟩, hS.F ht⟩) hS.2.2 hdg hlocks
theorem xk_lret {V : Type} {wf : V → va_W} {u u1 : V} {v Rv : Int64} (hx : p.tables.exec = Jvm.exec) (hb : c.code = cc) (hr : meth.sig.returnType = some .long) (hlocks : meth.locks = false) (hP : va_P D vwCl (wf u) H) (hK : va_K D vwCl tys s) (hD : va_D A (wf u)) (hS : va_S A s.heap H locs) (hv : v = Rv) (hu : u = u1) (hdg : decode cc pc = .ok (.lreturn, 1)) :
    W p l e R s m args below meth c H locs cells slots (MQ below (xQl D tys A Rv (wf u1)) args s cells slots A) (F0 m pc ls [.long v]) := by
  subst hu
  exact W.lret hx hb hr (fun t ht hW => ⟨⟨v, (), rfl, hv, by rw [ht]; exact hP, va_K.moved hW.alike hK, hD⟩, hS.F ht⟩) hS.2.2 hdg hlocks
theorem xk_dret {V : Type} {wf : V → va_W} {u u1 : V} {v Rv : UInt64} (hx : p.tables.exec = Jvm.exec) (hb : c.code = cc) (hr : meth.sig.returnType = some .double) (hlocks : meth.locks = false) (hP : va_P D vwCl (wf u) H) (hK : va_K D vwCl tys s) (hD : va_D A (wf u)) (hS : va_S A s.heap H locs) (hv : v = Rv) (hu : u = u1) (hdg : decode cc pc = .ok (.dreturn, 1)) :
    W p l e R s m args below meth c H locs cells slots (MQ below (xQd D tys A Rv (wf u1)) args s cells slots A) (F0 m pc ls [.double v]) := by
  subst hu
  exact W.dret hx hb hr (fun t ht hW => ⟨⟨v, (), rfl, hv, by rw [ht]; exact hP, va_K.moved hW.alike hK, hD⟩, hS.F ht⟩) hS.2.2 hdg hlocks
theorem xk_vret {V : Type} {wf : V → va_W} {u u1 : V} (hx : p.tables.exec = Jvm.exec) (hb : c.code = cc) (hr : meth.sig.returnType = none) (hlocks : meth.locks = false) (hP : va_P D vwCl (wf u) H) (hK : va_K D vwCl tys s) (hD : va_D A (wf u)) (hS : va_S A s.heap H locs) (hu : u = u1) (hdg : decode cc pc = .ok (.return_, 1)) :
    W p l e R s m args below meth c H locs cells slots (MQ below (xQv D tys A (wf u1)) args s cells slots A) (F0 m pc ls []) := by
  subst hu
  exact W.vret hx hb hr (fun t ht hW => ⟨⟨(), rfl, trivial, by rw [ht]; exact hP, va_K.moved hW.alike hK, hD⟩, hS.F ht⟩) hS.2.2 hdg hlocks
/-- a callee's start, over the cells that it gets -/
theorem xk_pre {av : List Value} {wsA wc : va_W} (hN : xNw s) (hP : va_P D vwCl wsA H) (hK : va_K D vwCl tys s) (hD : va_D A wsA) (isC : List Nat) (hn : va_nd isC = true) (hC : isC.map (fun i => wsA[i]?) = wc.map some) : PreS s H (xPc D tys av H.size wc) av :=
  ⟨fun a U g mk q => by
    obtain ⟨q0, q1, qP, qK, qD, qN⟩ := q
    exact ⟨q0, q1, qP, va_K.moved (u := U) (U := U.calling g mk a) (Vm.Alike.refl U.vm) qK, qD, xNw.same (u := U) (U := U.calling g mk a) rfl qN⟩,
   fun U hU hW => ⟨rfl, by rw [hU], by rw [hU]; exact hP.sub isC (xfm hC), va_K.moved hW.alike hK, (hD.sub isC hn hC).weaken (fun _ _ _ _ => trivial), hN.warm hW⟩⟩
theorem xk_preV {av : List Value} {wsA wc : va_W} {a q0 ci : Nat} {q : vw_C} {fs : List Value} (hN : xNw s) (hP : va_P D vwCl wsA H) (hK : va_K D vwCl tys s) (hD : va_D A wsA) (isC : List Nat) (hn : va_nd isC = true) (hC : isC.map (fun i => wsA[i]?) = wc.map some) (he : wsA[q0]? = some (a, .inr (ci, fs))) (hc : vwCl[ci]? = some q) : PreV s H q.1 a (xPc D tys (.ref a :: av) H.size wc) av :=
  have h := xk_pre (av := .ref a :: av) hN hP hK hD isC hn hC
  ⟨h.1, va_recv hK hP hc he, h.2⟩
/-- behind a call: the caller's cells in their old order -/
theorem xk_joined {wsA wc wr w1 w2 : va_W} {H1 : Heap} {t : State} (hP : va_P D vwCl wsA H) (hD : va_D A wsA) (hS : va_S A H0 H locs) (hA : ∀ q, H0.size ≤ q → A q) (isC isR perm : List Nat) (hC : isC.map (fun i => wsA[i]?) = wc.map some) (hR : isR.map (fun i => wsA[i]?) = wr.map some) (hn : va_nd isR = true) (hdis : ∀ i ∈ isR, i ∉ isC) (hpn : va_nd perm = true) (hp : perm.map (fun i => (wr ++ w1)[i]?) = w2.map some)
    (ht : t.heap = H1) (hB : xB D tys (va_A wc H.size) w1 t) (hk : ∀ q : Nat, q < H.size → ¬ va_A wc H.size q → H1[q]? = H[q]?) : va_P D vwCl w2 H1 ∧ va_D A w2 := by
  obtain ⟨hP1, hK1, hD1⟩ := hB
  rw [ht] at hP1
  obtain ⟨h1, h2⟩ := va_join (wr := wr) (w1 := w1) hP hD isC isR hC hR hn hdis hk (va_free (wc := wc) hD hS hA isC hC) hP1 hD1
  exact ⟨h1.sub perm (xfm hp), h2.sub perm hpn hp⟩
theorem xk_calli {mc ms : Nat} {a9 : Array Value} {Rv : Int32} {wsA wc w1 : va_W} (wr w2 : va_W) (isC isR perm : List Nat) (hP : va_P D vwCl wsA H) (hD : va_D A wsA) (hS : va_S A H0 H locs) (hA : ∀ q, H0.size ≤ q → A q)
    (hr : va_Run p l e R s m args below meth c H locs cells slots mc ms (F0 m pc ls st0) rest (xQi D tys (va_A wc H.size) Rv w1 a9) (va_A wc H.size))
    (hC : isC.map (fun i => wsA[i]?) = wc.map some) (hR : isR.map (fun i => wsA[i]?) = wr.map some) (hn : va_nd isR = true) (hdis : ∀ i ∈ isR, i ∉ isC) (hpn : va_nd perm = true) (hp : perm.map (fun i => (wr ++ w1)[i]?) = w2.map some)
    (kk : ∀ (H1 : Heap) (locs1 : List Loc), va_P D vwCl w2 H1 → va_D A w2 → va_S A H0 H1 locs1 → W p l e R s m args below meth c H1 locs1 (cells + mc) (slots + ms) Q (F0 m (pc + 3) ls (.int Rv :: rest))) : W p l e R s m args below meth c H locs cells slots Q (F0 m pc ls st0) := by
  have hF := va_free (wc := wc) hD hS hA isC hC
  refine va_calli hr hS (fun q _ h => hF q h) hF (fun r u t H1 locs1 ht hvm hw hB hz1 hk1 hS1 => ?_)
  have hw : r = Rv := hw
  subst hw
  obtain ⟨h1, h2⟩ := xk_joined hP hD hS hA isC isR perm hC hR hn hdis hpn hp ht hB hk1
  exact kk H1 locs1 h1 h2 hS1
theorem xk_calll {mc ms : Nat} {a9 : Array Value} {Rv : Int64} {wsA wc w1 : va_W} (wr w2 : va_W) (isC isR perm : List Nat) (hP : va_P D vwCl wsA H) (hD : va_D A wsA) (hS : va_S A H0 H locs) (hA : ∀ q, H0.size ≤ q → A q)
    (hr : va_Run p l e R s m args below meth c H locs cells slots mc ms (F0 m pc ls st0) rest (xQl D tys (va_A wc H.size) Rv w1 a9) (va_A wc H.size))
    (hC : isC.map (fun i => wsA[i]?) = wc.map some) (hR : isR.map (fun i => wsA[i]?) = wr.map some) (hn : va_nd isR = true) (hdis : ∀ i ∈ isR, i ∉ isC) (hpn : va_nd perm = true) (hp : perm.map (fun i => (wr ++ w1)[i]?) = w2.map some)
    (kk : ∀ (H1 : Heap) (locs1 : List Loc), va_P D vwCl w2 H1 → va_D A w2 → va_S A H0 H1 locs1 → W p l e R s m args below meth c H1 locs1 (cells + mc) (slots + ms) Q (F0 m (pc + 3) ls (.long Rv :: rest))) : W p l e R s m args below meth c H locs cells slots Q (F0 m pc ls st0) := by
  have hF := va_free (wc := wc) hD hS hA isC hC
  refine va_calll hr hS (fun q _ h => hF q h) hF (fun r u t H1 locs1 ht hvm hw hB hz1 hk1 hS1 => ?_)
  have hw : r = Rv := hw
  subst hw
  obtain ⟨h1, h2⟩ := xk_joined hP hD hS hA isC isR perm hC hR hn hdis hpn hp ht hB hk1
  exact kk H1 locs1 h1 h2 hS1
theorem xk_calld {mc ms : Nat} {a9 : Array Value} {Rv : UInt64} {wsA wc w1 : va_W} (wr w2 : va_W) (isC isR perm : List Nat) (hP : va_P D vwCl wsA H) (hD : va_D A wsA) (hS : va_S A H0 H locs) (hA : ∀ q, H0.size ≤ q → A q)
    (hr : va_Run p l e R s m args below meth c H locs cells slots mc ms (F0 m pc ls st0) rest (xQd D tys (va_A wc H.size) Rv w1 a9) (va_A wc H.size))
    (hC : isC.map (fun i => wsA[i]?) = wc.map some) (hR : isR.map (fun i => wsA[i]?) = wr.map some) (hn : va_nd isR = true) (hdis : ∀ i ∈ isR, i ∉ isC) (hpn : va_nd perm = true) (hp : perm.map (fun i => (wr ++ w1)[i]?) = w2.map some)
    (kk : ∀ (H1 : Heap) (locs1 : List Loc), va_P D vwCl w2 H1 → va_D A w2 → va_S A H0 H1 locs1 → W p l e R s m args below meth c H1 locs1 (cells + mc) (slots + ms) Q (F0 m (pc + 3) ls (.double Rv :: rest))) : W p l e R s m args below meth c H locs cells slots Q (F0 m pc ls st0) := by
  have hF := va_free (wc := wc) hD hS hA isC hC
  refine va_calld hr hS (fun q _ h => hF q h) hF (fun r u t H1 locs1 ht hvm hw hB hz1 hk1 hS1 => ?_)
  have hw : r = Rv := hw
  subst hw
  obtain ⟨h1, h2⟩ := xk_joined hP hD hS hA isC isR perm hC hR hn hdis hpn hp ht hB hk1
  exact kk H1 locs1 h1 h2 hS1
theorem xk_callv {mc ms : Nat} {a9 : Array Value} {wsA wc w1 : va_W} (wr w2 : va_W) (isC isR perm : List Nat) (hP : va_P D vwCl wsA H) (hD : va_D A wsA) (hS : va_S A H0 H locs) (hA : ∀ q, H0.size ≤ q → A q)
    (hr : va_Run p l e R s m args below meth c H locs cells slots mc ms (F0 m pc ls st0) rest (xQv D tys (va_A wc H.size) w1 a9) (va_A wc H.size))
    (hC : isC.map (fun i => wsA[i]?) = wc.map some) (hR : isR.map (fun i => wsA[i]?) = wr.map some) (hn : va_nd isR = true) (hdis : ∀ i ∈ isR, i ∉ isC) (hpn : va_nd perm = true) (hp : perm.map (fun i => (wr ++ w1)[i]?) = w2.map some)
    (kk : ∀ (H1 : Heap) (locs1 : List Loc), va_P D vwCl w2 H1 → va_D A w2 → va_S A H0 H1 locs1 → W p l e R s m args below meth c H1 locs1 (cells + mc) (slots + ms) Q (F0 m (pc + 3) ls rest)) : W p l e R s m args below meth c H locs cells slots Q (F0 m pc ls st0) := by
  have hF := va_free (wc := wc) hD hS hA isC hC
  refine va_callv hr hS (fun q _ h => hF q h) hF (fun u t H1 locs1 ht hvm hw hB hz1 hk1 hS1 => ?_)
  obtain ⟨h1, h2⟩ := xk_joined hP hD hS hA isC isR perm hC hR hn hdis hpn hp ht hB hk1
  exact kk H1 locs1 h1 h2 hS1
/-- an array's cell by its contents alone -/
theorem xk_arr {cA : ClassId} {n : Nat} {f g : Nat → Int32} (h : ∀ j, j < n → f j = g j) : vp_cell cA (n, .inl f) = vp_cell cA (n, .inl g) := by
  show arrV cA n (fun j => .int (f j)) = arrV cA n (fun j => .int (g j))
  unfold arrV
  congr 1
  congr 1
  funext j
  exact congrArg Value.int (h j.val j.isLt)
theorem xk_arrP {cA : ClassId} {a n : Nat} {f g : Nat → Int32} {ws : va_W} (k : Nat) (hP : va_P D vwCl ws H) (hk : ws[k]? = some (a, .inl (cA, n, .inl f))) (h : ∀ j, j < n → f j = g j) : va_P D vwCl (ws.set k (a, .inl (cA, n, .inl g))) H := by
  have hl := (List.getElem?_eq_some_iff.mp hk).1
  intro i q hi
  by_cases hik : i = k
  · subst hik
    rw [List.getElem?_set_self hl] at hi
    cases hi
    have h0 := hP _ _ hk
    show H[a]? = some (vp_cell cA (n, .inl g))
    rw [← xk_arr h]
    exact h0
  · rw [List.getElem?_set_ne (Ne.symm hik)] at hi
    exact hP i q hi
theorem xk_arrD {cA : ClassId} {a n : Nat} {f g : Nat → Int32} {ws : va_W} (k : Nat) (hD : va_D A ws) (hk : ws[k]? = some (a, .inl (cA, n, .inl f))) : va_D A (ws.set k (a, .inl (cA, n, .inl g))) := hD.set hk
theorem cpy_all {f g : Nat → Int32} {n : Int32} {m : Nat} (h : n.toNatClampNeg = m) : ∀ j, j < m → va_cpy f g (0 : Int32).toNatClampNeg (0 : Int32).toNatClampNeg n.toNatClampNeg j = f j := by
  intro j hj
  have h0 : (0 : Int32).toNatClampNeg = 0 := by decide
  unfold va_cpy
  rw [h0, h, if_pos ⟨Nat.zero_le _, by omega⟩]
  congr 1
  omega
/-- scalars and rows of arrays: a place set -/
def xs (f : Nat → Int32) (k : Nat) (v : Int32) : Nat → Int32 := fun j => if j = k then v else f j
def xa (g : Nat → Nat → Int32) (k : Nat) (f : Nat → Int32) : Nat → Nat → Int32 := fun j => if j = k then f else g j
theorem xs_eq (f : Nat → Int32) (k : Nat) (v : Int32) : xs f k v k = v := if_pos rfl
theorem xs_ne {f : Nat → Int32} {k j : Nat} {v : Int32} (h : j ≠ k) : xs f k v j = f j := if_neg h
theorem xa_eq (g : Nat → Nat → Int32) (k : Nat) (f : Nat → Int32) : xa g k f k = f := if_pos rfl
theorem xa_ne {g : Nat → Nat → Int32} {k j : Nat} {f : Nat → Int32} (h : j ≠ k) : xa g k f j = g j := if_neg h
/-- the travellers: number, passed, bargesWaiting, cartsWaiting, firstBarge, firstCart; barge, needs, state, came, passedIn, waitEnd -/
abbrev XT : Type := (Nat → Int32) × (Nat → Nat → Int32)
/-- the bridge: minute, angle, counterpoise, ice, code, waitedInAll, passing, toGo, latestWasBarge; cold; the travellers -/
abbrev XBr : Type := (Nat → Int32) × (Nat → Int32) × XT
/-- the model's outer part: thrown, travellers; isBarge, needs, came, cold -/
abbrev MO : Type := (Nat → Int32) × (Nat → Nat → Int32)
/-- the model's state: minute, angle, poise, ice, code, passer, latest; is, waited, left, when -/
abbrev MS : Type := (Nat → Int32) × (Nat → Nat → Int32)
abbrev cA (I : ClassId) (a n : Nat) (f : Nat → Int32) : Nat × va_E := (a, .inl (I, n, .inl f))
abbrev cXT (q : Nat → Nat) (t : Nat → Int32) : Nat × va_E := (q 2, .inr (1, [.int (t 0), .int (t 1), .int (t 2), .int (t 3), .ref (q 3), .ref (q 4), .ref (q 5), .ref (q 6), .ref (q 7), .ref (q 8), .int (t 4), .int (t 5)]))
abbrev cXB (q : Nat → Nat) (b : Nat → Int32) : Nat × va_E := (q 0, .inr (0, [.int (b 0), .int (b 1), .int (b 2), .int (b 3), .int (b 4), .int (b 5), .ref (q 1), .ref (q 2), .int (b 6), .int (b 7), .int (b 8)]))
abbrev cMO (qo : Nat → Nat) (ps pa : Nat) (o : Nat → Int32) : Nat × va_E := (qo 0, .inr (4, [.int (o 0), .int (o 1), .ref (qo 1), .ref (qo 2), .ref (qo 3), .ref (qo 4), .ref ps, .ref pa]))
abbrev cMS (qo qs : Nat → Nat) (b : Nat → Int32) : Nat × va_E := (qs 0, .inr (3, [.int (b 0), .int (b 1), .int (b 2), .int (b 3), .int (b 4), .int (b 5), .int (b 6), .ref (qs 1), .ref (qs 2), .ref (qs 3), .ref (qs 4), .ref (qo 0)]))
abbrev cX (h : Nat) (qb qt : Nat → Nat) : Nat × va_E := (h, .inr (2, [.ref (qb 0), .ref (qt 0)]))
abbrev wT (I : ClassId) (q : Nat → Nat) (t : XT) : va_W := [cXT q t.1, cA I (q 3) 40 (t.2 0), cA I (q 4) 40 (t.2 1), cA I (q 5) 40 (t.2 2), cA I (q 6) 40 (t.2 3), cA I (q 7) 40 (t.2 4), cA I (q 8) 40 (t.2 5)]
abbrev wB (I : ClassId) (q : Nat → Nat) (b : XBr) : va_W := [cXB q b.1, cA I (q 1) 8 b.2.1, cXT q b.2.2.1, cA I (q 3) 40 (b.2.2.2 0), cA I (q 4) 40 (b.2.2.2 1), cA I (q 5) 40 (b.2.2.2 2), cA I (q 6) 40 (b.2.2.2 3), cA I (q 7) 40 (b.2.2.2 4), cA I (q 8) 40 (b.2.2.2 5)]
abbrev wO (I : ClassId) (qo : Nat → Nat) (ps pa : Nat) (o : MO) : va_W := [cMO qo ps pa o.1, cA I (qo 1) 40 (o.2 0), cA I (qo 2) 40 (o.2 1), cA I (qo 3) 40 (o.2 2), cA I (qo 4) 8 (o.2 3)]
abbrev wS (I : ClassId) (qo qs : Nat → Nat) (b : MS) : va_W := [cMS qo qs b.1, cA I (qs 1) 40 (b.2 0), cA I (qs 2) 40 (b.2 1), cA I (qs 3) 40 (b.2 2), cA I (qs 4) 40 (b.2 3)]
end XK
end
section
/-! pure rows: small numbers -/
def nOk (x : Int32) : Prop := 0 ≤ x.toInt ∧ x.toInt ≤ 40
abbrev imx (x y : Int32) : Int32 := if x < y then y else x
abbrev imn (x y : Int32) : Int32 := if y < x then y else x
theorem clampInt (x : Int32) : x.toNatClampNeg = x.toInt.toNat := rfl
theorem vinN {x : Int32} {n : Nat} (h0 : 0 ≤ x.toInt) (h1 : x.toInt < (n : Int)) : vp_in x n := by
  intro h
  rcases h with h | h
  · have h2 := Int32.lt_iff_toInt_lt.mp h
    have h3 : (0 : Int32).toInt = 0 := by decide
    omega
  · rw [clampInt] at h
    omega
theorem vin40 {x : Int32} (h0 : 0 ≤ x.toInt) (h1 : x.toInt < 40) : vp_in x 40 := vinN h0 h1
theorem nOk_le {x : Int32} (h : nOk x) : x.toNatClampNeg ≤ 40 := by
  rw [clampInt]
  have := h.1
  have := h.2
  omega
theorem i_bm {a : Int} (h1 : -2147483648 ≤ a) (h2 : a < 2147483648) : a.bmod 4294967296 = a := by
  rw [Int.bmod_def]
  split <;> omega
theorem i_m1 {k : Int} (h : 0 ≤ k ∧ k < 100) : (k + (-1 : Int32).toInt).bmod (2 ^ 32) = k - 1 := by
  have h3 : (-1 : Int32).toInt = -1 := by decide
  rw [h3]
  exact i_bm (by omega) (by omega)
theorem toInt_addS {x y : Int32} (h1 : -2147483648 ≤ x.toInt + y.toInt) (h2 : x.toInt + y.toInt < 2147483648) : (x + y).toInt = x.toInt + y.toInt := by
  rw [Int32.toInt_add]
  exact i_bm h1 h2
theorem toInt_subS {x y : Int32} (h1 : -2147483648 ≤ x.toInt - y.toInt) (h2 : x.toInt - y.toInt < 2147483648) : (x - y).toInt = x.toInt - y.toInt := by
  rw [Int32.toInt_sub]
  exact i_bm h1 h2
theorem nOk_m1 {x : Int32} (h : nOk x) : (x - 1).toInt = (x.toNatClampNeg : Int) - 1 := by
  have h3 : (1 : Int32).toInt = 1 := by decide
  have h1 := h.1
  have h2 := h.2
  rw [toInt_subS (by omega) (by omega), clampInt, h3]
  omega
theorem nOk_p1 {x : Int32} (h : nOk x) (h2 : x.toInt < 40) : nOk (x + 1) := by
  have h3 : (1 : Int32).toInt = 1 := by decide
  have h1 := h.1
  unfold nOk
  rw [toInt_addS (by omega) (by omega), h3]
  omega
def mOk (x : Int32) : Prop := 0 ≤ x.toInt ∧ x.toInt < 2000000000
theorem d60 {x : Int32} (h : 0 ≤ x.toInt) : (x / (60 : Int32)).toInt = x.toInt / 60 := by
  have h3 : (60 : Int32).toInt = 60 := by decide
  rw [Int32.toInt_div_of_ne_right _ _ (by decide), h3, Int.tdiv_eq_ediv_of_nonneg h]
theorem d8 {x : Int32} (h : 0 ≤ x.toInt) : (x / (8 : Int32)).toInt = x.toInt / 8 := by
  have h3 : (8 : Int32).toInt = 8 := by decide
  rw [Int32.toInt_div_of_ne_right _ _ (by decide), h3, Int.tdiv_eq_ediv_of_nonneg h]
theorem r8 {y : Int32} (h : 0 ≤ y.toInt) (h2 : y.toInt < 2000000000) : (y - y / (8 : Int32) * (8 : Int32)).toInt = y.toInt - y.toInt / 8 * 8 := by
  have h3 : (8 : Int32).toInt = 8 := by decide
  have h4 : (y / (8 : Int32) * (8 : Int32)).toInt = y.toInt / 8 * 8 := by
    rw [Int32.toInt_mul, d8 h, h3]
    exact i_bm (by omega) (by omega)
  rw [toInt_subS (by rw [h4]; omega) (by rw [h4]; omega), h4]
theorem hr_in {x : Int32} (h : mOk x) : vp_in ((x / (60 : Int32)) - (x / (60 : Int32)) / (8 : Int32) * (8 : Int32)) 8 := by
  have h0 := h.1
  have h1 := h.2
  have h2 := d60 h0
  have h3 := r8 (y := x / (60 : Int32)) (by rw [h2]; omega) (by rw [h2]; omega)
  exact vinN (by rw [h3]; omega) (by rw [h3]; omega)
theorem xor8 {y : Int32} (h : 0 ≤ y.toInt) : 0 ≤ y ^^^ (8 : Int32) := by
  have h' : 0 ≤ y.toBitVec.toInt := h
  have h1 : y.toBitVec.msb = false := by
    rw [BitVec.msb_eq_toInt]
    exact decide_eq_false (by omega)
  have h2 : (y ^^^ (8 : Int32)).toBitVec.msb = false := by
    rw [Int32.toBitVec_xor, BitVec.msb_xor, h1]
    decide
  rw [BitVec.msb_eq_toInt] at h2
  have h3 := of_decide_eq_false h2
  rw [Int32.le_iff_toInt_le]
  have h4 : (0 : Int32).toInt = 0 := by decide
  rw [h4]
  show 0 ≤ (y ^^^ (8 : Int32)).toBitVec.toInt
  omega
end
section
def r_X1_has (t : XT) (k : Int32) : Int32 :=
  if k < 0 then
    (0 : Int32)
  else
    if (t.1 0) ≤ k then
      (0 : Int32)
    else
      (1 : Int32)
set_option maxHeartbeats 800000 in
set_option maxRecDepth 100000 in
theorem c_X1_has (l : Launch) (D : va_G) (I : ClassId) (q : Nat → Nat) (sz : Nat) (t : XT) (k : Int32)  : xMi l D [(I, .int)] yX1_has wsX1_has { frames := 0, cells := 0, slots := 0, locals := 0 } [.ref (q 2), .int k] sz (wT I q t) (r_X1_has t k) (wT I q t) 0 0 := by
  refine xk_start (cc := cX1_has) (maxL := 2) (ret := (some .boolean)) (Qf := fun A => xQi D [(I, .int)] A (r_X1_has t k) (wT I q t)) (by decide) rfl (Nat.le_of_ble_eq_true rfl) ?_
  intro p e s m below meth c A H ls hst hAe hsz hl
  obtain ⟨hx, hb, hr, hts, hown, hlocks, hml, hin, hN, hK, hP, hD, hA, hS⟩ := hst
  have hl : lv_has ls 2 [(0, .ref (q 2)), (1, .int k)] := hl
  have hP : va_P D vwCl (wT I q t) H := hP
  have hinX1 : ∀ w ∈ u_ws RX1 TX1 12, w ∈ wsX1_has := by decide +kernel
  have w_1 := hts (.fieldLink RX1 9 "BridgeBells$Travellers" "number" "I") (by decide +kernel)
  refine lv_iload_n hx hb dX1_has_0 rfl (lv_at hl 1 rfl) ?_
  refine lv_if_lt (tgt := 16) hx hb dX1_has_1 (by decide) (fun c_1 => ?_) (fun c_1 => ?_)
  · refine lv_iconst (v := (0 : Int32)) hx hb dX1_has_16 (by decide) ?_
    exact xk_iret (wf := fun z : XT => wT I q z) (u := t) (u1 := t) hx hb hr rfl hlocks hP hK hD hS (by unfold r_X1_has; rw [if_pos c_1]) rfl dX1_has_17
  · refine lv_iload_n hx hb dX1_has_4 rfl (lv_at hl 1 rfl) ?_
    refine lv_aload_n hx hb dX1_has_5 rfl (lv_at hl 0 rfl) ?_
    refine va_get (D := D) (ci := 1) (v := .int (t.1 0)) (C := RX1) (T := TX1) (N := 12) hx hb hts hinX1 hown hK hP 0 rfl rfl 0 (by decide) w_1 (fun _ h9 => h9) rfl dX1_has_6 ?_
    refine lv_icmp_ge (tgt := 16) hx hb dX1_has_9 (by decide) (fun c_2 => ?_) (fun c_2 => ?_)
    · refine lv_iconst (v := (0 : Int32)) hx hb dX1_has_16 (by decide) ?_
      exact xk_iret (wf := fun z : XT => wT I q z) (u := t) (u1 := t) hx hb hr rfl hlocks hP hK hD hS (by unfold r_X1_has; rw [if_neg c_1, if_pos c_2]) rfl dX1_has_17
    · refine lv_iconst (v := (1 : Int32)) hx hb dX1_has_12 (by decide) ?_
      refine lv_goto (tgt := 17) hx hb dX1_has_13 (by decide) ?_
      exact xk_iret (wf := fun z : XT => wT I q z) (u := t) (u1 := t) hx hb hr rfl hlocks hP hK hD hS (by unfold r_X1_has; rw [if_neg c_1, if_neg c_2]) rfl dX1_has_17

def r_X1_firstOfAll (t : XT) : Int32 :=
  if (t.1 4) = (-1 : Int32) then
    (t.1 5)
  else
    if (t.1 5) = (-1 : Int32) then
      (t.1 4)
    else
      (imn (t.1 4) (t.1 5))
set_option maxHeartbeats 800000 in
set_option maxRecDepth 100000 in
theorem c_X1_firstOfAll (l : Launch) (D : va_G) (I : ClassId) (q : Nat → Nat) (sz : Nat) (t : XT)  : xMi l D [(I, .int)] yX1_firstOfAll wsX1_firstOfAll { frames := 1, cells := 0, slots := 0, locals := 13 } [.ref (q 2)] sz (wT I q t) (r_X1_firstOfAll t) (wT I q t) 0 0 := by
  refine xk_start (cc := cX1_firstOfAll) (maxL := 1) (ret := (some .int)) (Qf := fun A => xQi D [(I, .int)] A (r_X1_firstOfAll t) (wT I q t)) (by decide) rfl (Nat.le_of_ble_eq_true rfl) ?_
  intro p e s m below meth c A H ls hst hAe hsz hl
  obtain ⟨hx, hb, hr, hts, hown, hlocks, hml, hin, hN, hK, hP, hD, hA, hS⟩ := hst
  have hl : lv_has ls 1 [(0, .ref (q 2))] := hl
  have hP : va_P D vwCl (wT I q t) H := hP
  have hinX1 : ∀ w ∈ u_ws RX1 TX1 12, w ∈ wsX1_firstOfAll := by decide +kernel
  have w_1 := hts (.fieldLink RX1 43 "BridgeBells$Travellers" "firstBarge" "I") (by decide +kernel)
  have w_2 := hts (.fieldLink RX1 46 "BridgeBells$Travellers" "firstCart" "I") (by decide +kernel)
  have w_3 := hts (.methodLink RX1 58 Lib.Math.min.name) (by decide +kernel)
  have w_4 := hts (.static Lib.Math.min.name) (by decide +kernel)
  have w_5 := hts (.initialized "java/lang/Math") (by decide +kernel)
  have w_6 := hts (.code Lib.Math.min.name Lib.Math.min.code 2 (some .int)) (by decide +kernel)
  refine lv_aload_n hx hb dX1_firstOfAll_0 rfl (lv_at hl 0 rfl) ?_
  refine va_get (D := D) (ci := 1) (v := .int (t.1 4)) (C := RX1) (T := TX1) (N := 12) hx hb hts hinX1 hown hK hP 0 rfl rfl 10 (by decide) w_1 (fun _ h9 => h9) rfl dX1_firstOfAll_1 ?_
  refine lv_iconst (v := (-1 : Int32)) hx hb dX1_firstOfAll_4 (by decide) ?_
  refine lv_icmp_ne (tgt := 13) hx hb dX1_firstOfAll_5 (by decide) (fun c_1 => ?_) (fun c_1 => ?_)
  · refine lv_aload_n hx hb dX1_firstOfAll_13 rfl (lv_at hl 0 rfl) ?_
    refine va_get (D := D) (ci := 1) (v := .int (t.1 5)) (C := RX1) (T := TX1) (N := 12) hx hb hts hinX1 hown hK hP 0 rfl rfl 11 (by decide) w_2 (fun _ h9 => h9) rfl dX1_firstOfAll_14 ?_
    refine lv_iconst (v := (-1 : Int32)) hx hb dX1_firstOfAll_17 (by decide) ?_
    refine lv_icmp_ne (tgt := 28) hx hb dX1_firstOfAll_18 (by decide) (fun c_2 => ?_) (fun c_2 => ?_)
    · refine lv_aload_n hx hb dX1_firstOfAll_28 rfl (lv_at hl 0 rfl) ?_
      refine va_get (D := D) (ci := 1) (v := .int (t.1 4)) (C := RX1) (T := TX1) (N := 12) hx hb hts hinX1 hown hK hP 0 rfl rfl 10 (by decide) w_1 (fun _ h9 => h9) rfl dX1_firstOfAll_29 ?_
      refine lv_aload_n hx hb dX1_firstOfAll_32 rfl (lv_at hl 0 rfl) ?_
      refine va_get (D := D) (ci := 1) (v := .int (t.1 5)) (C := RX1) (T := TX1) (N := 12) hx hb hts hinX1 hown hK hP 0 rfl rfl 11 (by decide) w_2 (fun _ h9 => h9) rfl dX1_firstOfAll_33 ?_
      refine va_mmin hx hb (hml.trans hl.1.symm) hown w_3 w_4 w_5 w_6 (Nat.le_of_ble_eq_true rfl) (Nat.le_of_ble_eq_true rfl) (Nat.le_of_ble_eq_true rfl) (Nat.le_of_ble_eq_true rfl) dX1_firstOfAll_36 ?_
      refine W.eq (g2 := F0 m 39 ls [.int (imn (t.1 4) (t.1 5))]) rfl ?_
      exact xk_iret (wf := fun z : XT => wT I q z) (u := t) (u1 := t) hx hb hr rfl hlocks hP hK hD hS (by unfold r_X1_firstOfAll; rw [if_neg c_1, if_neg c_2]) rfl dX1_firstOfAll_39
    · refine lv_aload_n hx hb dX1_firstOfAll_21 rfl (lv_at hl 0 rfl) ?_
      refine va_get (D := D) (ci := 1) (v := .int (t.1 4)) (C := RX1) (T := TX1) (N := 12) hx hb hts hinX1 hown hK hP 0 rfl rfl 10 (by decide) w_1 (fun _ h9 => h9) rfl dX1_firstOfAll_22 ?_
      refine lv_goto (tgt := 39) hx hb dX1_firstOfAll_25 (by decide) ?_
      exact xk_iret (wf := fun z : XT => wT I q z) (u := t) (u1 := t) hx hb hr rfl hlocks hP hK hD hS (by unfold r_X1_firstOfAll; rw [if_neg c_1, if_pos c_2]) rfl dX1_firstOfAll_39
  · refine lv_aload_n hx hb dX1_firstOfAll_8 rfl (lv_at hl 0 rfl) ?_
    refine va_get (D := D) (ci := 1) (v := .int (t.1 5)) (C := RX1) (T := TX1) (N := 12) hx hb hts hinX1 hown hK hP 0 rfl rfl 11 (by decide) w_2 (fun _ h9 => h9) rfl dX1_firstOfAll_9 ?_
    exact xk_iret (wf := fun z : XT => wT I q z) (u := t) (u1 := t) hx hb hr rfl hlocks hP hK hD hS (by unfold r_X1_firstOfAll; rw [if_pos c_1]) rfl dX1_firstOfAll_12

def r_X1_firstBargeElseCart (t : XT) : Int32 :=
  if (t.1 4) = (-1 : Int32) then
    (t.1 5)
  else
    (t.1 4)
set_option maxHeartbeats 800000 in
set_option maxRecDepth 100000 in
theorem c_X1_firstBargeElseCart (l : Launch) (D : va_G) (I : ClassId) (q : Nat → Nat) (sz : Nat) (t : XT)  : xMi l D [(I, .int)] yX1_firstBargeElseCart wsX1_firstBargeElseCart { frames := 0, cells := 0, slots := 0, locals := 0 } [.ref (q 2)] sz (wT I q t) (r_X1_firstBargeElseCart t) (wT I q t) 0 0 := by
  refine xk_start (cc := cX1_firstBargeElseCart) (maxL := 1) (ret := (some .int)) (Qf := fun A => xQi D [(I, .int)] A (r_X1_firstBargeElseCart t) (wT I q t)) (by decide) rfl (Nat.le_of_ble_eq_true rfl) ?_
  intro p e s m below meth c A H ls hst hAe hsz hl
  obtain ⟨hx, hb, hr, hts, hown, hlocks, hml, hin, hN, hK, hP, hD, hA, hS⟩ := hst
  have hl : lv_has ls 1 [(0, .ref (q 2))] := hl
  have hP : va_P D vwCl (wT I q t) H := hP
  have hinX1 : ∀ w ∈ u_ws RX1 TX1 12, w ∈ wsX1_firstBargeElseCart := by decide +kernel
  have w_1 := hts (.fieldLink RX1 43 "BridgeBells$Travellers" "firstBarge" "I") (by decide +kernel)
  have w_2 := hts (.fieldLink RX1 46 "BridgeBells$Travellers" "firstCart" "I") (by decide +kernel)
  refine lv_aload_n hx hb dX1_firstBargeElseCart_0 rfl (lv_at hl 0 rfl) ?_
  refine va_get (D := D) (ci := 1) (v := .int (t.1 4)) (C := RX1) (T := TX1) (N := 12) hx hb hts hinX1 hown hK hP 0 rfl rfl 10 (by decide) w_1 (fun _ h9 => h9) rfl dX1_firstBargeElseCart_1 ?_
  refine lv_iconst (v := (-1 : Int32)) hx hb dX1_firstBargeElseCart_4 (by decide) ?_
  refine lv_icmp_eq (tgt := 15) hx hb dX1_firstBargeElseCart_5 (by decide) (fun c_1 => ?_) (fun c_1 => ?_)
  · refine lv_aload_n hx hb dX1_firstBargeElseCart_15 rfl (lv_at hl 0 rfl) ?_
    refine va_get (D := D) (ci := 1) (v := .int (t.1 5)) (C := RX1) (T := TX1) (N := 12) hx hb hts hinX1 hown hK hP 0 rfl rfl 11 (by decide) w_2 (fun _ h9 => h9) rfl dX1_firstBargeElseCart_16 ?_
    exact xk_iret (wf := fun z : XT => wT I q z) (u := t) (u1 := t) hx hb hr rfl hlocks hP hK hD hS (by unfold r_X1_firstBargeElseCart; rw [if_pos c_1]) rfl dX1_firstBargeElseCart_19
  · refine lv_aload_n hx hb dX1_firstBargeElseCart_8 rfl (lv_at hl 0 rfl) ?_
    refine va_get (D := D) (ci := 1) (v := .int (t.1 4)) (C := RX1) (T := TX1) (N := 12) hx hb hts hinX1 hown hK hP 0 rfl rfl 10 (by decide) w_1 (fun _ h9 => h9) rfl dX1_firstBargeElseCart_9 ?_
    refine lv_goto (tgt := 19) hx hb dX1_firstBargeElseCart_12 (by decide) ?_
    exact xk_iret (wf := fun z : XT => wT I q z) (u := t) (u1 := t) hx hb hr rfl hlocks hP hK hD hS (by unfold r_X1_firstBargeElseCart; rw [if_neg c_1]) rfl dX1_firstBargeElseCart_19

def r_X1_firstCartElseBarge (t : XT) : Int32 :=
  if (t.1 5) = (-1 : Int32) then
    (t.1 4)
  else
    (t.1 5)
set_option maxHeartbeats 800000 in
set_option maxRecDepth 100000 in
theorem c_X1_firstCartElseBarge (l : Launch) (D : va_G) (I : ClassId) (q : Nat → Nat) (sz : Nat) (t : XT)  : xMi l D [(I, .int)] yX1_firstCartElseBarge wsX1_firstCartElseBarge { frames := 0, cells := 0, slots := 0, locals := 0 } [.ref (q 2)] sz (wT I q t) (r_X1_firstCartElseBarge t) (wT I q t) 0 0 := by
  refine xk_start (cc := cX1_firstCartElseBarge) (maxL := 1) (ret := (some .int)) (Qf := fun A => xQi D [(I, .int)] A (r_X1_firstCartElseBarge t) (wT I q t)) (by decide) rfl (Nat.le_of_ble_eq_true rfl) ?_
  intro p e s m below meth c A H ls hst hAe hsz hl
  obtain ⟨hx, hb, hr, hts, hown, hlocks, hml, hin, hN, hK, hP, hD, hA, hS⟩ := hst
  have hl : lv_has ls 1 [(0, .ref (q 2))] := hl
  have hP : va_P D vwCl (wT I q t) H := hP
  have hinX1 : ∀ w ∈ u_ws RX1 TX1 12, w ∈ wsX1_firstCartElseBarge := by decide +kernel
  have w_1 := hts (.fieldLink RX1 46 "BridgeBells$Travellers" "firstCart" "I") (by decide +kernel)
  have w_2 := hts (.fieldLink RX1 43 "BridgeBells$Travellers" "firstBarge" "I") (by decide +kernel)
  refine lv_aload_n hx hb dX1_firstCartElseBarge_0 rfl (lv_at hl 0 rfl) ?_
  refine va_get (D := D) (ci := 1) (v := .int (t.1 5)) (C := RX1) (T := TX1) (N := 12) hx hb hts hinX1 hown hK hP 0 rfl rfl 11 (by decide) w_1 (fun _ h9 => h9) rfl dX1_firstCartElseBarge_1 ?_
  refine lv_iconst (v := (-1 : Int32)) hx hb dX1_firstCartElseBarge_4 (by decide) ?_
  refine lv_icmp_eq (tgt := 15) hx hb dX1_firstCartElseBarge_5 (by decide) (fun c_1 => ?_) (fun c_1 => ?_)
  · refine lv_aload_n hx hb dX1_firstCartElseBarge_15 rfl (lv_at hl 0 rfl) ?_
    refine va_get (D := D) (ci := 1) (v := .int (t.1 4)) (C := RX1) (T := TX1) (N := 12) hx hb hts hinX1 hown hK hP 0 rfl rfl 10 (by decide) w_2 (fun _ h9 => h9) rfl dX1_firstCartElseBarge_16 ?_
    exact xk_iret (wf := fun z : XT => wT I q z) (u := t) (u1 := t) hx hb hr rfl hlocks hP hK hD hS (by unfold r_X1_firstCartElseBarge; rw [if_pos c_1]) rfl dX1_firstCartElseBarge_19
  · refine lv_aload_n hx hb dX1_firstCartElseBarge_8 rfl (lv_at hl 0 rfl) ?_
    refine va_get (D := D) (ci := 1) (v := .int (t.1 5)) (C := RX1) (T := TX1) (N := 12) hx hb hts hinX1 hown hK hP 0 rfl rfl 11 (by decide) w_1 (fun _ h9 => h9) rfl dX1_firstCartElseBarge_9 ?_
    refine lv_goto (tgt := 19) hx hb dX1_firstCartElseBarge_12 (by decide) ?_
    exact xk_iret (wf := fun z : XT => wT I q z) (u := t) (u1 := t) hx hb hr rfl hlocks hP hK hD hS (by unfold r_X1_firstCartElseBarge; rw [if_neg c_1]) rfl dX1_firstCartElseBarge_19

def r_X1_waited (t : XT) (k : Int32) (mi : Int32) : Int32 :=
  if ((t.2 2) k.toNatClampNeg) = 0 then
    (mi - ((t.2 3) k.toNatClampNeg))
  else
    (((t.2 5) k.toNatClampNeg) - ((t.2 3) k.toNatClampNeg))
set_option maxHeartbeats 800000 in
set_option maxRecDepth 100000 in
theorem c_X1_waited (l : Launch) (D : va_G) (I : ClassId) (q : Nat → Nat) (sz : Nat) (t : XT) (k : Int32) (mi : Int32) (hk : vp_in k 40) : xMi l D [(I, .int)] yX1_waited wsX1_waited { frames := 0, cells := 0, slots := 0, locals := 0 } [.ref (q 2), .int k, .int mi] sz (wT I q t) (r_X1_waited t k mi) (wT I q t) 0 0 := by
  refine xk_start (cc := cX1_waited) (maxL := 4) (ret := (some .int)) (Qf := fun A => xQi D [(I, .int)] A (r_X1_waited t k mi) (wT I q t)) (by decide) rfl (Nat.le_of_ble_eq_true rfl) ?_
  intro p e s m below meth c A H ls hst hAe hsz hl
  obtain ⟨hx, hb, hr, hts, hown, hlocks, hml, hin, hN, hK, hP, hD, hA, hS⟩ := hst
  have hl : lv_has ls 4 [(0, .ref (q 2)), (1, .int k), (2, .int mi)] := hl
  have hP : va_P D vwCl (wT I q t) H := hP
  have hinX1 : ∀ w ∈ u_ws RX1 TX1 12, w ∈ wsX1_waited := by decide +kernel
  have w_1 := hts (.fieldLink RX1 31 "BridgeBells$Travellers" "state" "[I") (by decide +kernel)
  have w_2 := hts (.fieldLink RX1 40 "BridgeBells$Travellers" "waitEnd" "[I") (by decide +kernel)
  have w_3 := hts (.fieldLink RX1 34 "BridgeBells$Travellers" "came" "[I") (by decide +kernel)
  refine lv_aload_n hx hb dX1_waited_0 rfl (lv_at hl 0 rfl) ?_
  refine va_get (D := D) (ci := 1) (v := .ref (q 5)) (C := RX1) (T := TX1) (N := 12) hx hb hts hinX1 hown hK hP 0 rfl rfl 6 (by decide) w_1 (fun _ h9 => h9) rfl dX1_waited_1 ?_
  refine lv_iload_n hx hb dX1_waited_4 rfl (lv_at hl 1 rfl) ?_
  refine va_iald (f := (t.2 2)) hx hb hK hP 3 0 rfl rfl (show vp_in k 40 from hk) dX1_waited_5 ?_
  refine lv_if_ne (tgt := 13) hx hb dX1_waited_6 (by decide) (fun c_1 => ?_) (fun c_1 => ?_)
  · refine lv_aload_n hx hb dX1_waited_13 rfl (lv_at hl 0 rfl) ?_
    refine va_get (D := D) (ci := 1) (v := .ref (q 8)) (C := RX1) (T := TX1) (N := 12) hx hb hts hinX1 hown hK hP 0 rfl rfl 9 (by decide) w_2 (fun _ h9 => h9) rfl dX1_waited_14 ?_
    refine lv_iload_n hx hb dX1_waited_17 rfl (lv_at hl 1 rfl) ?_
    refine va_iald (f := (t.2 5)) hx hb hK hP 6 0 rfl rfl (show vp_in k 40 from hk) dX1_waited_18 ?_
    refine lv_istore_n (lv' := [(3, .int ((t.2 5) k.toNatClampNeg)), (0, .ref (q 2)), (1, .int k), (2, .int mi)]) hx hb dX1_waited_19 rfl hl (by decide) rfl (fun ls hl => ?_)
    refine lv_iload_n hx hb dX1_waited_20 rfl (lv_at hl 0 rfl) ?_
    refine lv_aload_n hx hb dX1_waited_21 rfl (lv_at hl 1 rfl) ?_
    refine va_get (D := D) (ci := 1) (v := .ref (q 6)) (C := RX1) (T := TX1) (N := 12) hx hb hts hinX1 hown hK hP 0 rfl rfl 7 (by decide) w_3 (fun _ h9 => h9) rfl dX1_waited_22 ?_
    refine lv_iload_n hx hb dX1_waited_25 rfl (lv_at hl 2 rfl) ?_
    refine va_iald (f := (t.2 3)) hx hb hK hP 4 0 rfl rfl (show vp_in k 40 from hk) dX1_waited_26 ?_
    refine lv_isub hx hb dX1_waited_27 ?_
    exact xk_iret (wf := fun z : XT => wT I q z) (u := t) (u1 := t) hx hb hr rfl hlocks hP hK hD hS (by unfold r_X1_waited; rw [if_neg c_1]) rfl dX1_waited_28
  · refine lv_iload_n hx hb dX1_waited_9 rfl (lv_at hl 2 rfl) ?_
    refine lv_goto (tgt := 19) hx hb dX1_waited_10 (by decide) ?_
    refine lv_istore_n (lv' := [(3, .int mi), (0, .ref (q 2)), (1, .int k), (2, .int mi)]) hx hb dX1_waited_19 rfl hl (by decide) rfl (fun ls hl => ?_)
    refine lv_iload_n hx hb dX1_waited_20 rfl (lv_at hl 0 rfl) ?_
    refine lv_aload_n hx hb dX1_waited_21 rfl (lv_at hl 1 rfl) ?_
    refine va_get (D := D) (ci := 1) (v := .ref (q 6)) (C := RX1) (T := TX1) (N := 12) hx hb hts hinX1 hown hK hP 0 rfl rfl 7 (by decide) w_3 (fun _ h9 => h9) rfl dX1_waited_22 ?_
    refine lv_iload_n hx hb dX1_waited_25 rfl (lv_at hl 2 rfl) ?_
    refine va_iald (f := (t.2 3)) hx hb hK hP 4 0 rfl rfl (show vp_in k 40 from hk) dX1_waited_26 ?_
    refine lv_isub hx hb dX1_waited_27 ?_
    exact xk_iret (wf := fun z : XT => wT I q z) (u := t) (u1 := t) hx hb hr rfl hlocks hP hK hD hS (by unfold r_X1_waited; rw [if_pos c_1]) rfl dX1_waited_28

def s_X1_endPassage (t : XT) (k : Int32) (mi : Int32) : XT :=
  (xs t.1 1 ((t.1 1) + (1 : Int32)), xa (xa t.2 2 (upd (t.2 2) k.toNatClampNeg (2 : Int32))) 4 (upd (t.2 4) k.toNatClampNeg mi))
set_option maxHeartbeats 800000 in
set_option maxRecDepth 100000 in
theorem c_X1_endPassage (l : Launch) (D : va_G) (I : ClassId) (q : Nat → Nat) (sz : Nat) (t : XT) (k : Int32) (mi : Int32) (hk : vp_in k 40) : xMv l D [(I, .int)] yX1_endPassage wsX1_endPassage { frames := 0, cells := 0, slots := 0, locals := 0 } [.ref (q 2), .int k, .int mi] sz (wT I q t) (wT I q (s_X1_endPassage t k mi)) 0 0 := by
  refine xk_start (cc := cX1_endPassage) (maxL := 3) (ret := none) (Qf := fun A => xQv D [(I, .int)] A (wT I q (s_X1_endPassage t k mi))) (by decide) rfl (Nat.le_of_ble_eq_true rfl) ?_
  intro p e s m below meth c A H ls hst hAe hsz hl
  obtain ⟨hx, hb, hr, hts, hown, hlocks, hml, hin, hN, hK, hP, hD, hA, hS⟩ := hst
  have hl : lv_has ls 3 [(0, .ref (q 2)), (1, .int k), (2, .int mi)] := hl
  have hP : va_P D vwCl (wT I q t) H := hP
  have hinX1 : ∀ w ∈ u_ws RX1 TX1 12, w ∈ wsX1_endPassage := by decide +kernel
  have w_1 := hts (.fieldLink RX1 31 "BridgeBells$Travellers" "state" "[I") (by decide +kernel)
  have w_2 := hts (.fieldLink RX1 37 "BridgeBells$Travellers" "passedIn" "[I") (by decide +kernel)
  have w_3 := hts (.fieldLink RX1 15 "BridgeBells$Travellers" "passed" "I") (by decide +kernel)
  refine lv_aload_n hx hb dX1_endPassage_0 rfl (lv_at hl 0 rfl) ?_
  refine va_get (D := D) (ci := 1) (v := .ref (q 5)) (C := RX1) (T := TX1) (N := 12) hx hb hts hinX1 hown hK hP 0 rfl rfl 6 (by decide) w_1 (fun _ h9 => h9) rfl dX1_endPassage_1 ?_
  refine lv_iload_n hx hb dX1_endPassage_4 rfl (lv_at hl 1 rfl) ?_
  refine lv_iconst (v := (2 : Int32)) hx hb dX1_endPassage_5 (by decide) ?_
  refine va_iast (f := (t.2 2)) hx hb hK hP hD hS 3 0 rfl rfl (show vp_in k 40 from hk) dX1_endPassage_6 (fun H locs hP hD hS => ?_)
  have hP : va_P D vwCl (wT I q (t.1, xa t.2 2 (upd (t.2 2) k.toNatClampNeg (2 : Int32)))) H := hP
  have hD : va_D A (wT I q (t.1, xa t.2 2 (upd (t.2 2) k.toNatClampNeg (2 : Int32)))) := hD
  refine lv_aload_n hx hb dX1_endPassage_7 rfl (lv_at hl 0 rfl) ?_
  refine va_get (D := D) (ci := 1) (v := .ref (q 7)) (C := RX1) (T := TX1) (N := 12) hx hb hts hinX1 hown hK hP 0 rfl rfl 8 (by decide) w_2 (fun _ h9 => h9) rfl dX1_endPassage_8 ?_
  refine lv_iload_n hx hb dX1_endPassage_11 rfl (lv_at hl 1 rfl) ?_
  refine lv_iload_n hx hb dX1_endPassage_12 rfl (lv_at hl 2 rfl) ?_
  refine va_iast (f := (t.2 4)) hx hb hK hP hD hS 5 0 rfl rfl (show vp_in k 40 from hk) dX1_endPassage_13 (fun H locs hP hD hS => ?_)
  have hP : va_P D vwCl (wT I q (t.1, xa (xa t.2 2 (upd (t.2 2) k.toNatClampNeg (2 : Int32))) 4 (upd (t.2 4) k.toNatClampNeg mi))) H := hP
  have hD : va_D A (wT I q (t.1, xa (xa t.2 2 (upd (t.2 2) k.toNatClampNeg (2 : Int32))) 4 (upd (t.2 4) k.toNatClampNeg mi))) := hD
  refine lv_aload_n hx hb dX1_endPassage_14 rfl (lv_at hl 0 rfl) ?_
  refine lv_dup hx hb dX1_endPassage_15 rfl ?_
  refine va_get (D := D) (ci := 1) (v := .int (t.1 1)) (C := RX1) (T := TX1) (N := 12) hx hb hts hinX1 hown hK hP 0 rfl rfl 1 (by decide) w_3 (fun _ h9 => h9) rfl dX1_endPassage_16 ?_
  refine lv_iconst (v := (1 : Int32)) hx hb dX1_endPassage_19 (by decide) ?_
  refine lv_iadd hx hb dX1_endPassage_20 ?_
  refine va_put (D := D) (ci := 1) (v := .int ((t.1 1) + (1 : Int32))) (ty := tyX1 1) (C := RX1) (T := TX1) (N := 12) hx hb hts hinX1 tyX1 tyX1_ok nmX1 hown hK hP hD hS 0 rfl rfl 1 (by decide) w_3 (fun _ h9 => h9) rfl (tyX1_ok 1 (by decide)) rfl rfl (Nat.le_of_ble_eq_true rfl) dX1_endPassage_21 (fun H locs hP hD hS => ?_)
  have hP : va_P D vwCl (wT I q (xs t.1 1 ((t.1 1) + (1 : Int32)), xa (xa t.2 2 (upd (t.2 2) k.toNatClampNeg (2 : Int32))) 4 (upd (t.2 4) k.toNatClampNeg mi))) H := hP
  have hD : va_D A (wT I q (xs t.1 1 ((t.1 1) + (1 : Int32)), xa (xa t.2 2 (upd (t.2 2) k.toNatClampNeg (2 : Int32))) 4 (upd (t.2 4) k.toNatClampNeg mi))) := hD
  exact xk_vret (wf := fun z : XT => wT I q z) (u := (xs t.1 1 ((t.1 1) + (1 : Int32)), xa (xa t.2 2 (upd (t.2 2) k.toNatClampNeg (2 : Int32))) 4 (upd (t.2 4) k.toNatClampNeg mi))) (u1 := (s_X1_endPassage t k mi)) hx hb hr hlocks hP hK hD hS (by unfold s_X1_endPassage; rfl) dX1_endPassage_24

/-- one traveller seen -/
def sw_step (g : Nat → Nat → Int32) (k : Nat) (f : Nat → Int32) : Nat → Int32 :=
  if g 2 k = 0 then (if g 0 k = 1 then xs (xs f 2 (f 2 + 1)) 4 (nI k) else xs (xs f 3 (f 3 + 1)) 5 (nI k)) else f
/-- all below k seen, from the last to the first -/
def sw (g : Nat → Nat → Int32) : Nat → (Nat → Int32) → (Nat → Int32)
  | 0, f => f
  | k + 1, f => sw g k (sw_step g k f)
def s_X1_seeWhoWaits (t : XT) : XT := (sw t.2 (t.1 0).toNatClampNeg (xs (xs (xs (xs t.1 2 0) 3 0) 4 (-1)) 5 (-1)), t.2)

set_option maxHeartbeats 800000 in
set_option maxRecDepth 100000 in
theorem c_X1_seeWhoWaits (l : Launch) (D : va_G) (I : ClassId) (q : Nat → Nat) (sz : Nat) (t : XT) (hn : nOk (t.1 0)) : xMv l D [(I, .int)] yX1_seeWhoWaits wsX1_seeWhoWaits { frames := 0, cells := 0, slots := 0, locals := 0 } [.ref (q 2)] sz (wT I q t) (wT I q (s_X1_seeWhoWaits t)) 0 0 := by
  refine xk_start (cc := cX1_seeWhoWaits) (maxL := 2) (ret := none) (Qf := fun A => xQv D [(I, .int)] A (wT I q (s_X1_seeWhoWaits t))) (by decide) rfl (Nat.le_of_ble_eq_true rfl) ?_
  intro p e s m below meth c A H ls hst hAe hsz hl
  obtain ⟨hx, hb, hr, hts, hown, hlocks, hml, hin, hN, hK, hP, hD, hA, hS⟩ := hst
  have hl : lv_has ls 2 [(0, .ref (q 2))] := hl
  have hP : va_P D vwCl (wT I q t) H := hP
  have hinX1 : ∀ w ∈ u_ws RX1 TX1 12, w ∈ wsX1_seeWhoWaits := by decide +kernel
  have w_1 := hts (.fieldLink RX1 18 "BridgeBells$Travellers" "bargesWaiting" "I") (by decide +kernel)
  have w_2 := hts (.fieldLink RX1 21 "BridgeBells$Travellers" "cartsWaiting" "I") (by decide +kernel)
  have w_3 := hts (.fieldLink RX1 43 "BridgeBells$Travellers" "firstBarge" "I") (by decide +kernel)
  have w_4 := hts (.fieldLink RX1 46 "BridgeBells$Travellers" "firstCart" "I") (by decide +kernel)
  have w_5 := hts (.fieldLink RX1 9 "BridgeBells$Travellers" "number" "I") (by decide +kernel)
  have w_6 := hts (.fieldLink RX1 31 "BridgeBells$Travellers" "state" "[I") (by decide +kernel)
  have w_7 := hts (.fieldLink RX1 24 "BridgeBells$Travellers" "barge" "[I") (by decide +kernel)
  have hn40 : (t.1 0).toNatClampNeg ≤ 40 := nOk_le hn
  have hx0 : (t.1 0 - 1).toInt = ((t.1 0).toNatClampNeg : Int) - 1 := nOk_m1 hn
  refine lv_aload_n hx hb dX1_seeWhoWaits_0 rfl (lv_at hl 0 rfl) ?_
  refine lv_iconst (v := (0 : Int32)) hx hb dX1_seeWhoWaits_1 (by decide) ?_
  refine va_put (D := D) (ci := 1) (v := .int (0 : Int32)) (ty := tyX1 2) (C := RX1) (T := TX1) (N := 12) hx hb hts hinX1 tyX1 tyX1_ok nmX1 hown hK hP hD hS 0 rfl rfl 2 (by decide) w_1 (fun _ h9 => h9) rfl (tyX1_ok 2 (by decide)) rfl rfl (Nat.le_of_ble_eq_true rfl) dX1_seeWhoWaits_2 (fun H locs hP hD hS => ?_)
  have hP : va_P D vwCl (wT I q (xs t.1 2 (0 : Int32), t.2)) H := hP
  have hD : va_D A (wT I q (xs t.1 2 (0 : Int32), t.2)) := hD
  refine lv_aload_n hx hb dX1_seeWhoWaits_5 rfl (lv_at hl 0 rfl) ?_
  refine lv_iconst (v := (0 : Int32)) hx hb dX1_seeWhoWaits_6 (by decide) ?_
  refine va_put (D := D) (ci := 1) (v := .int (0 : Int32)) (ty := tyX1 3) (C := RX1) (T := TX1) (N := 12) hx hb hts hinX1 tyX1 tyX1_ok nmX1 hown hK hP hD hS 0 rfl rfl 3 (by decide) w_2 (fun _ h9 => h9) rfl (tyX1_ok 3 (by decide)) rfl rfl (Nat.le_of_ble_eq_true rfl) dX1_seeWhoWaits_7 (fun H locs hP hD hS => ?_)
  have hP : va_P D vwCl (wT I q (xs (xs t.1 2 (0 : Int32)) 3 (0 : Int32), t.2)) H := hP
  have hD : va_D A (wT I q (xs (xs t.1 2 (0 : Int32)) 3 (0 : Int32), t.2)) := hD
  refine lv_aload_n hx hb dX1_seeWhoWaits_10 rfl (lv_at hl 0 rfl) ?_
  refine lv_iconst (v := (-1 : Int32)) hx hb dX1_seeWhoWaits_11 (by decide) ?_
  refine va_put (D := D) (ci := 1) (v := .int (-1 : Int32)) (ty := tyX1 10) (C := RX1) (T := TX1) (N := 12) hx hb hts hinX1 tyX1 tyX1_ok nmX1 hown hK hP hD hS 0 rfl rfl 10 (by decide) w_3 (fun _ h9 => h9) rfl (tyX1_ok 10 (by decide)) rfl rfl (Nat.le_of_ble_eq_true rfl) dX1_seeWhoWaits_12 (fun H locs hP hD hS => ?_)
  have hP : va_P D vwCl (wT I q (xs (xs (xs t.1 2 (0 : Int32)) 3 (0 : Int32)) 4 (-1 : Int32), t.2)) H := hP
  have hD : va_D A (wT I q (xs (xs (xs t.1 2 (0 : Int32)) 3 (0 : Int32)) 4 (-1 : Int32), t.2)) := hD
  refine lv_aload_n hx hb dX1_seeWhoWaits_15 rfl (lv_at hl 0 rfl) ?_
  refine lv_iconst (v := (-1 : Int32)) hx hb dX1_seeWhoWaits_16 (by decide) ?_
  refine va_put (D := D) (ci := 1) (v := .int (-1 : Int32)) (ty := tyX1 11) (C := RX1) (T := TX1) (N := 12) hx hb hts hinX1 tyX1 tyX1_ok nmX1 hown hK hP hD hS 0 rfl rfl 11 (by decide) w_4 (fun _ h9 => h9) rfl (tyX1_ok 11 (by decide)) rfl rfl (Nat.le_of_ble_eq_true rfl) dX1_seeWhoWaits_17 (fun H locs hP hD hS => ?_)
  have hP : va_P D vwCl (wT I q (xs (xs (xs (xs t.1 2 (0 : Int32)) 3 (0 : Int32)) 4 (-1 : Int32)) 5 (-1 : Int32), t.2)) H := hP
  have hD : va_D A (wT I q (xs (xs (xs (xs t.1 2 (0 : Int32)) 3 (0 : Int32)) 4 (-1 : Int32)) 5 (-1 : Int32), t.2)) := hD
  refine lv_aload_n hx hb dX1_seeWhoWaits_20 rfl (lv_at hl 0 rfl) ?_
  refine va_get (D := D) (ci := 1) (v := .int (t.1 0)) (C := RX1) (T := TX1) (N := 12) hx hb hts hinX1 hown hK hP 0 rfl rfl 0 (by decide) w_5 (fun _ h9 => h9) rfl dX1_seeWhoWaits_21 ?_
  refine lv_iconst (v := (1 : Int32)) hx hb dX1_seeWhoWaits_24 (by decide) ?_
  refine lv_isub hx hb dX1_seeWhoWaits_25 ?_
  refine lv_istore_n (lv' := [(1, .int ((t.1 0) - (1 : Int32))), (0, .ref (q 2))]) hx hb dX1_seeWhoWaits_26 rfl hl (by decide) rfl (fun ls hl => ?_)
  have loop : ∀ (k : Nat) (x : Int32) (f : Nat → Int32), k ≤ 40 → x.toInt = (k : Int) - 1 → ∀ (H : Heap) (locs : List Loc), va_P D vwCl (wT I q (f, t.2)) H → va_D A (wT I q (f, t.2)) → va_S A s.heap H locs → ∀ ls, lv_has ls 2 [(1, .int x), (0, .ref (q 2))] → W p l e { frames := 0, cells := 0, slots := 0, locals := 0 } s m #[.ref (q 2)] below meth c H locs 0 0 (MQ below (xQv D [(I, .int)] A (wT I q (sw t.2 k f, t.2))) #[.ref (q 2)] s 0 0 A) (F0 m 27 ls []) := by
    intro k
    induction k with
    | zero =>
      intro x f hk hx1 H locs hP hD hS ls hl
      refine lv_iload_n hx hb dX1_seeWhoWaits_27 rfl (lv_at hl 0 rfl) ?_
      refine lv_if_lt (tgt := 92) hx hb dX1_seeWhoWaits_28 (by decide) (fun c_1 => ?_) (fun c_1 => ?_)
      · exact xk_vret (wf := fun z : XT => wT I q z) (u := (f, t.2)) hx hb hr hlocks hP hK hD hS rfl dX1_seeWhoWaits_92
      · exact absurd (Int32.lt_iff_toInt_lt.mpr (by rw [hx1]; decide)) c_1
    | succ k ih =>
      intro x f hk hx1 H locs hP hD hS ls hl
      have hin1 : vp_in x 40 := vin40 (by omega) (by omega)
      have hxk : x = nI k := Int32.toInt_inj.mp (by rw [hx1, nI_toInt (by omega)]; omega)
      subst hxk
      refine lv_iload_n hx hb dX1_seeWhoWaits_27 rfl (lv_at hl 0 rfl) ?_
      refine lv_if_lt (tgt := 92) hx hb dX1_seeWhoWaits_28 (by decide) (fun c_2 => ?_) (fun c_2 => ?_)
      · exact absurd (Int32.lt_iff_toInt_lt.mp c_2) (by rw [nI_toInt (by omega)]; show ¬ ((k : Int) < 0); omega)
      · refine lv_aload_n hx hb dX1_seeWhoWaits_31 rfl (lv_at hl 1 rfl) ?_
        refine va_get (D := D) (ci := 1) (v := .ref (q 5)) (C := RX1) (T := TX1) (N := 12) hx hb hts hinX1 hown hK hP 0 rfl rfl 6 (by decide) w_6 (fun _ h9 => h9) rfl dX1_seeWhoWaits_32 ?_
        refine lv_iload_n hx hb dX1_seeWhoWaits_35 rfl (lv_at hl 0 rfl) ?_
        refine va_iald (f := (t.2 2)) hx hb hK hP 3 0 rfl rfl (show vp_in (nI k) 40 from hin1) dX1_seeWhoWaits_36 ?_
        refine W.eq (congrArg (fun z => F0 m 37 ls (.int ((t.2 2) z) :: [])) (nI_clamp (n := k) (by omega))) ?_
        refine lv_if_eq (tgt := 43) hx hb dX1_seeWhoWaits_37 (by decide) (fun c_3 => ?_) (fun c_3 => ?_)
        · refine lv_aload_n hx hb dX1_seeWhoWaits_43 rfl (lv_at hl 1 rfl) ?_
          refine va_get (D := D) (ci := 1) (v := .ref (q 3)) (C := RX1) (T := TX1) (N := 12) hx hb hts hinX1 hown hK hP 0 rfl rfl 4 (by decide) w_7 (fun _ h9 => h9) rfl dX1_seeWhoWaits_44 ?_
          refine lv_iload_n hx hb dX1_seeWhoWaits_47 rfl (lv_at hl 0 rfl) ?_
          refine va_iald (f := (t.2 0)) hx hb hK hP 1 0 rfl rfl (show vp_in (nI k) 40 from hin1) dX1_seeWhoWaits_48 ?_
          refine W.eq (congrArg (fun z => F0 m 49 ls (.int ((t.2 0) z) :: [])) (nI_clamp (n := k) (by omega))) ?_
          refine lv_iconst (v := (1 : Int32)) hx hb dX1_seeWhoWaits_49 (by decide) ?_
          refine lv_icmp_ne (tgt := 71) hx hb dX1_seeWhoWaits_50 (by decide) (fun c_4 => ?_) (fun c_4 => ?_)
          · refine lv_aload_n hx hb dX1_seeWhoWaits_71 rfl (lv_at hl 1 rfl) ?_
            refine lv_dup hx hb dX1_seeWhoWaits_72 rfl ?_
            refine va_get (D := D) (ci := 1) (v := .int (f 3)) (C := RX1) (T := TX1) (N := 12) hx hb hts hinX1 hown hK hP 0 rfl rfl 3 (by decide) w_2 (fun _ h9 => h9) rfl dX1_seeWhoWaits_73 ?_
            refine lv_iconst (v := (1 : Int32)) hx hb dX1_seeWhoWaits_76 (by decide) ?_
            refine lv_iadd hx hb dX1_seeWhoWaits_77 ?_
            refine va_put (D := D) (ci := 1) (v := .int ((f 3) + (1 : Int32))) (ty := tyX1 3) (C := RX1) (T := TX1) (N := 12) hx hb hts hinX1 tyX1 tyX1_ok nmX1 hown hK hP hD hS 0 rfl rfl 3 (by decide) w_2 (fun _ h9 => h9) rfl (tyX1_ok 3 (by decide)) rfl rfl (Nat.le_of_ble_eq_true rfl) dX1_seeWhoWaits_78 (fun H locs hP hD hS => ?_)
            have hP : va_P D vwCl (wT I q (xs f 3 ((f 3) + (1 : Int32)), t.2)) H := hP
            have hD : va_D A (wT I q (xs f 3 ((f 3) + (1 : Int32)), t.2)) := hD
            refine lv_aload_n hx hb dX1_seeWhoWaits_81 rfl (lv_at hl 1 rfl) ?_
            refine lv_iload_n hx hb dX1_seeWhoWaits_82 rfl (lv_at hl 0 rfl) ?_
            refine va_put (D := D) (ci := 1) (v := .int (nI k)) (ty := tyX1 11) (C := RX1) (T := TX1) (N := 12) hx hb hts hinX1 tyX1 tyX1_ok nmX1 hown hK hP hD hS 0 rfl rfl 11 (by decide) w_4 (fun _ h9 => h9) rfl (tyX1_ok 11 (by decide)) rfl rfl (Nat.le_of_ble_eq_true rfl) dX1_seeWhoWaits_83 (fun H locs hP hD hS => ?_)
            have hP : va_P D vwCl (wT I q (xs (xs f 3 ((f 3) + (1 : Int32))) 5 (nI k), t.2)) H := hP
            have hD : va_D A (wT I q (xs (xs f 3 ((f 3) + (1 : Int32))) 5 (nI k), t.2)) := hD
            refine lv_iinc (v := ((nI k) + (-1 : Int32))) (lv' := [(1, .int ((nI k) + (-1 : Int32))), (0, .ref (q 2))]) hx hb dX1_seeWhoWaits_86 hl (k := 0) rfl (by first | rfl | decide) (by decide) rfl (fun ls hl => ?_)
            refine lv_goto (tgt := 27) hx hb dX1_seeWhoWaits_89 (by decide) ?_
            have e9 : sw t.2 (k + 1) f = sw t.2 k (xs (xs f 3 ((f 3) + (1 : Int32))) 5 (nI k)) := by
              show sw t.2 k (sw_step t.2 k f) = _
              unfold sw_step; rw [if_pos c_3, if_neg c_4]
            rw [e9]
            exact ih _ _ (by omega) (by rw [Int32.toInt_add, nI_toInt (by omega)]; exact i_m1 (by omega)) _ _ hP hD hS ls hl
          · refine lv_aload_n hx hb dX1_seeWhoWaits_53 rfl (lv_at hl 1 rfl) ?_
            refine lv_dup hx hb dX1_seeWhoWaits_54 rfl ?_
            refine va_get (D := D) (ci := 1) (v := .int (f 2)) (C := RX1) (T := TX1) (N := 12) hx hb hts hinX1 hown hK hP 0 rfl rfl 2 (by decide) w_1 (fun _ h9 => h9) rfl dX1_seeWhoWaits_55 ?_
            refine lv_iconst (v := (1 : Int32)) hx hb dX1_seeWhoWaits_58 (by decide) ?_
            refine lv_iadd hx hb dX1_seeWhoWaits_59 ?_
            refine va_put (D := D) (ci := 1) (v := .int ((f 2) + (1 : Int32))) (ty := tyX1 2) (C := RX1) (T := TX1) (N := 12) hx hb hts hinX1 tyX1 tyX1_ok nmX1 hown hK hP hD hS 0 rfl rfl 2 (by decide) w_1 (fun _ h9 => h9) rfl (tyX1_ok 2 (by decide)) rfl rfl (Nat.le_of_ble_eq_true rfl) dX1_seeWhoWaits_60 (fun H locs hP hD hS => ?_)
            have hP : va_P D vwCl (wT I q (xs f 2 ((f 2) + (1 : Int32)), t.2)) H := hP
            have hD : va_D A (wT I q (xs f 2 ((f 2) + (1 : Int32)), t.2)) := hD
            refine lv_aload_n hx hb dX1_seeWhoWaits_63 rfl (lv_at hl 1 rfl) ?_
            refine lv_iload_n hx hb dX1_seeWhoWaits_64 rfl (lv_at hl 0 rfl) ?_
            refine va_put (D := D) (ci := 1) (v := .int (nI k)) (ty := tyX1 10) (C := RX1) (T := TX1) (N := 12) hx hb hts hinX1 tyX1 tyX1_ok nmX1 hown hK hP hD hS 0 rfl rfl 10 (by decide) w_3 (fun _ h9 => h9) rfl (tyX1_ok 10 (by decide)) rfl rfl (Nat.le_of_ble_eq_true rfl) dX1_seeWhoWaits_65 (fun H locs hP hD hS => ?_)
            have hP : va_P D vwCl (wT I q (xs (xs f 2 ((f 2) + (1 : Int32))) 4 (nI k), t.2)) H := hP
            have hD : va_D A (wT I q (xs (xs f 2 ((f 2) + (1 : Int32))) 4 (nI k), t.2)) := hD
            refine lv_goto (tgt := 86) hx hb dX1_seeWhoWaits_68 (by decide) ?_
            refine lv_iinc (v := ((nI k) + (-1 : Int32))) (lv' := [(1, .int ((nI k) + (-1 : Int32))), (0, .ref (q 2))]) hx hb dX1_seeWhoWaits_86 hl (k := 0) rfl (by first | rfl | decide) (by decide) rfl (fun ls hl => ?_)
            refine lv_goto (tgt := 27) hx hb dX1_seeWhoWaits_89 (by decide) ?_
            have e9 : sw t.2 (k + 1) f = sw t.2 k (xs (xs f 2 ((f 2) + (1 : Int32))) 4 (nI k)) := by
              show sw t.2 k (sw_step t.2 k f) = _
              unfold sw_step; rw [if_pos c_3, if_pos c_4]
            rw [e9]
            exact ih _ _ (by omega) (by rw [Int32.toInt_add, nI_toInt (by omega)]; exact i_m1 (by omega)) _ _ hP hD hS ls hl
        · refine lv_goto (tgt := 86) hx hb dX1_seeWhoWaits_40 (by decide) ?_
          refine lv_iinc (v := ((nI k) + (-1 : Int32))) (lv' := [(1, .int ((nI k) + (-1 : Int32))), (0, .ref (q 2))]) hx hb dX1_seeWhoWaits_86 hl (k := 0) rfl (by first | rfl | decide) (by decide) rfl (fun ls hl => ?_)
          refine lv_goto (tgt := 27) hx hb dX1_seeWhoWaits_89 (by decide) ?_
          have e9 : sw t.2 (k + 1) f = sw t.2 k (f) := by
            show sw t.2 k (sw_step t.2 k f) = _
            unfold sw_step; rw [if_neg c_3]
          rw [e9]
          exact ih _ _ (by omega) (by rw [Int32.toInt_add, nI_toInt (by omega)]; exact i_m1 (by omega)) _ _ hP hD hS ls hl
  exact loop _ _ _ hn40 hx0 _ _ hP hD hS ls hl

def g1_X1_endWait (t : XT) (k : Int32) (st : Int32) (mi : Int32) : XT := s_X1_seeWhoWaits (t.1, xa (xa t.2 2 (upd (t.2 2) k.toNatClampNeg st)) 5 (upd (t.2 5) k.toNatClampNeg mi))
def s_X1_endWait (t : XT) (k : Int32) (st : Int32) (mi : Int32) : XT :=
  (g1_X1_endWait t k st mi)
set_option maxHeartbeats 800000 in
set_option maxRecDepth 100000 in
theorem c_X1_endWait (l : Launch) (D : va_G) (I : ClassId) (q : Nat → Nat) (sz : Nat) (t : XT) (k : Int32) (st : Int32) (mi : Int32) (hk : vp_in k 40) (hn : nOk (t.1 0)) : xMv l D [(I, .int)] yX1_endWait wsX1_endWait { frames := 1, cells := 0, slots := 0, locals := 21 } [.ref (q 2), .int k, .int st, .int mi] sz (wT I q t) (wT I q (s_X1_endWait t k st mi)) 0 0 := by
  refine xk_start (cc := cX1_endWait) (maxL := 4) (ret := none) (Qf := fun A => xQv D [(I, .int)] A (wT I q (s_X1_endWait t k st mi))) (by decide) rfl (Nat.le_of_ble_eq_true rfl) ?_
  intro p e s m below meth c A H ls hst hAe hsz hl
  obtain ⟨hx, hb, hr, hts, hown, hlocks, hml, hin, hN, hK, hP, hD, hA, hS⟩ := hst
  have hl : lv_has ls 4 [(0, .ref (q 2)), (1, .int k), (2, .int st), (3, .int mi)] := hl
  have hP : va_P D vwCl (wT I q t) H := hP
  have hinX1 : ∀ w ∈ u_ws RX1 TX1 12, w ∈ wsX1_endWait := by decide +kernel
  have w_1 := hts (.fieldLink RX1 31 "BridgeBells$Travellers" "state" "[I") (by decide +kernel)
  have w_2 := hts (.fieldLink RX1 40 "BridgeBells$Travellers" "waitEnd" "[I") (by decide +kernel)
  refine lv_aload_n hx hb dX1_endWait_0 rfl (lv_at hl 0 rfl) ?_
  refine va_get (D := D) (ci := 1) (v := .ref (q 5)) (C := RX1) (T := TX1) (N := 12) hx hb hts hinX1 hown hK hP 0 rfl rfl 6 (by decide) w_1 (fun _ h9 => h9) rfl dX1_endWait_1 ?_
  refine lv_iload_n hx hb dX1_endWait_4 rfl (lv_at hl 1 rfl) ?_
  refine lv_iload_n hx hb dX1_endWait_5 rfl (lv_at hl 2 rfl) ?_
  refine va_iast (f := (t.2 2)) hx hb hK hP hD hS 3 0 rfl rfl (show vp_in k 40 from hk) dX1_endWait_6 (fun H locs hP hD hS => ?_)
  have hP : va_P D vwCl (wT I q (t.1, xa t.2 2 (upd (t.2 2) k.toNatClampNeg st))) H := hP
  have hD : va_D A (wT I q (t.1, xa t.2 2 (upd (t.2 2) k.toNatClampNeg st))) := hD
  refine lv_aload_n hx hb dX1_endWait_7 rfl (lv_at hl 0 rfl) ?_
  refine va_get (D := D) (ci := 1) (v := .ref (q 8)) (C := RX1) (T := TX1) (N := 12) hx hb hts hinX1 hown hK hP 0 rfl rfl 9 (by decide) w_2 (fun _ h9 => h9) rfl dX1_endWait_8 ?_
  refine lv_iload_n hx hb dX1_endWait_11 rfl (lv_at hl 1 rfl) ?_
  refine lv_iload_n hx hb dX1_endWait_12 rfl (lv_at hl 3 rfl) ?_
  refine va_iast (f := (t.2 5)) hx hb hK hP hD hS 6 0 rfl rfl (show vp_in k 40 from hk) dX1_endWait_13 (fun H locs hP hD hS => ?_)
  have hP : va_P D vwCl (wT I q (t.1, xa (xa t.2 2 (upd (t.2 2) k.toNatClampNeg st)) 5 (upd (t.2 5) k.toNatClampNeg mi))) H := hP
  have hD : va_D A (wT I q (t.1, xa (xa t.2 2 (upd (t.2 2) k.toNatClampNeg st)) 5 (upd (t.2 5) k.toNatClampNeg mi))) := hD
  refine lv_aload_n hx hb dX1_endWait_14 rfl (lv_at hl 0 rfl) ?_
  refine xk_callv ([]) (wT I q (s_X1_seeWhoWaits (t.1, xa (xa t.2 2 (upd (t.2 2) k.toNatClampNeg st)) 5 (upd (t.2 5) k.toNatClampNeg mi)))) [0, 1, 2, 3, 4, 5, 6] [] [0, 1, 2, 3, 4, 5, 6] hP hD hS hA (va_runV (As := []) (rest := []) ⟨hx, hb, hml, hown, hts⟩ (c_X1_seeWhoWaits l D I q H.size (t.1, xa (xa t.2 2 (upd (t.2 2) k.toNatClampNeg st)) 5 (upd (t.2 5) k.toNatClampNeg mi)) hn) (cwV 0 hts gX1_endWait_X1_seeWhoWaits rfl rfl rfl (by decide +kernel) ⟨Nat.le_of_ble_eq_true rfl, Nat.le_of_ble_eq_true rfl⟩) (xk_preV (wc := wT I q (t.1, xa (xa t.2 2 (upd (t.2 2) k.toNatClampNeg st)) 5 (upd (t.2 5) k.toNatClampNeg mi))) (q0 := 0) (ci := 1) hN hP hK hD [0, 1, 2, 3, 4, 5, 6] rfl rfl rfl rfl) rfl rfl hl.1 rfl (lv_room (Nat.le_of_ble_eq_true rfl)) dX1_endWait_15 ⟨Nat.le_of_ble_eq_true rfl, Nat.le_of_ble_eq_true rfl⟩) rfl rfl rfl (by decide) rfl rfl (fun H locs hP hD hS => ?_)
  generalize hz_1 : s_X1_seeWhoWaits (t.1, xa (xa t.2 2 (upd (t.2 2) k.toNatClampNeg st)) 5 (upd (t.2 5) k.toNatClampNeg mi)) = z_1 at hP hD
  have hg_1 : g1_X1_endWait t k st mi = z_1 := by rw [← hz_1]; rfl
  exact xk_vret (wf := fun z : XT => wT I q z) (u := z_1) (u1 := (s_X1_endWait t k st mi)) hx hb hr hlocks hP hK hD hS (by subst hg_1; unfold s_X1_endWait; rfl) dX1_endWait_18

def g1_X1_add (t : XT) (bg : Int32) (mn : Int32) (mi : Int32) : XT := s_X1_seeWhoWaits (xs t.1 0 ((t.1 0) + (1 : Int32)), xa (xa (xa (xa (xa t.2 0 (upd (t.2 0) (t.1 0).toNatClampNeg (0 : Int32))) 1 (upd (t.2 1) (t.1 0).toNatClampNeg mn)) 2 (upd (t.2 2) (t.1 0).toNatClampNeg (0 : Int32))) 3 (upd (t.2 3) (t.1 0).toNatClampNeg mi)) 4 (upd (t.2 4) (t.1 0).toNatClampNeg (-1 : Int32)))
def g2_X1_add (t : XT) (bg : Int32) (mn : Int32) (mi : Int32) : XT := s_X1_seeWhoWaits (xs t.1 0 ((t.1 0) + (1 : Int32)), xa (xa (xa (xa (xa t.2 0 (upd (t.2 0) (t.1 0).toNatClampNeg (1 : Int32))) 1 (upd (t.2 1) (t.1 0).toNatClampNeg mn)) 2 (upd (t.2 2) (t.1 0).toNatClampNeg (0 : Int32))) 3 (upd (t.2 3) (t.1 0).toNatClampNeg mi)) 4 (upd (t.2 4) (t.1 0).toNatClampNeg (-1 : Int32)))
def r_X1_add (t : XT) (bg : Int32) (mn : Int32) (mi : Int32) : Int32 :=
  if bg = 0 then
    (t.1 0)
  else
    (t.1 0)
def s_X1_add (t : XT) (bg : Int32) (mn : Int32) (mi : Int32) : XT :=
  if bg = 0 then
    (g1_X1_add t bg mn mi)
  else
    (g2_X1_add t bg mn mi)
set_option maxHeartbeats 800000 in
set_option maxRecDepth 100000 in
theorem c_X1_add (l : Launch) (D : va_G) (I : ClassId) (q : Nat → Nat) (sz : Nat) (t : XT) (bg : Int32) (mn : Int32) (mi : Int32) (hn : nOk (t.1 0)) (hn2 : (t.1 0).toInt < 40) : xMi l D [(I, .int)] yX1_add wsX1_add { frames := 1, cells := 0, slots := 0, locals := 21 } [.ref (q 2), .int bg, .int mn, .int mi] sz (wT I q t) (r_X1_add t bg mn mi) (wT I q (s_X1_add t bg mn mi)) 0 0 := by
  refine xk_start (cc := cX1_add) (maxL := 5) (ret := (some .int)) (Qf := fun A => xQi D [(I, .int)] A (r_X1_add t bg mn mi) (wT I q (s_X1_add t bg mn mi))) (by decide) rfl (Nat.le_of_ble_eq_true rfl) ?_
  intro p e s m below meth c A H ls hst hAe hsz hl
  obtain ⟨hx, hb, hr, hts, hown, hlocks, hml, hin, hN, hK, hP, hD, hA, hS⟩ := hst
  have hl : lv_has ls 5 [(0, .ref (q 2)), (1, .int bg), (2, .int mn), (3, .int mi)] := hl
  have hP : va_P D vwCl (wT I q t) H := hP
  have hinX1 : ∀ w ∈ u_ws RX1 TX1 12, w ∈ wsX1_add := by decide +kernel
  have w_1 := hts (.fieldLink RX1 9 "BridgeBells$Travellers" "number" "I") (by decide +kernel)
  have w_2 := hts (.fieldLink RX1 24 "BridgeBells$Travellers" "barge" "[I") (by decide +kernel)
  have w_3 := hts (.fieldLink RX1 28 "BridgeBells$Travellers" "needs" "[I") (by decide +kernel)
  have w_4 := hts (.fieldLink RX1 31 "BridgeBells$Travellers" "state" "[I") (by decide +kernel)
  have w_5 := hts (.fieldLink RX1 34 "BridgeBells$Travellers" "came" "[I") (by decide +kernel)
  have w_6 := hts (.fieldLink RX1 37 "BridgeBells$Travellers" "passedIn" "[I") (by decide +kernel)
  refine lv_aload_n hx hb dX1_add_0 rfl (lv_at hl 0 rfl) ?_
  refine va_get (D := D) (ci := 1) (v := .int (t.1 0)) (C := RX1) (T := TX1) (N := 12) hx hb hts hinX1 hown hK hP 0 rfl rfl 0 (by decide) w_1 (fun _ h9 => h9) rfl dX1_add_1 ?_
  refine lv_istore (lv' := [(4, .int (t.1 0)), (0, .ref (q 2)), (1, .int bg), (2, .int mn), (3, .int mi)]) hx hb dX1_add_4 hl (by decide) rfl (fun ls hl => ?_)
  refine lv_aload_n hx hb dX1_add_6 rfl (lv_at hl 1 rfl) ?_
  refine va_get (D := D) (ci := 1) (v := .ref (q 3)) (C := RX1) (T := TX1) (N := 12) hx hb hts hinX1 hown hK hP 0 rfl rfl 4 (by decide) w_2 (fun _ h9 => h9) rfl dX1_add_7 ?_
  refine lv_iload hx hb dX1_add_10 (lv_at hl 0 rfl) ?_
  refine lv_iload_n hx hb dX1_add_12 rfl (lv_at hl 2 rfl) ?_
  refine lv_if_eq (tgt := 20) hx hb dX1_add_13 (by decide) (fun c_1 => ?_) (fun c_1 => ?_)
  · refine lv_iconst (v := (0 : Int32)) hx hb dX1_add_20 (by decide) ?_
    refine va_iast (f := (t.2 0)) hx hb hK hP hD hS 1 0 rfl rfl (show vp_in (t.1 0) 40 from (vin40 hn.1 hn2)) dX1_add_21 (fun H locs hP hD hS => ?_)
    have hP : va_P D vwCl (wT I q (t.1, xa t.2 0 (upd (t.2 0) (t.1 0).toNatClampNeg (0 : Int32)))) H := hP
    have hD : va_D A (wT I q (t.1, xa t.2 0 (upd (t.2 0) (t.1 0).toNatClampNeg (0 : Int32)))) := hD
    refine lv_aload_n hx hb dX1_add_22 rfl (lv_at hl 1 rfl) ?_
    refine va_get (D := D) (ci := 1) (v := .ref (q 4)) (C := RX1) (T := TX1) (N := 12) hx hb hts hinX1 hown hK hP 0 rfl rfl 5 (by decide) w_3 (fun _ h9 => h9) rfl dX1_add_23 ?_
    refine lv_iload hx hb dX1_add_26 (lv_at hl 0 rfl) ?_
    refine lv_iload_n hx hb dX1_add_28 rfl (lv_at hl 3 rfl) ?_
    refine va_iast (f := (t.2 1)) hx hb hK hP hD hS 2 0 rfl rfl (show vp_in (t.1 0) 40 from (vin40 hn.1 hn2)) dX1_add_29 (fun H locs hP hD hS => ?_)
    have hP : va_P D vwCl (wT I q (t.1, xa (xa t.2 0 (upd (t.2 0) (t.1 0).toNatClampNeg (0 : Int32))) 1 (upd (t.2 1) (t.1 0).toNatClampNeg mn))) H := hP
    have hD : va_D A (wT I q (t.1, xa (xa t.2 0 (upd (t.2 0) (t.1 0).toNatClampNeg (0 : Int32))) 1 (upd (t.2 1) (t.1 0).toNatClampNeg mn))) := hD
    refine lv_aload_n hx hb dX1_add_30 rfl (lv_at hl 1 rfl) ?_
    refine va_get (D := D) (ci := 1) (v := .ref (q 5)) (C := RX1) (T := TX1) (N := 12) hx hb hts hinX1 hown hK hP 0 rfl rfl 6 (by decide) w_4 (fun _ h9 => h9) rfl dX1_add_31 ?_
    refine lv_iload hx hb dX1_add_34 (lv_at hl 0 rfl) ?_
    refine lv_iconst (v := (0 : Int32)) hx hb dX1_add_36 (by decide) ?_
    refine va_iast (f := (t.2 2)) hx hb hK hP hD hS 3 0 rfl rfl (show vp_in (t.1 0) 40 from (vin40 hn.1 hn2)) dX1_add_37 (fun H locs hP hD hS => ?_)
    have hP : va_P D vwCl (wT I q (t.1, xa (xa (xa t.2 0 (upd (t.2 0) (t.1 0).toNatClampNeg (0 : Int32))) 1 (upd (t.2 1) (t.1 0).toNatClampNeg mn)) 2 (upd (t.2 2) (t.1 0).toNatClampNeg (0 : Int32)))) H := hP
    have hD : va_D A (wT I q (t.1, xa (xa (xa t.2 0 (upd (t.2 0) (t.1 0).toNatClampNeg (0 : Int32))) 1 (upd (t.2 1) (t.1 0).toNatClampNeg mn)) 2 (upd (t.2 2) (t.1 0).toNatClampNeg (0 : Int32)))) := hD
    refine lv_aload_n hx hb dX1_add_38 rfl (lv_at hl 1 rfl) ?_
    refine va_get (D := D) (ci := 1) (v := .ref (q 6)) (C := RX1) (T := TX1) (N := 12) hx hb hts hinX1 hown hK hP 0 rfl rfl 7 (by decide) w_5 (fun _ h9 => h9) rfl dX1_add_39 ?_
    refine lv_iload hx hb dX1_add_42 (lv_at hl 0 rfl) ?_
    refine lv_iload_n hx hb dX1_add_44 rfl (lv_at hl 4 rfl) ?_
    refine va_iast (f := (t.2 3)) hx hb hK hP hD hS 4 0 rfl rfl (show vp_in (t.1 0) 40 from (vin40 hn.1 hn2)) dX1_add_45 (fun H locs hP hD hS => ?_)
    have hP : va_P D vwCl (wT I q (t.1, xa (xa (xa (xa t.2 0 (upd (t.2 0) (t.1 0).toNatClampNeg (0 : Int32))) 1 (upd (t.2 1) (t.1 0).toNatClampNeg mn)) 2 (upd (t.2 2) (t.1 0).toNatClampNeg (0 : Int32))) 3 (upd (t.2 3) (t.1 0).toNatClampNeg mi))) H := hP
    have hD : va_D A (wT I q (t.1, xa (xa (xa (xa t.2 0 (upd (t.2 0) (t.1 0).toNatClampNeg (0 : Int32))) 1 (upd (t.2 1) (t.1 0).toNatClampNeg mn)) 2 (upd (t.2 2) (t.1 0).toNatClampNeg (0 : Int32))) 3 (upd (t.2 3) (t.1 0).toNatClampNeg mi))) := hD
    refine lv_aload_n hx hb dX1_add_46 rfl (lv_at hl 1 rfl) ?_
    refine va_get (D := D) (ci := 1) (v := .ref (q 7)) (C := RX1) (T := TX1) (N := 12) hx hb hts hinX1 hown hK hP 0 rfl rfl 8 (by decide) w_6 (fun _ h9 => h9) rfl dX1_add_47 ?_
    refine lv_iload hx hb dX1_add_50 (lv_at hl 0 rfl) ?_
    refine lv_iconst (v := (-1 : Int32)) hx hb dX1_add_52 (by decide) ?_
    refine va_iast (f := (t.2 4)) hx hb hK hP hD hS 5 0 rfl rfl (show vp_in (t.1 0) 40 from (vin40 hn.1 hn2)) dX1_add_53 (fun H locs hP hD hS => ?_)
    have hP : va_P D vwCl (wT I q (t.1, xa (xa (xa (xa (xa t.2 0 (upd (t.2 0) (t.1 0).toNatClampNeg (0 : Int32))) 1 (upd (t.2 1) (t.1 0).toNatClampNeg mn)) 2 (upd (t.2 2) (t.1 0).toNatClampNeg (0 : Int32))) 3 (upd (t.2 3) (t.1 0).toNatClampNeg mi)) 4 (upd (t.2 4) (t.1 0).toNatClampNeg (-1 : Int32)))) H := hP
    have hD : va_D A (wT I q (t.1, xa (xa (xa (xa (xa t.2 0 (upd (t.2 0) (t.1 0).toNatClampNeg (0 : Int32))) 1 (upd (t.2 1) (t.1 0).toNatClampNeg mn)) 2 (upd (t.2 2) (t.1 0).toNatClampNeg (0 : Int32))) 3 (upd (t.2 3) (t.1 0).toNatClampNeg mi)) 4 (upd (t.2 4) (t.1 0).toNatClampNeg (-1 : Int32)))) := hD
    refine lv_aload_n hx hb dX1_add_54 rfl (lv_at hl 1 rfl) ?_
    refine lv_dup hx hb dX1_add_55 rfl ?_
    refine va_get (D := D) (ci := 1) (v := .int (t.1 0)) (C := RX1) (T := TX1) (N := 12) hx hb hts hinX1 hown hK hP 0 rfl rfl 0 (by decide) w_1 (fun _ h9 => h9) rfl dX1_add_56 ?_
    refine lv_iconst (v := (1 : Int32)) hx hb dX1_add_59 (by decide) ?_
    refine lv_iadd hx hb dX1_add_60 ?_
    refine va_put (D := D) (ci := 1) (v := .int ((t.1 0) + (1 : Int32))) (ty := tyX1 0) (C := RX1) (T := TX1) (N := 12) hx hb hts hinX1 tyX1 tyX1_ok nmX1 hown hK hP hD hS 0 rfl rfl 0 (by decide) w_1 (fun _ h9 => h9) rfl (tyX1_ok 0 (by decide)) rfl rfl (Nat.le_of_ble_eq_true rfl) dX1_add_61 (fun H locs hP hD hS => ?_)
    have hP : va_P D vwCl (wT I q (xs t.1 0 ((t.1 0) + (1 : Int32)), xa (xa (xa (xa (xa t.2 0 (upd (t.2 0) (t.1 0).toNatClampNeg (0 : Int32))) 1 (upd (t.2 1) (t.1 0).toNatClampNeg mn)) 2 (upd (t.2 2) (t.1 0).toNatClampNeg (0 : Int32))) 3 (upd (t.2 3) (t.1 0).toNatClampNeg mi)) 4 (upd (t.2 4) (t.1 0).toNatClampNeg (-1 : Int32)))) H := hP
    have hD : va_D A (wT I q (xs t.1 0 ((t.1 0) + (1 : Int32)), xa (xa (xa (xa (xa t.2 0 (upd (t.2 0) (t.1 0).toNatClampNeg (0 : Int32))) 1 (upd (t.2 1) (t.1 0).toNatClampNeg mn)) 2 (upd (t.2 2) (t.1 0).toNatClampNeg (0 : Int32))) 3 (upd (t.2 3) (t.1 0).toNatClampNeg mi)) 4 (upd (t.2 4) (t.1 0).toNatClampNeg (-1 : Int32)))) := hD
    refine lv_aload_n hx hb dX1_add_64 rfl (lv_at hl 1 rfl) ?_
    refine xk_callv ([]) (wT I q (s_X1_seeWhoWaits (xs t.1 0 ((t.1 0) + (1 : Int32)), xa (xa (xa (xa (xa t.2 0 (upd (t.2 0) (t.1 0).toNatClampNeg (0 : Int32))) 1 (upd (t.2 1) (t.1 0).toNatClampNeg mn)) 2 (upd (t.2 2) (t.1 0).toNatClampNeg (0 : Int32))) 3 (upd (t.2 3) (t.1 0).toNatClampNeg mi)) 4 (upd (t.2 4) (t.1 0).toNatClampNeg (-1 : Int32))))) [0, 1, 2, 3, 4, 5, 6] [] [0, 1, 2, 3, 4, 5, 6] hP hD hS hA (va_runV (As := []) (rest := []) ⟨hx, hb, hml, hown, hts⟩ (c_X1_seeWhoWaits l D I q H.size (xs t.1 0 ((t.1 0) + (1 : Int32)), xa (xa (xa (xa (xa t.2 0 (upd (t.2 0) (t.1 0).toNatClampNeg (0 : Int32))) 1 (upd (t.2 1) (t.1 0).toNatClampNeg mn)) 2 (upd (t.2 2) (t.1 0).toNatClampNeg (0 : Int32))) 3 (upd (t.2 3) (t.1 0).toNatClampNeg mi)) 4 (upd (t.2 4) (t.1 0).toNatClampNeg (-1 : Int32))) (nOk_p1 hn hn2)) (cwV 0 hts gX1_add_X1_seeWhoWaits rfl rfl rfl (by decide +kernel) ⟨Nat.le_of_ble_eq_true rfl, Nat.le_of_ble_eq_true rfl⟩) (xk_preV (wc := wT I q (xs t.1 0 ((t.1 0) + (1 : Int32)), xa (xa (xa (xa (xa t.2 0 (upd (t.2 0) (t.1 0).toNatClampNeg (0 : Int32))) 1 (upd (t.2 1) (t.1 0).toNatClampNeg mn)) 2 (upd (t.2 2) (t.1 0).toNatClampNeg (0 : Int32))) 3 (upd (t.2 3) (t.1 0).toNatClampNeg mi)) 4 (upd (t.2 4) (t.1 0).toNatClampNeg (-1 : Int32)))) (q0 := 0) (ci := 1) hN hP hK hD [0, 1, 2, 3, 4, 5, 6] rfl rfl rfl rfl) rfl rfl hl.1 rfl (lv_room (Nat.le_of_ble_eq_true rfl)) dX1_add_65 ⟨Nat.le_of_ble_eq_true rfl, Nat.le_of_ble_eq_true rfl⟩) rfl rfl rfl (by decide) rfl rfl (fun H locs hP hD hS => ?_)
    generalize hz_1 : s_X1_seeWhoWaits (xs t.1 0 ((t.1 0) + (1 : Int32)), xa (xa (xa (xa (xa t.2 0 (upd (t.2 0) (t.1 0).toNatClampNeg (0 : Int32))) 1 (upd (t.2 1) (t.1 0).toNatClampNeg mn)) 2 (upd (t.2 2) (t.1 0).toNatClampNeg (0 : Int32))) 3 (upd (t.2 3) (t.1 0).toNatClampNeg mi)) 4 (upd (t.2 4) (t.1 0).toNatClampNeg (-1 : Int32))) = z_1 at hP hD
    have hg_1 : g1_X1_add t bg mn mi = z_1 := by rw [← hz_1]; rfl
    refine lv_iload hx hb dX1_add_68 (lv_at hl 0 rfl) ?_
    exact xk_iret (wf := fun z : XT => wT I q z) (u := z_1) (u1 := (s_X1_add t bg mn mi)) hx hb hr rfl hlocks hP hK hD hS (by subst hg_1; unfold r_X1_add; rw [if_pos c_1]) (by subst hg_1; unfold s_X1_add; rw [if_pos c_1]) dX1_add_70
  · refine lv_iconst (v := (1 : Int32)) hx hb dX1_add_16 (by decide) ?_
    refine lv_goto (tgt := 21) hx hb dX1_add_17 (by decide) ?_
    refine va_iast (f := (t.2 0)) hx hb hK hP hD hS 1 0 rfl rfl (show vp_in (t.1 0) 40 from (vin40 hn.1 hn2)) dX1_add_21 (fun H locs hP hD hS => ?_)
    have hP : va_P D vwCl (wT I q (t.1, xa t.2 0 (upd (t.2 0) (t.1 0).toNatClampNeg (1 : Int32)))) H := hP
    have hD : va_D A (wT I q (t.1, xa t.2 0 (upd (t.2 0) (t.1 0).toNatClampNeg (1 : Int32)))) := hD
    refine lv_aload_n hx hb dX1_add_22 rfl (lv_at hl 1 rfl) ?_
    refine va_get (D := D) (ci := 1) (v := .ref (q 4)) (C := RX1) (T := TX1) (N := 12) hx hb hts hinX1 hown hK hP 0 rfl rfl 5 (by decide) w_3 (fun _ h9 => h9) rfl dX1_add_23 ?_
    refine lv_iload hx hb dX1_add_26 (lv_at hl 0 rfl) ?_
    refine lv_iload_n hx hb dX1_add_28 rfl (lv_at hl 3 rfl) ?_
    refine va_iast (f := (t.2 1)) hx hb hK hP hD hS 2 0 rfl rfl (show vp_in (t.1 0) 40 from (vin40 hn.1 hn2)) dX1_add_29 (fun H locs hP hD hS => ?_)
    have hP : va_P D vwCl (wT I q (t.1, xa (xa t.2 0 (upd (t.2 0) (t.1 0).toNatClampNeg (1 : Int32))) 1 (upd (t.2 1) (t.1 0).toNatClampNeg mn))) H := hP
    have hD : va_D A (wT I q (t.1, xa (xa t.2 0 (upd (t.2 0) (t.1 0).toNatClampNeg (1 : Int32))) 1 (upd (t.2 1) (t.1 0).toNatClampNeg mn))) := hD
    refine lv_aload_n hx hb dX1_add_30 rfl (lv_at hl 1 rfl) ?_
    refine va_get (D := D) (ci := 1) (v := .ref (q 5)) (C := RX1) (T := TX1) (N := 12) hx hb hts hinX1 hown hK hP 0 rfl rfl 6 (by decide) w_4 (fun _ h9 => h9) rfl dX1_add_31 ?_
    refine lv_iload hx hb dX1_add_34 (lv_at hl 0 rfl) ?_
    refine lv_iconst (v := (0 : Int32)) hx hb dX1_add_36 (by decide) ?_
    refine va_iast (f := (t.2 2)) hx hb hK hP hD hS 3 0 rfl rfl (show vp_in (t.1 0) 40 from (vin40 hn.1 hn2)) dX1_add_37 (fun H locs hP hD hS => ?_)
    have hP : va_P D vwCl (wT I q (t.1, xa (xa (xa t.2 0 (upd (t.2 0) (t.1 0).toNatClampNeg (1 : Int32))) 1 (upd (t.2 1) (t.1 0).toNatClampNeg mn)) 2 (upd (t.2 2) (t.1 0).toNatClampNeg (0 : Int32)))) H := hP
    have hD : va_D A (wT I q (t.1, xa (xa (xa t.2 0 (upd (t.2 0) (t.1 0).toNatClampNeg (1 : Int32))) 1 (upd (t.2 1) (t.1 0).toNatClampNeg mn)) 2 (upd (t.2 2) (t.1 0).toNatClampNeg (0 : Int32)))) := hD
    refine lv_aload_n hx hb dX1_add_38 rfl (lv_at hl 1 rfl) ?_
    refine va_get (D := D) (ci := 1) (v := .ref (q 6)) (C := RX1) (T := TX1) (N := 12) hx hb hts hinX1 hown hK hP 0 rfl rfl 7 (by decide) w_5 (fun _ h9 => h9) rfl dX1_add_39 ?_
    refine lv_iload hx hb dX1_add_42 (lv_at hl 0 rfl) ?_
    refine lv_iload_n hx hb dX1_add_44 rfl (lv_at hl 4 rfl) ?_
    refine va_iast (f := (t.2 3)) hx hb hK hP hD hS 4 0 rfl rfl (show vp_in (t.1 0) 40 from (vin40 hn.1 hn2)) dX1_add_45 (fun H locs hP hD hS => ?_)
    have hP : va_P D vwCl (wT I q (t.1, xa (xa (xa (xa t.2 0 (upd (t.2 0) (t.1 0).toNatClampNeg (1 : Int32))) 1 (upd (t.2 1) (t.1 0).toNatClampNeg mn)) 2 (upd (t.2 2) (t.1 0).toNatClampNeg (0 : Int32))) 3 (upd (t.2 3) (t.1 0).toNatClampNeg mi))) H := hP
    have hD : va_D A (wT I q (t.1, xa (xa (xa (xa t.2 0 (upd (t.2 0) (t.1 0).toNatClampNeg (1 : Int32))) 1 (upd (t.2 1) (t.1 0).toNatClampNeg mn)) 2 (upd (t.2 2) (t.1 0).toNatClampNeg (0 : Int32))) 3 (upd (t.2 3) (t.1 0).toNatClampNeg mi))) := hD
    refine lv_aload_n hx hb dX1_add_46 rfl (lv_at hl 1 rfl) ?_
    refine va_get (D := D) (ci := 1) (v := .ref (q 7)) (C := RX1) (T := TX1) (N := 12) hx hb hts hinX1 hown hK hP 0 rfl rfl 8 (by decide) w_6 (fun _ h9 => h9) rfl dX1_add_47 ?_
    refine lv_iload hx hb dX1_add_50 (lv_at hl 0 rfl) ?_
    refine lv_iconst (v := (-1 : Int32)) hx hb dX1_add_52 (by decide) ?_
    refine va_iast (f := (t.2 4)) hx hb hK hP hD hS 5 0 rfl rfl (show vp_in (t.1 0) 40 from (vin40 hn.1 hn2)) dX1_add_53 (fun H locs hP hD hS => ?_)
    have hP : va_P D vwCl (wT I q (t.1, xa (xa (xa (xa (xa t.2 0 (upd (t.2 0) (t.1 0).toNatClampNeg (1 : Int32))) 1 (upd (t.2 1) (t.1 0).toNatClampNeg mn)) 2 (upd (t.2 2) (t.1 0).toNatClampNeg (0 : Int32))) 3 (upd (t.2 3) (t.1 0).toNatClampNeg mi)) 4 (upd (t.2 4) (t.1 0).toNatClampNeg (-1 : Int32)))) H := hP
    have hD : va_D A (wT I q (t.1, xa (xa (xa (xa (xa t.2 0 (upd (t.2 0) (t.1 0).toNatClampNeg (1 : Int32))) 1 (upd (t.2 1) (t.1 0).toNatClampNeg mn)) 2 (upd (t.2 2) (t.1 0).toNatClampNeg (0 : Int32))) 3 (upd (t.2 3) (t.1 0).toNatClampNeg mi)) 4 (upd (t.2 4) (t.1 0).toNatClampNeg (-1 : Int32)))) := hD
    refine lv_aload_n hx hb dX1_add_54 rfl (lv_at hl 1 rfl) ?_
    refine lv_dup hx hb dX1_add_55 rfl ?_
    refine va_get (D := D) (ci := 1) (v := .int (t.1 0)) (C := RX1) (T := TX1) (N := 12) hx hb hts hinX1 hown hK hP 0 rfl rfl 0 (by decide) w_1 (fun _ h9 => h9) rfl dX1_add_56 ?_
    refine lv_iconst (v := (1 : Int32)) hx hb dX1_add_59 (by decide) ?_
    refine lv_iadd hx hb dX1_add_60 ?_
    refine va_put (D := D) (ci := 1) (v := .int ((t.1 0) + (1 : Int32))) (ty := tyX1 0) (C := RX1) (T := TX1) (N := 12) hx hb hts hinX1 tyX1 tyX1_ok nmX1 hown hK hP hD hS 0 rfl rfl 0 (by decide) w_1 (fun _ h9 => h9) rfl (tyX1_ok 0 (by decide)) rfl rfl (Nat.le_of_ble_eq_true rfl) dX1_add_61 (fun H locs hP hD hS => ?_)
    have hP : va_P D vwCl (wT I q (xs t.1 0 ((t.1 0) + (1 : Int32)), xa (xa (xa (xa (xa t.2 0 (upd (t.2 0) (t.1 0).toNatClampNeg (1 : Int32))) 1 (upd (t.2 1) (t.1 0).toNatClampNeg mn)) 2 (upd (t.2 2) (t.1 0).toNatClampNeg (0 : Int32))) 3 (upd (t.2 3) (t.1 0).toNatClampNeg mi)) 4 (upd (t.2 4) (t.1 0).toNatClampNeg (-1 : Int32)))) H := hP
    have hD : va_D A (wT I q (xs t.1 0 ((t.1 0) + (1 : Int32)), xa (xa (xa (xa (xa t.2 0 (upd (t.2 0) (t.1 0).toNatClampNeg (1 : Int32))) 1 (upd (t.2 1) (t.1 0).toNatClampNeg mn)) 2 (upd (t.2 2) (t.1 0).toNatClampNeg (0 : Int32))) 3 (upd (t.2 3) (t.1 0).toNatClampNeg mi)) 4 (upd (t.2 4) (t.1 0).toNatClampNeg (-1 : Int32)))) := hD
    refine lv_aload_n hx hb dX1_add_64 rfl (lv_at hl 1 rfl) ?_
    refine xk_callv ([]) (wT I q (s_X1_seeWhoWaits (xs t.1 0 ((t.1 0) + (1 : Int32)), xa (xa (xa (xa (xa t.2 0 (upd (t.2 0) (t.1 0).toNatClampNeg (1 : Int32))) 1 (upd (t.2 1) (t.1 0).toNatClampNeg mn)) 2 (upd (t.2 2) (t.1 0).toNatClampNeg (0 : Int32))) 3 (upd (t.2 3) (t.1 0).toNatClampNeg mi)) 4 (upd (t.2 4) (t.1 0).toNatClampNeg (-1 : Int32))))) [0, 1, 2, 3, 4, 5, 6] [] [0, 1, 2, 3, 4, 5, 6] hP hD hS hA (va_runV (As := []) (rest := []) ⟨hx, hb, hml, hown, hts⟩ (c_X1_seeWhoWaits l D I q H.size (xs t.1 0 ((t.1 0) + (1 : Int32)), xa (xa (xa (xa (xa t.2 0 (upd (t.2 0) (t.1 0).toNatClampNeg (1 : Int32))) 1 (upd (t.2 1) (t.1 0).toNatClampNeg mn)) 2 (upd (t.2 2) (t.1 0).toNatClampNeg (0 : Int32))) 3 (upd (t.2 3) (t.1 0).toNatClampNeg mi)) 4 (upd (t.2 4) (t.1 0).toNatClampNeg (-1 : Int32))) (nOk_p1 hn hn2)) (cwV 0 hts gX1_add_X1_seeWhoWaits rfl rfl rfl (by decide +kernel) ⟨Nat.le_of_ble_eq_true rfl, Nat.le_of_ble_eq_true rfl⟩) (xk_preV (wc := wT I q (xs t.1 0 ((t.1 0) + (1 : Int32)), xa (xa (xa (xa (xa t.2 0 (upd (t.2 0) (t.1 0).toNatClampNeg (1 : Int32))) 1 (upd (t.2 1) (t.1 0).toNatClampNeg mn)) 2 (upd (t.2 2) (t.1 0).toNatClampNeg (0 : Int32))) 3 (upd (t.2 3) (t.1 0).toNatClampNeg mi)) 4 (upd (t.2 4) (t.1 0).toNatClampNeg (-1 : Int32)))) (q0 := 0) (ci := 1) hN hP hK hD [0, 1, 2, 3, 4, 5, 6] rfl rfl rfl rfl) rfl rfl hl.1 rfl (lv_room (Nat.le_of_ble_eq_true rfl)) dX1_add_65 ⟨Nat.le_of_ble_eq_true rfl, Nat.le_of_ble_eq_true rfl⟩) rfl rfl rfl (by decide) rfl rfl (fun H locs hP hD hS => ?_)
    generalize hz_2 : s_X1_seeWhoWaits (xs t.1 0 ((t.1 0) + (1 : Int32)), xa (xa (xa (xa (xa t.2 0 (upd (t.2 0) (t.1 0).toNatClampNeg (1 : Int32))) 1 (upd (t.2 1) (t.1 0).toNatClampNeg mn)) 2 (upd (t.2 2) (t.1 0).toNatClampNeg (0 : Int32))) 3 (upd (t.2 3) (t.1 0).toNatClampNeg mi)) 4 (upd (t.2 4) (t.1 0).toNatClampNeg (-1 : Int32))) = z_2 at hP hD
    have hg_2 : g2_X1_add t bg mn mi = z_2 := by rw [← hz_2]; rfl
    refine lv_iload hx hb dX1_add_68 (lv_at hl 0 rfl) ?_
    exact xk_iret (wf := fun z : XT => wT I q z) (u := z_2) (u1 := (s_X1_add t bg mn mi)) hx hb hr rfl hlocks hP hK hD hS (by subst hg_2; unfold r_X1_add; rw [if_neg c_1]) (by subst hg_2; unfold s_X1_add; rw [if_neg c_1]) dX1_add_70

set_option maxHeartbeats 800000 in
set_option maxRecDepth 100000 in
theorem c_X1_copyFrom (l : Launch) (D : va_G) (I : ClassId) (q r : Nat → Nat) (sz : Nat) (t : XT) (o : XT)  : xMv l D [(I, .int)] yX1_copyFrom wsX1_copyFrom { frames := 1, cells := 0, slots := 0, locals := 18 } [.ref (q 2), .ref (r 2)] sz (wT I q t ++ wT I r o) (wT I q o ++ wT I r o) 0 0 := by
  refine xk_start (cc := cX1_copyFrom) (maxL := 2) (ret := none) (Qf := fun A => xQv D [(I, .int)] A (wT I q o ++ wT I r o)) (by decide) rfl (Nat.le_of_ble_eq_true rfl) ?_
  intro p e s m below meth c A H ls hst hAe hsz hl
  obtain ⟨hx, hb, hr, hts, hown, hlocks, hml, hin, hN, hK, hP, hD, hA, hS⟩ := hst
  have hl : lv_has ls 2 [(0, .ref (q 2)), (1, .ref (r 2))] := hl
  have hP : va_P D vwCl (wT I q t ++ wT I r o) H := hP
  have hinX1 : ∀ w ∈ u_ws RX1 TX1 12, w ∈ wsX1_copyFrom := by decide +kernel
  have w_1 := hts (.fieldLink RX1 9 "BridgeBells$Travellers" "number" "I") (by decide +kernel)
  have w_2 := hts (.fieldLink RX1 15 "BridgeBells$Travellers" "passed" "I") (by decide +kernel)
  have w_3 := hts (.fieldLink RX1 18 "BridgeBells$Travellers" "bargesWaiting" "I") (by decide +kernel)
  have w_4 := hts (.fieldLink RX1 21 "BridgeBells$Travellers" "cartsWaiting" "I") (by decide +kernel)
  have w_5 := hts (.fieldLink RX1 24 "BridgeBells$Travellers" "barge" "[I") (by decide +kernel)
  have w_6 := hts (.methodLink RX1 49 arraycopyName) (by decide +kernel)
  have w_7 := hts (.native arraycopyName) (by decide +kernel)
  have w_8 := hts (.static arraycopyName) (by decide +kernel)
  have w_9 := hts (.initialized "java/lang/System") (by decide +kernel)
  have w_10 := hts (.fieldLink RX1 28 "BridgeBells$Travellers" "needs" "[I") (by decide +kernel)
  have w_11 := hts (.fieldLink RX1 31 "BridgeBells$Travellers" "state" "[I") (by decide +kernel)
  have w_12 := hts (.fieldLink RX1 34 "BridgeBells$Travellers" "came" "[I") (by decide +kernel)
  have w_13 := hts (.fieldLink RX1 37 "BridgeBells$Travellers" "passedIn" "[I") (by decide +kernel)
  have w_14 := hts (.fieldLink RX1 40 "BridgeBells$Travellers" "waitEnd" "[I") (by decide +kernel)
  have w_15 := hts (.fieldLink RX1 43 "BridgeBells$Travellers" "firstBarge" "I") (by decide +kernel)
  have w_16 := hts (.fieldLink RX1 46 "BridgeBells$Travellers" "firstCart" "I") (by decide +kernel)
  refine lv_aload_n hx hb dX1_copyFrom_0 rfl (lv_at hl 0 rfl) ?_
  refine lv_aload_n hx hb dX1_copyFrom_1 rfl (lv_at hl 1 rfl) ?_
  refine va_get (D := D) (ci := 1) (v := .int (o.1 0)) (C := RX1) (T := TX1) (N := 12) hx hb hts hinX1 hown hK hP 7 rfl rfl 0 (by decide) w_1 (fun _ h9 => h9) rfl dX1_copyFrom_2 ?_
  refine va_put (D := D) (ci := 1) (v := .int (o.1 0)) (ty := tyX1 0) (C := RX1) (T := TX1) (N := 12) hx hb hts hinX1 tyX1 tyX1_ok nmX1 hown hK hP hD hS 0 rfl rfl 0 (by decide) w_1 (fun _ h9 => h9) rfl (tyX1_ok 0 (by decide)) rfl rfl (Nat.le_of_ble_eq_true rfl) dX1_copyFrom_5 (fun H locs hP hD hS => ?_)
  have hP : va_P D vwCl (wT I q (xs t.1 0 (o.1 0), t.2) ++ wT I r o) H := hP
  have hD : va_D A (wT I q (xs t.1 0 (o.1 0), t.2) ++ wT I r o) := hD
  refine lv_aload_n hx hb dX1_copyFrom_8 rfl (lv_at hl 0 rfl) ?_
  refine lv_aload_n hx hb dX1_copyFrom_9 rfl (lv_at hl 1 rfl) ?_
  refine va_get (D := D) (ci := 1) (v := .int (o.1 1)) (C := RX1) (T := TX1) (N := 12) hx hb hts hinX1 hown hK hP 7 rfl rfl 1 (by decide) w_2 (fun _ h9 => h9) rfl dX1_copyFrom_10 ?_
  refine va_put (D := D) (ci := 1) (v := .int (o.1 1)) (ty := tyX1 1) (C := RX1) (T := TX1) (N := 12) hx hb hts hinX1 tyX1 tyX1_ok nmX1 hown hK hP hD hS 0 rfl rfl 1 (by decide) w_2 (fun _ h9 => h9) rfl (tyX1_ok 1 (by decide)) rfl rfl (Nat.le_of_ble_eq_true rfl) dX1_copyFrom_13 (fun H locs hP hD hS => ?_)
  have hP : va_P D vwCl (wT I q (xs (xs t.1 0 (o.1 0)) 1 (o.1 1), t.2) ++ wT I r o) H := hP
  have hD : va_D A (wT I q (xs (xs t.1 0 (o.1 0)) 1 (o.1 1), t.2) ++ wT I r o) := hD
  refine lv_aload_n hx hb dX1_copyFrom_16 rfl (lv_at hl 0 rfl) ?_
  refine lv_aload_n hx hb dX1_copyFrom_17 rfl (lv_at hl 1 rfl) ?_
  refine va_get (D := D) (ci := 1) (v := .int (o.1 2)) (C := RX1) (T := TX1) (N := 12) hx hb hts hinX1 hown hK hP 7 rfl rfl 2 (by decide) w_3 (fun _ h9 => h9) rfl dX1_copyFrom_18 ?_
  refine va_put (D := D) (ci := 1) (v := .int (o.1 2)) (ty := tyX1 2) (C := RX1) (T := TX1) (N := 12) hx hb hts hinX1 tyX1 tyX1_ok nmX1 hown hK hP hD hS 0 rfl rfl 2 (by decide) w_3 (fun _ h9 => h9) rfl (tyX1_ok 2 (by decide)) rfl rfl (Nat.le_of_ble_eq_true rfl) dX1_copyFrom_21 (fun H locs hP hD hS => ?_)
  have hP : va_P D vwCl (wT I q (xs (xs (xs t.1 0 (o.1 0)) 1 (o.1 1)) 2 (o.1 2), t.2) ++ wT I r o) H := hP
  have hD : va_D A (wT I q (xs (xs (xs t.1 0 (o.1 0)) 1 (o.1 1)) 2 (o.1 2), t.2) ++ wT I r o) := hD
  refine lv_aload_n hx hb dX1_copyFrom_24 rfl (lv_at hl 0 rfl) ?_
  refine lv_aload_n hx hb dX1_copyFrom_25 rfl (lv_at hl 1 rfl) ?_
  refine va_get (D := D) (ci := 1) (v := .int (o.1 3)) (C := RX1) (T := TX1) (N := 12) hx hb hts hinX1 hown hK hP 7 rfl rfl 3 (by decide) w_4 (fun _ h9 => h9) rfl dX1_copyFrom_26 ?_
  refine va_put (D := D) (ci := 1) (v := .int (o.1 3)) (ty := tyX1 3) (C := RX1) (T := TX1) (N := 12) hx hb hts hinX1 tyX1 tyX1_ok nmX1 hown hK hP hD hS 0 rfl rfl 3 (by decide) w_4 (fun _ h9 => h9) rfl (tyX1_ok 3 (by decide)) rfl rfl (Nat.le_of_ble_eq_true rfl) dX1_copyFrom_29 (fun H locs hP hD hS => ?_)
  have hP : va_P D vwCl (wT I q (xs (xs (xs (xs t.1 0 (o.1 0)) 1 (o.1 1)) 2 (o.1 2)) 3 (o.1 3), t.2) ++ wT I r o) H := hP
  have hD : va_D A (wT I q (xs (xs (xs (xs t.1 0 (o.1 0)) 1 (o.1 1)) 2 (o.1 2)) 3 (o.1 3), t.2) ++ wT I r o) := hD
  refine lv_aload_n hx hb dX1_copyFrom_32 rfl (lv_at hl 1 rfl) ?_
  refine va_get (D := D) (ci := 1) (v := .ref (r 3)) (C := RX1) (T := TX1) (N := 12) hx hb hts hinX1 hown hK hP 7 rfl rfl 4 (by decide) w_5 (fun _ h9 => h9) rfl dX1_copyFrom_33 ?_
  refine lv_iconst (v := (0 : Int32)) hx hb dX1_copyFrom_36 (by decide) ?_
  refine lv_aload_n hx hb dX1_copyFrom_37 rfl (lv_at hl 0 rfl) ?_
  refine va_get (D := D) (ci := 1) (v := .ref (q 3)) (C := RX1) (T := TX1) (N := 12) hx hb hts hinX1 hown hK hP 0 rfl rfl 4 (by decide) w_5 (fun _ h9 => h9) rfl dX1_copyFrom_38 ?_
  refine lv_iconst (v := (0 : Int32)) hx hb dX1_copyFrom_41 (by decide) ?_
  refine lv_bipush (v := (40 : Int32)) hx hb dX1_copyFrom_42 (by decide) ?_
  refine va_copyi hx hb (hml.trans hl.1.symm) hown w_6 w_7 w_8 w_9 hK hP hD hS 8 1 0 0 rfl rfl rfl rfl rfl (by decide) (by decide) (by decide) (by decide) (by decide) (fun _ _ => rfl) (Nat.le_of_ble_eq_true rfl) (Nat.le_of_ble_eq_true rfl) dX1_copyFrom_44 (fun H locs hP hD hS => ?_)
  have hP := xk_arrP (g := (o.2 0)) 1 hP rfl (cpy_all (by decide))
  have hD := xk_arrD (g := (o.2 0)) 1 hD rfl
  have hP : va_P D vwCl (wT I q (xs (xs (xs (xs t.1 0 (o.1 0)) 1 (o.1 1)) 2 (o.1 2)) 3 (o.1 3), xa t.2 0 (o.2 0)) ++ wT I r o) H := hP
  have hD : va_D A (wT I q (xs (xs (xs (xs t.1 0 (o.1 0)) 1 (o.1 1)) 2 (o.1 2)) 3 (o.1 3), xa t.2 0 (o.2 0)) ++ wT I r o) := hD
  refine lv_aload_n hx hb dX1_copyFrom_47 rfl (lv_at hl 1 rfl) ?_
  refine va_get (D := D) (ci := 1) (v := .ref (r 4)) (C := RX1) (T := TX1) (N := 12) hx hb hts hinX1 hown hK hP 7 rfl rfl 5 (by decide) w_10 (fun _ h9 => h9) rfl dX1_copyFrom_48 ?_
  refine lv_iconst (v := (0 : Int32)) hx hb dX1_copyFrom_51 (by decide) ?_
  refine lv_aload_n hx hb dX1_copyFrom_52 rfl (lv_at hl 0 rfl) ?_
  refine va_get (D := D) (ci := 1) (v := .ref (q 4)) (C := RX1) (T := TX1) (N := 12) hx hb hts hinX1 hown hK hP 0 rfl rfl 5 (by decide) w_10 (fun _ h9 => h9) rfl dX1_copyFrom_53 ?_
  refine lv_iconst (v := (0 : Int32)) hx hb dX1_copyFrom_56 (by decide) ?_
  refine lv_bipush (v := (40 : Int32)) hx hb dX1_copyFrom_57 (by decide) ?_
  refine va_copyi hx hb (hml.trans hl.1.symm) hown w_6 w_7 w_8 w_9 hK hP hD hS 9 2 0 0 rfl rfl rfl rfl rfl (by decide) (by decide) (by decide) (by decide) (by decide) (fun _ _ => rfl) (Nat.le_of_ble_eq_true rfl) (Nat.le_of_ble_eq_true rfl) dX1_copyFrom_59 (fun H locs hP hD hS => ?_)
  have hP := xk_arrP (g := (o.2 1)) 2 hP rfl (cpy_all (by decide))
  have hD := xk_arrD (g := (o.2 1)) 2 hD rfl
  have hP : va_P D vwCl (wT I q (xs (xs (xs (xs t.1 0 (o.1 0)) 1 (o.1 1)) 2 (o.1 2)) 3 (o.1 3), xa (xa t.2 0 (o.2 0)) 1 (o.2 1)) ++ wT I r o) H := hP
  have hD : va_D A (wT I q (xs (xs (xs (xs t.1 0 (o.1 0)) 1 (o.1 1)) 2 (o.1 2)) 3 (o.1 3), xa (xa t.2 0 (o.2 0)) 1 (o.2 1)) ++ wT I r o) := hD
  refine lv_aload_n hx hb dX1_copyFrom_62 rfl (lv_at hl 1 rfl) ?_
  refine va_get (D := D) (ci := 1) (v := .ref (r 5)) (C := RX1) (T := TX1) (N := 12) hx hb hts hinX1 hown hK hP 7 rfl rfl 6 (by decide) w_11 (fun _ h9 => h9) rfl dX1_copyFrom_63 ?_
  refine lv_iconst (v := (0 : Int32)) hx hb dX1_copyFrom_66 (by decide) ?_
  refine lv_aload_n hx hb dX1_copyFrom_67 rfl (lv_at hl 0 rfl) ?_
  refine va_get (D := D) (ci := 1) (v := .ref (q 5)) (C := RX1) (T := TX1) (N := 12) hx hb hts hinX1 hown hK hP 0 rfl rfl 6 (by decide) w_11 (fun _ h9 => h9) rfl dX1_copyFrom_68 ?_
  refine lv_iconst (v := (0 : Int32)) hx hb dX1_copyFrom_71 (by decide) ?_
  refine lv_bipush (v := (40 : Int32)) hx hb dX1_copyFrom_72 (by decide) ?_
  refine va_copyi hx hb (hml.trans hl.1.symm) hown w_6 w_7 w_8 w_9 hK hP hD hS 10 3 0 0 rfl rfl rfl rfl rfl (by decide) (by decide) (by decide) (by decide) (by decide) (fun _ _ => rfl) (Nat.le_of_ble_eq_true rfl) (Nat.le_of_ble_eq_true rfl) dX1_copyFrom_74 (fun H locs hP hD hS => ?_)
  have hP := xk_arrP (g := (o.2 2)) 3 hP rfl (cpy_all (by decide))
  have hD := xk_arrD (g := (o.2 2)) 3 hD rfl
  have hP : va_P D vwCl (wT I q (xs (xs (xs (xs t.1 0 (o.1 0)) 1 (o.1 1)) 2 (o.1 2)) 3 (o.1 3), xa (xa (xa t.2 0 (o.2 0)) 1 (o.2 1)) 2 (o.2 2)) ++ wT I r o) H := hP
  have hD : va_D A (wT I q (xs (xs (xs (xs t.1 0 (o.1 0)) 1 (o.1 1)) 2 (o.1 2)) 3 (o.1 3), xa (xa (xa t.2 0 (o.2 0)) 1 (o.2 1)) 2 (o.2 2)) ++ wT I r o) := hD
  refine lv_aload_n hx hb dX1_copyFrom_77 rfl (lv_at hl 1 rfl) ?_
  refine va_get (D := D) (ci := 1) (v := .ref (r 6)) (C := RX1) (T := TX1) (N := 12) hx hb hts hinX1 hown hK hP 7 rfl rfl 7 (by decide) w_12 (fun _ h9 => h9) rfl dX1_copyFrom_78 ?_
  refine lv_iconst (v := (0 : Int32)) hx hb dX1_copyFrom_81 (by decide) ?_
  refine lv_aload_n hx hb dX1_copyFrom_82 rfl (lv_at hl 0 rfl) ?_
  refine va_get (D := D) (ci := 1) (v := .ref (q 6)) (C := RX1) (T := TX1) (N := 12) hx hb hts hinX1 hown hK hP 0 rfl rfl 7 (by decide) w_12 (fun _ h9 => h9) rfl dX1_copyFrom_83 ?_
  refine lv_iconst (v := (0 : Int32)) hx hb dX1_copyFrom_86 (by decide) ?_
  refine lv_bipush (v := (40 : Int32)) hx hb dX1_copyFrom_87 (by decide) ?_
  refine va_copyi hx hb (hml.trans hl.1.symm) hown w_6 w_7 w_8 w_9 hK hP hD hS 11 4 0 0 rfl rfl rfl rfl rfl (by decide) (by decide) (by decide) (by decide) (by decide) (fun _ _ => rfl) (Nat.le_of_ble_eq_true rfl) (Nat.le_of_ble_eq_true rfl) dX1_copyFrom_89 (fun H locs hP hD hS => ?_)
  have hP := xk_arrP (g := (o.2 3)) 4 hP rfl (cpy_all (by decide))
  have hD := xk_arrD (g := (o.2 3)) 4 hD rfl
  have hP : va_P D vwCl (wT I q (xs (xs (xs (xs t.1 0 (o.1 0)) 1 (o.1 1)) 2 (o.1 2)) 3 (o.1 3), xa (xa (xa (xa t.2 0 (o.2 0)) 1 (o.2 1)) 2 (o.2 2)) 3 (o.2 3)) ++ wT I r o) H := hP
  have hD : va_D A (wT I q (xs (xs (xs (xs t.1 0 (o.1 0)) 1 (o.1 1)) 2 (o.1 2)) 3 (o.1 3), xa (xa (xa (xa t.2 0 (o.2 0)) 1 (o.2 1)) 2 (o.2 2)) 3 (o.2 3)) ++ wT I r o) := hD
  refine lv_aload_n hx hb dX1_copyFrom_92 rfl (lv_at hl 1 rfl) ?_
  refine va_get (D := D) (ci := 1) (v := .ref (r 7)) (C := RX1) (T := TX1) (N := 12) hx hb hts hinX1 hown hK hP 7 rfl rfl 8 (by decide) w_13 (fun _ h9 => h9) rfl dX1_copyFrom_93 ?_
  refine lv_iconst (v := (0 : Int32)) hx hb dX1_copyFrom_96 (by decide) ?_
  refine lv_aload_n hx hb dX1_copyFrom_97 rfl (lv_at hl 0 rfl) ?_
  refine va_get (D := D) (ci := 1) (v := .ref (q 7)) (C := RX1) (T := TX1) (N := 12) hx hb hts hinX1 hown hK hP 0 rfl rfl 8 (by decide) w_13 (fun _ h9 => h9) rfl dX1_copyFrom_98 ?_
  refine lv_iconst (v := (0 : Int32)) hx hb dX1_copyFrom_101 (by decide) ?_
  refine lv_bipush (v := (40 : Int32)) hx hb dX1_copyFrom_102 (by decide) ?_
  refine va_copyi hx hb (hml.trans hl.1.symm) hown w_6 w_7 w_8 w_9 hK hP hD hS 12 5 0 0 rfl rfl rfl rfl rfl (by decide) (by decide) (by decide) (by decide) (by decide) (fun _ _ => rfl) (Nat.le_of_ble_eq_true rfl) (Nat.le_of_ble_eq_true rfl) dX1_copyFrom_104 (fun H locs hP hD hS => ?_)
  have hP := xk_arrP (g := (o.2 4)) 5 hP rfl (cpy_all (by decide))
  have hD := xk_arrD (g := (o.2 4)) 5 hD rfl
  have hP : va_P D vwCl (wT I q (xs (xs (xs (xs t.1 0 (o.1 0)) 1 (o.1 1)) 2 (o.1 2)) 3 (o.1 3), xa (xa (xa (xa (xa t.2 0 (o.2 0)) 1 (o.2 1)) 2 (o.2 2)) 3 (o.2 3)) 4 (o.2 4)) ++ wT I r o) H := hP
  have hD : va_D A (wT I q (xs (xs (xs (xs t.1 0 (o.1 0)) 1 (o.1 1)) 2 (o.1 2)) 3 (o.1 3), xa (xa (xa (xa (xa t.2 0 (o.2 0)) 1 (o.2 1)) 2 (o.2 2)) 3 (o.2 3)) 4 (o.2 4)) ++ wT I r o) := hD
  refine lv_aload_n hx hb dX1_copyFrom_107 rfl (lv_at hl 1 rfl) ?_
  refine va_get (D := D) (ci := 1) (v := .ref (r 8)) (C := RX1) (T := TX1) (N := 12) hx hb hts hinX1 hown hK hP 7 rfl rfl 9 (by decide) w_14 (fun _ h9 => h9) rfl dX1_copyFrom_108 ?_
  refine lv_iconst (v := (0 : Int32)) hx hb dX1_copyFrom_111 (by decide) ?_
  refine lv_aload_n hx hb dX1_copyFrom_112 rfl (lv_at hl 0 rfl) ?_
  refine va_get (D := D) (ci := 1) (v := .ref (q 8)) (C := RX1) (T := TX1) (N := 12) hx hb hts hinX1 hown hK hP 0 rfl rfl 9 (by decide) w_14 (fun _ h9 => h9) rfl dX1_copyFrom_113 ?_
  refine lv_iconst (v := (0 : Int32)) hx hb dX1_copyFrom_116 (by decide) ?_
  refine lv_bipush (v := (40 : Int32)) hx hb dX1_copyFrom_117 (by decide) ?_
  refine va_copyi hx hb (hml.trans hl.1.symm) hown w_6 w_7 w_8 w_9 hK hP hD hS 13 6 0 0 rfl rfl rfl rfl rfl (by decide) (by decide) (by decide) (by decide) (by decide) (fun _ _ => rfl) (Nat.le_of_ble_eq_true rfl) (Nat.le_of_ble_eq_true rfl) dX1_copyFrom_119 (fun H locs hP hD hS => ?_)
  have hP := xk_arrP (g := (o.2 5)) 6 hP rfl (cpy_all (by decide))
  have hD := xk_arrD (g := (o.2 5)) 6 hD rfl
  have hP : va_P D vwCl (wT I q (xs (xs (xs (xs t.1 0 (o.1 0)) 1 (o.1 1)) 2 (o.1 2)) 3 (o.1 3), xa (xa (xa (xa (xa (xa t.2 0 (o.2 0)) 1 (o.2 1)) 2 (o.2 2)) 3 (o.2 3)) 4 (o.2 4)) 5 (o.2 5)) ++ wT I r o) H := hP
  have hD : va_D A (wT I q (xs (xs (xs (xs t.1 0 (o.1 0)) 1 (o.1 1)) 2 (o.1 2)) 3 (o.1 3), xa (xa (xa (xa (xa (xa t.2 0 (o.2 0)) 1 (o.2 1)) 2 (o.2 2)) 3 (o.2 3)) 4 (o.2 4)) 5 (o.2 5)) ++ wT I r o) := hD
  refine lv_aload_n hx hb dX1_copyFrom_122 rfl (lv_at hl 0 rfl) ?_
  refine lv_aload_n hx hb dX1_copyFrom_123 rfl (lv_at hl 1 rfl) ?_
  refine va_get (D := D) (ci := 1) (v := .int (o.1 4)) (C := RX1) (T := TX1) (N := 12) hx hb hts hinX1 hown hK hP 7 rfl rfl 10 (by decide) w_15 (fun _ h9 => h9) rfl dX1_copyFrom_124 ?_
  refine va_put (D := D) (ci := 1) (v := .int (o.1 4)) (ty := tyX1 10) (C := RX1) (T := TX1) (N := 12) hx hb hts hinX1 tyX1 tyX1_ok nmX1 hown hK hP hD hS 0 rfl rfl 10 (by decide) w_15 (fun _ h9 => h9) rfl (tyX1_ok 10 (by decide)) rfl rfl (Nat.le_of_ble_eq_true rfl) dX1_copyFrom_127 (fun H locs hP hD hS => ?_)
  have hP : va_P D vwCl (wT I q (xs (xs (xs (xs (xs t.1 0 (o.1 0)) 1 (o.1 1)) 2 (o.1 2)) 3 (o.1 3)) 4 (o.1 4), xa (xa (xa (xa (xa (xa t.2 0 (o.2 0)) 1 (o.2 1)) 2 (o.2 2)) 3 (o.2 3)) 4 (o.2 4)) 5 (o.2 5)) ++ wT I r o) H := hP
  have hD : va_D A (wT I q (xs (xs (xs (xs (xs t.1 0 (o.1 0)) 1 (o.1 1)) 2 (o.1 2)) 3 (o.1 3)) 4 (o.1 4), xa (xa (xa (xa (xa (xa t.2 0 (o.2 0)) 1 (o.2 1)) 2 (o.2 2)) 3 (o.2 3)) 4 (o.2 4)) 5 (o.2 5)) ++ wT I r o) := hD
  refine lv_aload_n hx hb dX1_copyFrom_130 rfl (lv_at hl 0 rfl) ?_
  refine lv_aload_n hx hb dX1_copyFrom_131 rfl (lv_at hl 1 rfl) ?_
  refine va_get (D := D) (ci := 1) (v := .int (o.1 5)) (C := RX1) (T := TX1) (N := 12) hx hb hts hinX1 hown hK hP 7 rfl rfl 11 (by decide) w_16 (fun _ h9 => h9) rfl dX1_copyFrom_132 ?_
  refine va_put (D := D) (ci := 1) (v := .int (o.1 5)) (ty := tyX1 11) (C := RX1) (T := TX1) (N := 12) hx hb hts hinX1 tyX1 tyX1_ok nmX1 hown hK hP hD hS 0 rfl rfl 11 (by decide) w_16 (fun _ h9 => h9) rfl (tyX1_ok 11 (by decide)) rfl rfl (Nat.le_of_ble_eq_true rfl) dX1_copyFrom_135 (fun H locs hP hD hS => ?_)
  have hP : va_P D vwCl (wT I q (xs (xs (xs (xs (xs (xs t.1 0 (o.1 0)) 1 (o.1 1)) 2 (o.1 2)) 3 (o.1 3)) 4 (o.1 4)) 5 (o.1 5), xa (xa (xa (xa (xa (xa t.2 0 (o.2 0)) 1 (o.2 1)) 2 (o.2 2)) 3 (o.2 3)) 4 (o.2 4)) 5 (o.2 5)) ++ wT I r o) H := hP
  have hD : va_D A (wT I q (xs (xs (xs (xs (xs (xs t.1 0 (o.1 0)) 1 (o.1 1)) 2 (o.1 2)) 3 (o.1 3)) 4 (o.1 4)) 5 (o.1 5), xa (xa (xa (xa (xa (xa t.2 0 (o.2 0)) 1 (o.2 1)) 2 (o.2 2)) 3 (o.2 3)) 4 (o.2 4)) 5 (o.2 5)) ++ wT I r o) := hD
  have hP : va_P D vwCl (wT I q o ++ wT I r o) H := hP
  have hD : va_D A (wT I q o ++ wT I r o) := hD
  exact xk_vret (wf := fun z : XT × XT => wT I q z.1 ++ wT I r z.2) (u := (o, o)) (u1 := (o, o)) hx hb hr hlocks hP hK hD hS rfl dX1_copyFrom_138
end
section
theorem has_in {t : XT} {k : Int32} (hn : nOk (t.1 0)) (h : ¬ r_X1_has t k = 0) : 0 ≤ k.toInt ∧ k.toInt < (t.1 0).toInt := by
  unfold r_X1_has at h
  have h0 : (0 : Int32).toInt = 0 := by decide
  by_cases h1 : k < 0
  · rw [if_pos h1] at h
    exact absurd rfl h
  · rw [if_neg h1] at h
    by_cases h2 : t.1 0 ≤ k
    · rw [if_pos h2] at h
      exact absurd rfl h
    · rw [Int32.lt_iff_toInt_lt] at h1
      rw [Int32.le_iff_toInt_le] at h2
      omega
theorem has_v {t : XT} {k : Int32} (hn : nOk (t.1 0)) (h : ¬ r_X1_has t k = 0) : vp_in k 40 := vin40 (has_in hn h).1 (by have := (has_in hn h).2; have := hn.2; omega)
theorem sw_le (g : Nat → Nat → Int32) (j : Nat) (h2 : j ≠ 2) (h3 : j ≠ 3) (h4 : j ≠ 4) (h5 : j ≠ 5) : ∀ (k : Nat) (f : Nat → Int32), sw g k f j = f j
  | 0, f => rfl
  | k + 1, f => by
    show sw g k (sw_step g k f) j = f j
    rw [sw_le g j h2 h3 h4 h5 k]
    unfold sw_step
    split
    · split
      · rw [xs_ne h4, xs_ne h2]
      · rw [xs_ne h5, xs_ne h3]
    · rfl
theorem see_n (t : XT) : (s_X1_seeWhoWaits t).1 0 = t.1 0 := by
  show sw t.2 _ _ 0 = t.1 0
  rw [sw_le t.2 0 (by decide) (by decide) (by decide) (by decide)]
  rfl
theorem endWait_n (t : XT) (k st mi : Int32) : (s_X1_endWait t k st mi).1 0 = t.1 0 := by
  unfold s_X1_endWait
  exact see_n _
theorem endPassage_n (t : XT) (k mi : Int32) : (s_X1_endPassage t k mi).1 0 = t.1 0 := rfl

def r_J9_floorMod_7cf53 (x y : Int32) : Int32 :=
  if 0 ≤ (x ^^^ y) then
    (x - x / y * y)
  else
    if (x - x / y * y) = 0 then
      (x - x / y * y)
    else
      ((x - x / y * y) + y)
set_option maxHeartbeats 800000 in
set_option maxRecDepth 100000 in
theorem c_J9_floorMod_7cf53 (l : Launch) (D : va_G) (I : ClassId) (sz : Nat) (x y : Int32) (hy : ¬ y = 0) : xMi l D [(I, .int)] yJ9_floorMod_7cf53 wsJ9_floorMod_7cf53 { frames := 0, cells := 0, slots := 0, locals := 0 } [.int x, .int y] sz [] (r_J9_floorMod_7cf53 x y) [] 0 0 := by
  refine xk_startF (cc := cJ9_floorMod_7cf53) (maxL := 3) (ret := (some .int)) (Qf := fun A => xQi D [(I, .int)] A (r_J9_floorMod_7cf53 x y) []) (by decide +kernel) rfl (Nat.le_of_ble_eq_true rfl) ?_
  intro p e s m below meth c A H ls hst hAe hsz hl
  obtain ⟨hx, hb, hr, hts, hown, hlocks, hml, hin, hN, hK, hP, hD, hA, hS⟩ := hst
  have hl : lv_has ls 3 [(0, .int x), (1, .int y)] := hl
  refine lv_iload_n hx hb dJ9_floorMod_7cf53_0 rfl (lv_at hl 0 rfl) ?_
  refine lv_iload_n hx hb dJ9_floorMod_7cf53_1 rfl (lv_at hl 1 rfl) ?_
  refine lv_irem hx hb dJ9_floorMod_7cf53_2 hy ?_
  refine lv_istore_n (lv' := [(2, .int (x - x / y * y)), (0, .int x), (1, .int y)]) hx hb dJ9_floorMod_7cf53_3 rfl hl (by decide) rfl (fun ls hl => ?_)
  refine lv_iload_n hx hb dJ9_floorMod_7cf53_4 rfl (lv_at hl 1 rfl) ?_
  refine lv_iload_n hx hb dJ9_floorMod_7cf53_5 rfl (lv_at hl 2 rfl) ?_
  refine lv_ixor hx hb dJ9_floorMod_7cf53_6 ?_
  refine lv_if_ge (tgt := 18) hx hb dJ9_floorMod_7cf53_7 (by decide) (fun c_1 => ?_) (fun c_1 => ?_)
  · refine lv_iload_n hx hb dJ9_floorMod_7cf53_18 rfl (lv_at hl 0 rfl) ?_
    exact xk_iret (wf := fun _ : Unit => ([] : va_W)) (u := ()) hx hb hr rfl hlocks hP hK hD hS (by unfold r_J9_floorMod_7cf53; rw [if_pos c_1]) rfl dJ9_floorMod_7cf53_19
  · refine lv_iload_n hx hb dJ9_floorMod_7cf53_10 rfl (lv_at hl 0 rfl) ?_
    refine lv_if_eq (tgt := 18) hx hb dJ9_floorMod_7cf53_11 (by decide) (fun c_2 => ?_) (fun c_2 => ?_)
    · refine lv_iload_n hx hb dJ9_floorMod_7cf53_18 rfl (lv_at hl 0 rfl) ?_
      exact xk_iret (wf := fun _ : Unit => ([] : va_W)) (u := ()) hx hb hr rfl hlocks hP hK hD hS (by unfold r_J9_floorMod_7cf53; rw [if_neg c_1, if_pos c_2]) rfl dJ9_floorMod_7cf53_19
    · refine lv_iload_n hx hb dJ9_floorMod_7cf53_14 rfl (lv_at hl 0 rfl) ?_
      refine lv_iload_n hx hb dJ9_floorMod_7cf53_15 rfl (lv_at hl 2 rfl) ?_
      refine lv_iadd hx hb dJ9_floorMod_7cf53_16 ?_
      exact xk_iret (wf := fun _ : Unit => ([] : va_W)) (u := ()) hx hb hr rfl hlocks hP hK hD hS (by unfold r_J9_floorMod_7cf53; rw [if_neg c_1, if_neg c_2]) rfl dJ9_floorMod_7cf53_17

def r_X0_speedTowards (b : XBr) (up : Int32) : Int32 :=
  if up = 0 then
    if (b.1 3) < (5 : Int32) then
      ((6 : Int32) - ((b.1 2) / (6 : Int32)))
    else
      (imx (1 : Int32) (((6 : Int32) - ((b.1 2) / (6 : Int32))) / (2 : Int32)))
  else
    if (b.1 3) < (5 : Int32) then
      ((1 : Int32) + ((b.1 2) / (6 : Int32)))
    else
      (imx (1 : Int32) (((1 : Int32) + ((b.1 2) / (6 : Int32))) / (2 : Int32)))
set_option maxHeartbeats 800000 in
set_option maxRecDepth 100000 in
theorem c_X0_speedTowards (l : Launch) (D : va_G) (I : ClassId) (q : Nat → Nat) (sz : Nat) (b : XBr) (up : Int32)  : xMi l D [(I, .int)] yX0_speedTowards wsX0_speedTowards { frames := 1, cells := 0, slots := 0, locals := 13 } [.ref (q 0), .int up] sz (wB I q b) (r_X0_speedTowards b up) (wB I q b) 0 0 := by
  refine xk_start (cc := cX0_speedTowards) (maxL := 4) (ret := (some .int)) (Qf := fun A => xQi D [(I, .int)] A (r_X0_speedTowards b up) (wB I q b)) (by decide) rfl (Nat.le_of_ble_eq_true rfl) ?_
  intro p e s m below meth c A H ls hst hAe hsz hl
  obtain ⟨hx, hb, hr, hts, hown, hlocks, hml, hin, hN, hK, hP, hD, hA, hS⟩ := hst
  have hl : lv_has ls 4 [(0, .ref (q 0)), (1, .int up)] := hl
  have hP : va_P D vwCl (wB I q b) H := hP
  have hinX0 : ∀ w ∈ u_ws RX0 TX0 11, w ∈ wsX0_speedTowards := by decide +kernel
  have w_1 := hts (.fieldLink RX0 18 "BridgeBells$Bridge" "counterpoise" "I") (by decide +kernel)
  have w_2 := hts (.fieldLink RX0 21 "BridgeBells$Bridge" "ice" "I") (by decide +kernel)
  have w_3 := hts (.methodLink RX0 84 Lib.Math.max.name) (by decide +kernel)
  have w_4 := hts (.static Lib.Math.max.name) (by decide +kernel)
  have w_5 := hts (.initialized "java/lang/Math") (by decide +kernel)
  have w_6 := hts (.code Lib.Math.max.name Lib.Math.max.code 2 (some .int)) (by decide +kernel)
  refine lv_aload_n hx hb dX0_speedTowards_0 rfl (lv_at hl 0 rfl) ?_
  refine va_get (D := D) (ci := 0) (v := .int (b.1 2)) (C := RX0) (T := TX0) (N := 11) hx hb hts hinX0 hown hK hP 0 rfl rfl 2 (by decide) w_1 (fun _ h9 => h9) rfl dX0_speedTowards_1 ?_
  refine lv_bipush (v := (6 : Int32)) hx hb dX0_speedTowards_4 (by decide) ?_
  refine lv_idiv hx hb dX0_speedTowards_6 (by decide) ?_
  refine lv_istore_n (lv' := [(2, .int ((b.1 2) / (6 : Int32))), (0, .ref (q 0)), (1, .int up)]) hx hb dX0_speedTowards_7 rfl hl (by decide) rfl (fun ls hl => ?_)
  refine lv_iload_n hx hb dX0_speedTowards_8 rfl (lv_at hl 2 rfl) ?_
  refine lv_if_eq (tgt := 18) hx hb dX0_speedTowards_9 (by decide) (fun c_1 => ?_) (fun c_1 => ?_)
  · refine lv_bipush (v := (6 : Int32)) hx hb dX0_speedTowards_18 (by decide) ?_
    refine lv_iload_n hx hb dX0_speedTowards_20 rfl (lv_at hl 0 rfl) ?_
    refine lv_isub hx hb dX0_speedTowards_21 ?_
    refine lv_istore_n (lv' := [(3, .int ((6 : Int32) - ((b.1 2) / (6 : Int32)))), (2, .int ((b.1 2) / (6 : Int32))), (0, .ref (q 0)), (1, .int up)]) hx hb dX0_speedTowards_22 rfl hl (by decide) rfl (fun ls hl => ?_)
    refine lv_aload_n hx hb dX0_speedTowards_23 rfl (lv_at hl 2 rfl) ?_
    refine va_get (D := D) (ci := 0) (v := .int (b.1 3)) (C := RX0) (T := TX0) (N := 11) hx hb hts hinX0 hown hK hP 0 rfl rfl 3 (by decide) w_2 (fun _ h9 => h9) rfl dX0_speedTowards_24 ?_
    refine lv_iconst (v := (5 : Int32)) hx hb dX0_speedTowards_27 (by decide) ?_
    refine lv_icmp_lt (tgt := 41) hx hb dX0_speedTowards_28 (by decide) (fun c_2 => ?_) (fun c_2 => ?_)
    · refine lv_iload_n hx hb dX0_speedTowards_41 rfl (lv_at hl 0 rfl) ?_
      exact xk_iret (wf := fun z : XBr => wB I q z) (u := b) (u1 := b) hx hb hr rfl hlocks hP hK hD hS (by unfold r_X0_speedTowards; rw [if_pos c_1, if_pos c_2]) rfl dX0_speedTowards_42
    · refine lv_iconst (v := (1 : Int32)) hx hb dX0_speedTowards_31 (by decide) ?_
      refine lv_iload_n hx hb dX0_speedTowards_32 rfl (lv_at hl 0 rfl) ?_
      refine lv_iconst (v := (2 : Int32)) hx hb dX0_speedTowards_33 (by decide) ?_
      refine lv_idiv hx hb dX0_speedTowards_34 (by decide) ?_
      refine va_mmax hx hb (hml.trans hl.1.symm) hown w_3 w_4 w_5 w_6 (Nat.le_of_ble_eq_true rfl) (Nat.le_of_ble_eq_true rfl) (Nat.le_of_ble_eq_true rfl) (Nat.le_of_ble_eq_true rfl) dX0_speedTowards_35 ?_
      refine W.eq (g2 := F0 m 38 ls [.int (imx (1 : Int32) (((6 : Int32) - ((b.1 2) / (6 : Int32))) / (2 : Int32)))]) rfl ?_
      refine lv_goto (tgt := 42) hx hb dX0_speedTowards_38 (by decide) ?_
      exact xk_iret (wf := fun z : XBr => wB I q z) (u := b) (u1 := b) hx hb hr rfl hlocks hP hK hD hS (by unfold r_X0_speedTowards; rw [if_pos c_1, if_neg c_2]) rfl dX0_speedTowards_42
  · refine lv_iconst (v := (1 : Int32)) hx hb dX0_speedTowards_12 (by decide) ?_
    refine lv_iload_n hx hb dX0_speedTowards_13 rfl (lv_at hl 0 rfl) ?_
    refine lv_iadd hx hb dX0_speedTowards_14 ?_
    refine lv_goto (tgt := 22) hx hb dX0_speedTowards_15 (by decide) ?_
    refine lv_istore_n (lv' := [(3, .int ((1 : Int32) + ((b.1 2) / (6 : Int32)))), (2, .int ((b.1 2) / (6 : Int32))), (0, .ref (q 0)), (1, .int up)]) hx hb dX0_speedTowards_22 rfl hl (by decide) rfl (fun ls hl => ?_)
    refine lv_aload_n hx hb dX0_speedTowards_23 rfl (lv_at hl 2 rfl) ?_
    refine va_get (D := D) (ci := 0) (v := .int (b.1 3)) (C := RX0) (T := TX0) (N := 11) hx hb hts hinX0 hown hK hP 0 rfl rfl 3 (by decide) w_2 (fun _ h9 => h9) rfl dX0_speedTowards_24 ?_
    refine lv_iconst (v := (5 : Int32)) hx hb dX0_speedTowards_27 (by decide) ?_
    refine lv_icmp_lt (tgt := 41) hx hb dX0_speedTowards_28 (by decide) (fun c_3 => ?_) (fun c_3 => ?_)
    · refine lv_iload_n hx hb dX0_speedTowards_41 rfl (lv_at hl 0 rfl) ?_
      exact xk_iret (wf := fun z : XBr => wB I q z) (u := b) (u1 := b) hx hb hr rfl hlocks hP hK hD hS (by unfold r_X0_speedTowards; rw [if_neg c_1, if_pos c_3]) rfl dX0_speedTowards_42
    · refine lv_iconst (v := (1 : Int32)) hx hb dX0_speedTowards_31 (by decide) ?_
      refine lv_iload_n hx hb dX0_speedTowards_32 rfl (lv_at hl 0 rfl) ?_
      refine lv_iconst (v := (2 : Int32)) hx hb dX0_speedTowards_33 (by decide) ?_
      refine lv_idiv hx hb dX0_speedTowards_34 (by decide) ?_
      refine va_mmax hx hb (hml.trans hl.1.symm) hown w_3 w_4 w_5 w_6 (Nat.le_of_ble_eq_true rfl) (Nat.le_of_ble_eq_true rfl) (Nat.le_of_ble_eq_true rfl) (Nat.le_of_ble_eq_true rfl) dX0_speedTowards_35 ?_
      refine W.eq (g2 := F0 m 38 ls [.int (imx (1 : Int32) (((1 : Int32) + ((b.1 2) / (6 : Int32))) / (2 : Int32)))]) rfl ?_
      refine lv_goto (tgt := 42) hx hb dX0_speedTowards_38 (by decide) ?_
      exact xk_iret (wf := fun z : XBr => wB I q z) (u := b) (u1 := b) hx hb hr rfl hlocks hP hK hD hS (by unfold r_X0_speedTowards; rw [if_neg c_1, if_neg c_3]) rfl dX0_speedTowards_42

def r_X0_servedNext (b : XBr) : Int32 :=
  if (b.1 6) = (-1 : Int32) then
    if (b.1 4) = (0 : Int32) then
      (r_X1_firstOfAll b.2.2)
    else
      if (b.1 4) = (1 : Int32) then
        (r_X1_firstBargeElseCart b.2.2)
      else
        if (b.1 4) = (2 : Int32) then
          (r_X1_firstCartElseBarge b.2.2)
        else
          if (b.1 4) = (3 : Int32) then
            if (b.1 8) = 0 then
              (r_X1_firstBargeElseCart b.2.2)
            else
              (r_X1_firstCartElseBarge b.2.2)
          else
            (-1 : Int32)
  else
    (-1 : Int32)
set_option maxHeartbeats 800000 in
set_option maxRecDepth 100000 in
theorem c_X0_servedNext (l : Launch) (D : va_G) (I : ClassId) (q : Nat → Nat) (sz : Nat) (b : XBr)  : xMi l D [(I, .int)] yX0_servedNext wsX0_servedNext { frames := 2, cells := 0, slots := 0, locals := 33 } [.ref (q 0)] sz (wB I q b) (r_X0_servedNext b) (wB I q b) 0 0 := by
  refine xk_start (cc := cX0_servedNext) (maxL := 1) (ret := (some .int)) (Qf := fun A => xQi D [(I, .int)] A (r_X0_servedNext b) (wB I q b)) (by decide) rfl (Nat.le_of_ble_eq_true rfl) ?_
  intro p e s m below meth c A H ls hst hAe hsz hl
  obtain ⟨hx, hb, hr, hts, hown, hlocks, hml, hin, hN, hK, hP, hD, hA, hS⟩ := hst
  have hl : lv_has ls 1 [(0, .ref (q 0))] := hl
  have hP : va_P D vwCl (wB I q b) H := hP
  have hinX0 : ∀ w ∈ u_ws RX0 TX0 11, w ∈ wsX0_servedNext := by decide +kernel
  have w_1 := hts (.fieldLink RX0 41 "BridgeBells$Bridge" "passing" "I") (by decide +kernel)
  have w_2 := hts (.fieldLink RX0 24 "BridgeBells$Bridge" "code" "I") (by decide +kernel)
  have w_3 := hts (.fieldLink RX0 37 "BridgeBells$Bridge" "travellers" "LBridgeBells$Travellers;") (by decide +kernel)
  have w_4 := hts (.fieldLink RX0 47 "BridgeBells$Bridge" "latestWasBarge" "Z") (by decide +kernel)
  refine lv_aload_n hx hb dX0_servedNext_0 rfl (lv_at hl 0 rfl) ?_
  refine va_get (D := D) (ci := 0) (v := .int (b.1 6)) (C := RX0) (T := TX0) (N := 11) hx hb hts hinX0 hown hK hP 0 rfl rfl 8 (by decide) w_1 (fun _ h9 => h9) rfl dX0_servedNext_1 ?_
  refine lv_iconst (v := (-1 : Int32)) hx hb dX0_servedNext_4 (by decide) ?_
  refine lv_icmp_eq (tgt := 10) hx hb dX0_servedNext_5 (by decide) (fun c_1 => ?_) (fun c_1 => ?_)
  · refine lv_aload_n hx hb dX0_servedNext_10 rfl (lv_at hl 0 rfl) ?_
    refine va_get (D := D) (ci := 0) (v := .int (b.1 4)) (C := RX0) (T := TX0) (N := 11) hx hb hts hinX0 hown hK hP 0 rfl rfl 4 (by decide) w_2 (fun _ h9 => h9) rfl dX0_servedNext_11 ?_
    by_cases c_2 : (b.1 4) = (0 : Int32)
    · refine lv_tableIn (off := 30) (tgt := 44) hx hb dX0_servedNext_14 (by rw [c_2]; decide) (by rw [c_2]; decide) (by rw [c_2]; rfl) (by decide) ?_
      refine lv_aload_n hx hb dX0_servedNext_44 rfl (lv_at hl 0 rfl) ?_
      refine va_get (D := D) (ci := 0) (v := .ref (q 2)) (C := RX0) (T := TX0) (N := 11) hx hb hts hinX0 hown hK hP 0 rfl rfl 7 (by decide) w_3 (fun _ h9 => h9) rfl dX0_servedNext_45 ?_
      refine xk_calli ([cXB q b.1, cA I (q 1) 8 b.2.1]) (wB I q b) [2, 3, 4, 5, 6, 7, 8] [0, 1] [0, 1, 2, 3, 4, 5, 6, 7, 8] hP hD hS hA (va_runV (As := []) (rest := []) ⟨hx, hb, hml, hown, hts⟩ (c_X1_firstOfAll l D I q H.size b.2.2 ) (cwV 0 hts gX0_servedNext_X1_firstOfAll rfl rfl rfl (by decide +kernel) ⟨Nat.le_of_ble_eq_true rfl, Nat.le_of_ble_eq_true rfl⟩) (xk_preV (wc := wT I q b.2.2) (q0 := 2) (ci := 1) hN hP hK hD [2, 3, 4, 5, 6, 7, 8] rfl rfl rfl rfl) rfl rfl hl.1 rfl (lv_room (Nat.le_of_ble_eq_true rfl)) dX0_servedNext_48 ⟨Nat.le_of_ble_eq_true rfl, Nat.le_of_ble_eq_true rfl⟩) rfl rfl rfl (by decide) rfl rfl (fun H locs hP hD hS => ?_)
      exact xk_iret (wf := fun z : XBr => wB I q z) (u := b) (u1 := b) hx hb hr rfl hlocks hP hK hD hS (by unfold r_X0_servedNext; rw [if_pos c_1, if_pos c_2]) rfl dX0_servedNext_51
    by_cases c_3 : (b.1 4) = (1 : Int32)
    · refine lv_tableIn (off := 38) (tgt := 52) hx hb dX0_servedNext_14 (by rw [c_3]; decide) (by rw [c_3]; decide) (by rw [c_3]; rfl) (by decide) ?_
      refine lv_aload_n hx hb dX0_servedNext_52 rfl (lv_at hl 0 rfl) ?_
      refine va_get (D := D) (ci := 0) (v := .ref (q 2)) (C := RX0) (T := TX0) (N := 11) hx hb hts hinX0 hown hK hP 0 rfl rfl 7 (by decide) w_3 (fun _ h9 => h9) rfl dX0_servedNext_53 ?_
      refine xk_calli ([cXB q b.1, cA I (q 1) 8 b.2.1]) (wB I q b) [2, 3, 4, 5, 6, 7, 8] [0, 1] [0, 1, 2, 3, 4, 5, 6, 7, 8] hP hD hS hA (va_runV (As := []) (rest := []) ⟨hx, hb, hml, hown, hts⟩ (c_X1_firstBargeElseCart l D I q H.size b.2.2 ) (cwV 0 hts gX0_servedNext_X1_firstBargeElseCart rfl rfl rfl (by decide +kernel) ⟨Nat.le_of_ble_eq_true rfl, Nat.le_of_ble_eq_true rfl⟩) (xk_preV (wc := wT I q b.2.2) (q0 := 2) (ci := 1) hN hP hK hD [2, 3, 4, 5, 6, 7, 8] rfl rfl rfl rfl) rfl rfl hl.1 rfl (lv_room (Nat.le_of_ble_eq_true rfl)) dX0_servedNext_56 ⟨Nat.le_of_ble_eq_true rfl, Nat.le_of_ble_eq_true rfl⟩) rfl rfl rfl (by decide) rfl rfl (fun H locs hP hD hS => ?_)
      exact xk_iret (wf := fun z : XBr => wB I q z) (u := b) (u1 := b) hx hb hr rfl hlocks hP hK hD hS (by unfold r_X0_servedNext; rw [if_pos c_1, if_neg c_2, if_pos c_3]) rfl dX0_servedNext_59
    by_cases c_4 : (b.1 4) = (2 : Int32)
    · refine lv_tableIn (off := 46) (tgt := 60) hx hb dX0_servedNext_14 (by rw [c_4]; decide) (by rw [c_4]; decide) (by rw [c_4]; rfl) (by decide) ?_
      refine lv_aload_n hx hb dX0_servedNext_60 rfl (lv_at hl 0 rfl) ?_
      refine va_get (D := D) (ci := 0) (v := .ref (q 2)) (C := RX0) (T := TX0) (N := 11) hx hb hts hinX0 hown hK hP 0 rfl rfl 7 (by decide) w_3 (fun _ h9 => h9) rfl dX0_servedNext_61 ?_
      refine xk_calli ([cXB q b.1, cA I (q 1) 8 b.2.1]) (wB I q b) [2, 3, 4, 5, 6, 7, 8] [0, 1] [0, 1, 2, 3, 4, 5, 6, 7, 8] hP hD hS hA (va_runV (As := []) (rest := []) ⟨hx, hb, hml, hown, hts⟩ (c_X1_firstCartElseBarge l D I q H.size b.2.2 ) (cwV 0 hts gX0_servedNext_X1_firstCartElseBarge rfl rfl rfl (by decide +kernel) ⟨Nat.le_of_ble_eq_true rfl, Nat.le_of_ble_eq_true rfl⟩) (xk_preV (wc := wT I q b.2.2) (q0 := 2) (ci := 1) hN hP hK hD [2, 3, 4, 5, 6, 7, 8] rfl rfl rfl rfl) rfl rfl hl.1 rfl (lv_room (Nat.le_of_ble_eq_true rfl)) dX0_servedNext_64 ⟨Nat.le_of_ble_eq_true rfl, Nat.le_of_ble_eq_true rfl⟩) rfl rfl rfl (by decide) rfl rfl (fun H locs hP hD hS => ?_)
      exact xk_iret (wf := fun z : XBr => wB I q z) (u := b) (u1 := b) hx hb hr rfl hlocks hP hK hD hS (by unfold r_X0_servedNext; rw [if_pos c_1, if_neg c_2, if_neg c_3, if_pos c_4]) rfl dX0_servedNext_67
    by_cases c_5 : (b.1 4) = (3 : Int32)
    · refine lv_tableIn (off := 54) (tgt := 68) hx hb dX0_servedNext_14 (by rw [c_5]; decide) (by rw [c_5]; decide) (by rw [c_5]; rfl) (by decide) ?_
      refine lv_aload_n hx hb dX0_servedNext_68 rfl (lv_at hl 0 rfl) ?_
      refine va_get (D := D) (ci := 0) (v := .int (b.1 8)) (C := RX0) (T := TX0) (N := 11) hx hb hts hinX0 hown hK hP 0 rfl rfl 10 (by decide) w_4 (fun _ h9 => h9) rfl dX0_servedNext_69 ?_
      refine lv_if_eq (tgt := 85) hx hb dX0_servedNext_72 (by decide) (fun c_6 => ?_) (fun c_6 => ?_)
      · refine lv_aload_n hx hb dX0_servedNext_85 rfl (lv_at hl 0 rfl) ?_
        refine va_get (D := D) (ci := 0) (v := .ref (q 2)) (C := RX0) (T := TX0) (N := 11) hx hb hts hinX0 hown hK hP 0 rfl rfl 7 (by decide) w_3 (fun _ h9 => h9) rfl dX0_servedNext_86 ?_
        refine xk_calli ([cXB q b.1, cA I (q 1) 8 b.2.1]) (wB I q b) [2, 3, 4, 5, 6, 7, 8] [0, 1] [0, 1, 2, 3, 4, 5, 6, 7, 8] hP hD hS hA (va_runV (As := []) (rest := []) ⟨hx, hb, hml, hown, hts⟩ (c_X1_firstBargeElseCart l D I q H.size b.2.2 ) (cwV 0 hts gX0_servedNext_X1_firstBargeElseCart rfl rfl rfl (by decide +kernel) ⟨Nat.le_of_ble_eq_true rfl, Nat.le_of_ble_eq_true rfl⟩) (xk_preV (wc := wT I q b.2.2) (q0 := 2) (ci := 1) hN hP hK hD [2, 3, 4, 5, 6, 7, 8] rfl rfl rfl rfl) rfl rfl hl.1 rfl (lv_room (Nat.le_of_ble_eq_true rfl)) dX0_servedNext_89 ⟨Nat.le_of_ble_eq_true rfl, Nat.le_of_ble_eq_true rfl⟩) rfl rfl rfl (by decide) rfl rfl (fun H locs hP hD hS => ?_)
        exact xk_iret (wf := fun z : XBr => wB I q z) (u := b) (u1 := b) hx hb hr rfl hlocks hP hK hD hS (by unfold r_X0_servedNext; rw [if_pos c_1, if_neg c_2, if_neg c_3, if_neg c_4, if_pos c_5, if_pos c_6]) rfl dX0_servedNext_92
      · refine lv_aload_n hx hb dX0_servedNext_75 rfl (lv_at hl 0 rfl) ?_
        refine va_get (D := D) (ci := 0) (v := .ref (q 2)) (C := RX0) (T := TX0) (N := 11) hx hb hts hinX0 hown hK hP 0 rfl rfl 7 (by decide) w_3 (fun _ h9 => h9) rfl dX0_servedNext_76 ?_
        refine xk_calli ([cXB q b.1, cA I (q 1) 8 b.2.1]) (wB I q b) [2, 3, 4, 5, 6, 7, 8] [0, 1] [0, 1, 2, 3, 4, 5, 6, 7, 8] hP hD hS hA (va_runV (As := []) (rest := []) ⟨hx, hb, hml, hown, hts⟩ (c_X1_firstCartElseBarge l D I q H.size b.2.2 ) (cwV 0 hts gX0_servedNext_X1_firstCartElseBarge rfl rfl rfl (by decide +kernel) ⟨Nat.le_of_ble_eq_true rfl, Nat.le_of_ble_eq_true rfl⟩) (xk_preV (wc := wT I q b.2.2) (q0 := 2) (ci := 1) hN hP hK hD [2, 3, 4, 5, 6, 7, 8] rfl rfl rfl rfl) rfl rfl hl.1 rfl (lv_room (Nat.le_of_ble_eq_true rfl)) dX0_servedNext_79 ⟨Nat.le_of_ble_eq_true rfl, Nat.le_of_ble_eq_true rfl⟩) rfl rfl rfl (by decide) rfl rfl (fun H locs hP hD hS => ?_)
        refine lv_goto (tgt := 92) hx hb dX0_servedNext_82 (by decide) ?_
        exact xk_iret (wf := fun z : XBr => wB I q z) (u := b) (u1 := b) hx hb hr rfl hlocks hP hK hD hS (by unfold r_X0_servedNext; rw [if_pos c_1, if_neg c_2, if_neg c_3, if_neg c_4, if_pos c_5, if_neg c_6]) rfl dX0_servedNext_92
    have t_c_2 : (b.1 4).toInt < 0 ∨ 3 < (b.1 4).toInt := by
      have g_c_2 := lv_neT c_2 (a := 0) (by decide)
      have g_c_3 := lv_neT c_3 (a := 1) (by decide)
      have g_c_4 := lv_neT c_4 (a := 2) (by decide)
      have g_c_5 := lv_neT c_5 (a := 3) (by decide)
      omega
    refine lv_tableOut (tgt := 93) hx hb dX0_servedNext_14 t_c_2 (by decide) ?_
    refine lv_iconst (v := (-1 : Int32)) hx hb dX0_servedNext_93 (by decide) ?_
    exact xk_iret (wf := fun z : XBr => wB I q z) (u := b) (u1 := b) hx hb hr rfl hlocks hP hK hD hS (by unfold r_X0_servedNext; rw [if_pos c_1, if_neg c_2, if_neg c_3, if_neg c_4, if_neg c_5]) rfl dX0_servedNext_94
  · refine lv_iconst (v := (-1 : Int32)) hx hb dX0_servedNext_8 (by decide) ?_
    exact xk_iret (wf := fun z : XBr => wB I q z) (u := b) (u1 := b) hx hb hr rfl hlocks hP hK hD hS (by unfold r_X0_servedNext; rw [if_neg c_1]) rfl dX0_servedNext_9

def g1_X0_serve (b : XBr) (k : Int32) : XT := s_X1_endWait b.2.2 k (1 : Int32) (b.1 0)
def g2_X0_serve (b : XBr) (k : Int32) : XT := s_X1_endWait b.2.2 k (1 : Int32) (b.1 0)
def s_X0_serve (b : XBr) (k : Int32) : XBr :=
  if (r_X1_has b.2.2 k) = 0 then
    b
  else
    if ((b.2.2.2 0) k.toNatClampNeg) = (1 : Int32) then
      if (b.1 1) = (60 : Int32) then
        (xs (xs (xs b.1 6 k) 7 ((b.2.2.2 1) k.toNatClampNeg)) 8 (1 : Int32), b.2.1, (g2_X0_serve b k))
      else
        (xs b.1 1 (imn (60 : Int32) ((b.1 1) + (r_X0_speedTowards b (1 : Int32)))), b.2)
    else
      if (b.1 1) = (0 : Int32) then
        (xs (xs (xs b.1 6 k) 7 ((b.2.2.2 1) k.toNatClampNeg)) 8 (0 : Int32), b.2.1, (g1_X0_serve b k))
      else
        (xs b.1 1 (imx (0 : Int32) ((b.1 1) - (r_X0_speedTowards b (0 : Int32)))), b.2)
set_option maxHeartbeats 800000 in
set_option maxRecDepth 100000 in
theorem c_X0_serve (l : Launch) (D : va_G) (I : ClassId) (q : Nat → Nat) (sz : Nat) (b : XBr) (k : Int32) (hn : nOk (b.2.2.1 0)) : xMv l D [(I, .int)] yX0_serve wsX0_serve { frames := 2, cells := 0, slots := 0, locals := 44 } [.ref (q 0), .int k] sz (wB I q b) (wB I q (s_X0_serve b k)) 0 0 := by
  refine xk_start (cc := cX0_serve) (maxL := 3) (ret := none) (Qf := fun A => xQv D [(I, .int)] A (wB I q (s_X0_serve b k))) (by decide) rfl (Nat.le_of_ble_eq_true rfl) ?_
  intro p e s m below meth c A H ls hst hAe hsz hl
  obtain ⟨hx, hb, hr, hts, hown, hlocks, hml, hin, hN, hK, hP, hD, hA, hS⟩ := hst
  have hl : lv_has ls 3 [(0, .ref (q 0)), (1, .int k)] := hl
  have hP : va_P D vwCl (wB I q b) H := hP
  have hinX0 : ∀ w ∈ u_ws RX0 TX0 11, w ∈ wsX0_serve := by decide +kernel
  have hinX1 : ∀ w ∈ u_ws RX1 TX1 12, w ∈ wsX0_serve := by decide +kernel
  have w_1 := hts (.fieldLink RX0 37 "BridgeBells$Bridge" "travellers" "LBridgeBells$Travellers;") (by decide +kernel)
  have w_2 := hts (.fieldLink RX0 103 "BridgeBells$Travellers" "barge" "[I") (by decide +kernel)
  have w_3 := hts (.fieldLink RX0 15 "BridgeBells$Bridge" "angle" "I") (by decide +kernel)
  have w_4 := hts (.methodLink RX0 84 Lib.Math.max.name) (by decide +kernel)
  have w_5 := hts (.static Lib.Math.max.name) (by decide +kernel)
  have w_6 := hts (.initialized "java/lang/Math") (by decide +kernel)
  have w_7 := hts (.code Lib.Math.max.name Lib.Math.max.code 2 (some .int)) (by decide +kernel)
  have w_8 := hts (.fieldLink RX0 41 "BridgeBells$Bridge" "passing" "I") (by decide +kernel)
  have w_9 := hts (.fieldLink RX0 106 "BridgeBells$Travellers" "needs" "[I") (by decide +kernel)
  have w_10 := hts (.fieldLink RX0 44 "BridgeBells$Bridge" "toGo" "I") (by decide +kernel)
  have w_11 := hts (.fieldLink RX0 47 "BridgeBells$Bridge" "latestWasBarge" "Z") (by decide +kernel)
  have w_12 := hts (.fieldLink RX0 9 "BridgeBells$Bridge" "minute" "I") (by decide +kernel)
  have w_13 := hts (.methodLink RX0 117 Lib.Math.min.name) (by decide +kernel)
  have w_14 := hts (.static Lib.Math.min.name) (by decide +kernel)
  have w_15 := hts (.code Lib.Math.min.name Lib.Math.min.code 2 (some .int)) (by decide +kernel)
  refine lv_aload_n hx hb dX0_serve_0 rfl (lv_at hl 0 rfl) ?_
  refine va_get (D := D) (ci := 0) (v := .ref (q 2)) (C := RX0) (T := TX0) (N := 11) hx hb hts hinX0 hown hK hP 0 rfl rfl 7 (by decide) w_1 (fun _ h9 => h9) rfl dX0_serve_1 ?_
  refine lv_iload_n hx hb dX0_serve_4 rfl (lv_at hl 1 rfl) ?_
  refine xk_calli ([cXB q b.1, cA I (q 1) 8 b.2.1]) (wB I q b) [2, 3, 4, 5, 6, 7, 8] [0, 1] [0, 1, 2, 3, 4, 5, 6, 7, 8] hP hD hS hA (va_runV (As := [.int k]) (rest := []) ⟨hx, hb, hml, hown, hts⟩ (c_X1_has l D I q H.size b.2.2 k ) (cwV 1 hts gX0_serve_X1_has rfl rfl rfl (by decide +kernel) ⟨Nat.le_of_ble_eq_true rfl, Nat.le_of_ble_eq_true rfl⟩) (xk_preV (wc := wT I q b.2.2) (q0 := 2) (ci := 1) hN hP hK hD [2, 3, 4, 5, 6, 7, 8] rfl rfl rfl rfl) rfl rfl hl.1 rfl (lv_room (Nat.le_of_ble_eq_true rfl)) dX0_serve_5 ⟨Nat.le_of_ble_eq_true rfl, Nat.le_of_ble_eq_true rfl⟩) rfl rfl rfl (by decide) rfl rfl (fun H locs hP hD hS => ?_)
  refine lv_if_ne (tgt := 12) hx hb dX0_serve_8 (by decide) (fun c_1 => ?_) (fun c_1 => ?_)
  · refine lv_aload_n hx hb dX0_serve_12 rfl (lv_at hl 0 rfl) ?_
    refine va_get (D := D) (ci := 0) (v := .ref (q 2)) (C := RX0) (T := TX0) (N := 11) hx hb hts hinX0 hown hK hP 0 rfl rfl 7 (by decide) w_1 (fun _ h9 => h9) rfl dX0_serve_13 ?_
    refine va_get (D := D) (ci := 1) (v := .ref (q 3)) (C := RX1) (T := TX1) (N := 12) hx hb hts hinX1 hown hK hP 2 rfl rfl 4 (by decide) w_2 (fun _ h9 => h9) rfl dX0_serve_16 ?_
    refine lv_iload_n hx hb dX0_serve_19 rfl (lv_at hl 1 rfl) ?_
    refine va_iald (f := (b.2.2.2 0)) hx hb hK hP 3 0 rfl rfl (show vp_in k 40 from (has_v hn c_1)) dX0_serve_20 ?_
    refine lv_iconst (v := (1 : Int32)) hx hb dX0_serve_21 (by decide) ?_
    refine lv_icmp_ne (tgt := 29) hx hb dX0_serve_22 (by decide) (fun c_2 => ?_) (fun c_2 => ?_)
    · refine lv_iconst (v := (0 : Int32)) hx hb dX0_serve_29 (by decide) ?_
      refine lv_istore_n (lv' := [(2, .int (0 : Int32)), (0, .ref (q 0)), (1, .int k)]) hx hb dX0_serve_30 rfl hl (by decide) rfl (fun ls hl => ?_)
      refine lv_aload_n hx hb dX0_serve_31 rfl (lv_at hl 1 rfl) ?_
      refine va_get (D := D) (ci := 0) (v := .int (b.1 1)) (C := RX0) (T := TX0) (N := 11) hx hb hts hinX0 hown hK hP 0 rfl rfl 1 (by decide) w_3 (fun _ h9 => h9) rfl dX0_serve_32 ?_
      refine lv_iload_n hx hb dX0_serve_35 rfl (lv_at hl 0 rfl) ?_
      refine lv_if_eq (tgt := 44) hx hb dX0_serve_36 (by decide) (fun c_3 => ?_) (fun c_3 => ?_)
      · refine lv_iconst (v := (0 : Int32)) hx hb dX0_serve_44 (by decide) ?_
        refine lv_icmp_ne (tgt := 87) hx hb dX0_serve_45 (by decide) (fun c_4 => ?_) (fun c_4 => ?_)
        · refine lv_iload_n hx hb dX0_serve_87 rfl (lv_at hl 0 rfl) ?_
          refine lv_if_eq (tgt := 113) hx hb dX0_serve_88 (by decide) (fun c_5 => ?_) (fun c_5 => ?_)
          · refine lv_aload_n hx hb dX0_serve_113 rfl (lv_at hl 1 rfl) ?_
            refine lv_iconst (v := (0 : Int32)) hx hb dX0_serve_114 (by decide) ?_
            refine lv_aload_n hx hb dX0_serve_115 rfl (lv_at hl 1 rfl) ?_
            refine va_get (D := D) (ci := 0) (v := .int (b.1 1)) (C := RX0) (T := TX0) (N := 11) hx hb hts hinX0 hown hK hP 0 rfl rfl 1 (by decide) w_3 (fun _ h9 => h9) rfl dX0_serve_116 ?_
            refine lv_aload_n hx hb dX0_serve_119 rfl (lv_at hl 1 rfl) ?_
            refine lv_iconst (v := (0 : Int32)) hx hb dX0_serve_120 (by decide) ?_
            refine xk_calli ([]) (wB I q b) [0, 1, 2, 3, 4, 5, 6, 7, 8] [] [0, 1, 2, 3, 4, 5, 6, 7, 8] hP hD hS hA (va_runV (As := [.int (0 : Int32)]) (rest := [.int (b.1 1), .int (0 : Int32), .ref (q 0)]) ⟨hx, hb, hml, hown, hts⟩ (c_X0_speedTowards l D I q H.size b (0 : Int32) ) (cwV 1 hts gX0_serve_X0_speedTowards rfl rfl rfl (by decide +kernel) ⟨Nat.le_of_ble_eq_true rfl, Nat.le_of_ble_eq_true rfl⟩) (xk_preV (wc := wB I q b) (q0 := 0) (ci := 0) hN hP hK hD [0, 1, 2, 3, 4, 5, 6, 7, 8] rfl rfl rfl rfl) rfl rfl hl.1 rfl (lv_room (Nat.le_of_ble_eq_true rfl)) dX0_serve_121 ⟨Nat.le_of_ble_eq_true rfl, Nat.le_of_ble_eq_true rfl⟩) rfl rfl rfl (by decide) rfl rfl (fun H locs hP hD hS => ?_)
            refine lv_isub hx hb dX0_serve_124 ?_
            refine va_mmax hx hb (hml.trans hl.1.symm) hown w_4 w_5 w_6 w_7 (Nat.le_of_ble_eq_true rfl) (Nat.le_of_ble_eq_true rfl) (Nat.le_of_ble_eq_true rfl) (Nat.le_of_ble_eq_true rfl) dX0_serve_125 ?_
            refine W.eq (g2 := F0 m 128 ls [.int (imx (0 : Int32) ((b.1 1) - (r_X0_speedTowards b (0 : Int32)))), .ref (q 0)]) rfl ?_
            refine va_put (D := D) (ci := 0) (v := .int (imx (0 : Int32) ((b.1 1) - (r_X0_speedTowards b (0 : Int32))))) (ty := tyX0 1) (C := RX0) (T := TX0) (N := 11) hx hb hts hinX0 tyX0 tyX0_ok nmX0 hown hK hP hD hS 0 rfl rfl 1 (by decide) w_3 (fun _ h9 => h9) rfl (tyX0_ok 1 (by decide)) rfl rfl (Nat.le_of_ble_eq_true rfl) dX0_serve_128 (fun H locs hP hD hS => ?_)
            have hP : va_P D vwCl (wB I q (xs b.1 1 (imx (0 : Int32) ((b.1 1) - (r_X0_speedTowards b (0 : Int32)))), b.2)) H := hP
            have hD : va_D A (wB I q (xs b.1 1 (imx (0 : Int32) ((b.1 1) - (r_X0_speedTowards b (0 : Int32)))), b.2)) := hD
            exact xk_vret (wf := fun z : XBr => wB I q z) (u := (xs b.1 1 (imx (0 : Int32) ((b.1 1) - (r_X0_speedTowards b (0 : Int32)))), b.2)) (u1 := (s_X0_serve b k)) hx hb hr hlocks hP hK hD hS (by unfold s_X0_serve; rw [if_neg c_1, if_neg c_2, if_neg c_4]) dX0_serve_131
          · exact absurd c_5 (by decide)
        · refine lv_aload_n hx hb dX0_serve_48 rfl (lv_at hl 1 rfl) ?_
          refine lv_iload_n hx hb dX0_serve_49 rfl (lv_at hl 2 rfl) ?_
          refine va_put (D := D) (ci := 0) (v := .int k) (ty := tyX0 8) (C := RX0) (T := TX0) (N := 11) hx hb hts hinX0 tyX0 tyX0_ok nmX0 hown hK hP hD hS 0 rfl rfl 8 (by decide) w_8 (fun _ h9 => h9) rfl (tyX0_ok 8 (by decide)) rfl rfl (Nat.le_of_ble_eq_true rfl) dX0_serve_50 (fun H locs hP hD hS => ?_)
          have hP : va_P D vwCl (wB I q (xs b.1 6 k, b.2)) H := hP
          have hD : va_D A (wB I q (xs b.1 6 k, b.2)) := hD
          refine lv_aload_n hx hb dX0_serve_53 rfl (lv_at hl 1 rfl) ?_
          refine lv_aload_n hx hb dX0_serve_54 rfl (lv_at hl 1 rfl) ?_
          refine va_get (D := D) (ci := 0) (v := .ref (q 2)) (C := RX0) (T := TX0) (N := 11) hx hb hts hinX0 hown hK hP 0 rfl rfl 7 (by decide) w_1 (fun _ h9 => h9) rfl dX0_serve_55 ?_
          refine va_get (D := D) (ci := 1) (v := .ref (q 4)) (C := RX1) (T := TX1) (N := 12) hx hb hts hinX1 hown hK hP 2 rfl rfl 5 (by decide) w_9 (fun _ h9 => h9) rfl dX0_serve_58 ?_
          refine lv_iload_n hx hb dX0_serve_61 rfl (lv_at hl 2 rfl) ?_
          refine va_iald (f := (b.2.2.2 1)) hx hb hK hP 4 0 rfl rfl (show vp_in k 40 from (has_v hn c_1)) dX0_serve_62 ?_
          refine va_put (D := D) (ci := 0) (v := .int ((b.2.2.2 1) k.toNatClampNeg)) (ty := tyX0 9) (C := RX0) (T := TX0) (N := 11) hx hb hts hinX0 tyX0 tyX0_ok nmX0 hown hK hP hD hS 0 rfl rfl 9 (by decide) w_10 (fun _ h9 => h9) rfl (tyX0_ok 9 (by decide)) rfl rfl (Nat.le_of_ble_eq_true rfl) dX0_serve_63 (fun H locs hP hD hS => ?_)
          have hP : va_P D vwCl (wB I q (xs (xs b.1 6 k) 7 ((b.2.2.2 1) k.toNatClampNeg), b.2)) H := hP
          have hD : va_D A (wB I q (xs (xs b.1 6 k) 7 ((b.2.2.2 1) k.toNatClampNeg), b.2)) := hD
          refine lv_aload_n hx hb dX0_serve_66 rfl (lv_at hl 1 rfl) ?_
          refine lv_iload_n hx hb dX0_serve_67 rfl (lv_at hl 0 rfl) ?_
          refine va_put (D := D) (ci := 0) (v := .int (0 : Int32)) (ty := tyX0 10) (C := RX0) (T := TX0) (N := 11) hx hb hts hinX0 tyX0 tyX0_ok nmX0 hown hK hP hD hS 0 rfl rfl 10 (by decide) w_11 (fun _ h9 => h9) rfl (tyX0_ok 10 (by decide)) rfl rfl (Nat.le_of_ble_eq_true rfl) dX0_serve_68 (fun H locs hP hD hS => ?_)
          have hP : va_P D vwCl (wB I q (xs (xs (xs b.1 6 k) 7 ((b.2.2.2 1) k.toNatClampNeg)) 8 (0 : Int32), b.2)) H := hP
          have hD : va_D A (wB I q (xs (xs (xs b.1 6 k) 7 ((b.2.2.2 1) k.toNatClampNeg)) 8 (0 : Int32), b.2)) := hD
          refine lv_aload_n hx hb dX0_serve_71 rfl (lv_at hl 1 rfl) ?_
          refine va_get (D := D) (ci := 0) (v := .ref (q 2)) (C := RX0) (T := TX0) (N := 11) hx hb hts hinX0 hown hK hP 0 rfl rfl 7 (by decide) w_1 (fun _ h9 => h9) rfl dX0_serve_72 ?_
          refine lv_iload_n hx hb dX0_serve_75 rfl (lv_at hl 2 rfl) ?_
          refine lv_iconst (v := (1 : Int32)) hx hb dX0_serve_76 (by decide) ?_
          refine lv_aload_n hx hb dX0_serve_77 rfl (lv_at hl 1 rfl) ?_
          refine va_get (D := D) (ci := 0) (v := .int (b.1 0)) (C := RX0) (T := TX0) (N := 11) hx hb hts hinX0 hown hK hP 0 rfl rfl 0 (by decide) w_12 (fun _ h9 => h9) rfl dX0_serve_78 ?_
          refine xk_callv ([cXB q (xs (xs (xs b.1 6 k) 7 ((b.2.2.2 1) k.toNatClampNeg)) 8 (0 : Int32)), cA I (q 1) 8 b.2.1]) (wB I q (xs (xs (xs b.1 6 k) 7 ((b.2.2.2 1) k.toNatClampNeg)) 8 (0 : Int32), b.2.1, (s_X1_endWait b.2.2 k (1 : Int32) (b.1 0)))) [2, 3, 4, 5, 6, 7, 8] [0, 1] [0, 1, 2, 3, 4, 5, 6, 7, 8] hP hD hS hA (va_runV (As := [.int k, .int (1 : Int32), .int (b.1 0)]) (rest := []) ⟨hx, hb, hml, hown, hts⟩ (c_X1_endWait l D I q H.size b.2.2 k (1 : Int32) (b.1 0) (has_v hn c_1) hn) (cwV 3 hts gX0_serve_X1_endWait rfl rfl rfl (by decide +kernel) ⟨Nat.le_of_ble_eq_true rfl, Nat.le_of_ble_eq_true rfl⟩) (xk_preV (wc := wT I q b.2.2) (q0 := 2) (ci := 1) hN hP hK hD [2, 3, 4, 5, 6, 7, 8] rfl rfl rfl rfl) rfl rfl hl.1 rfl (lv_room (Nat.le_of_ble_eq_true rfl)) dX0_serve_81 ⟨Nat.le_of_ble_eq_true rfl, Nat.le_of_ble_eq_true rfl⟩) rfl rfl rfl (by decide) rfl rfl (fun H locs hP hD hS => ?_)
          generalize hz_1 : s_X1_endWait b.2.2 k (1 : Int32) (b.1 0) = z_1 at hP hD
          have hg_1 : g1_X0_serve b k = z_1 := by rw [← hz_1]; rfl
          refine lv_goto (tgt := 131) hx hb dX0_serve_84 (by decide) ?_
          exact xk_vret (wf := fun z : XBr => wB I q z) (u := (xs (xs (xs b.1 6 k) 7 ((b.2.2.2 1) k.toNatClampNeg)) 8 (0 : Int32), b.2.1, z_1)) (u1 := (s_X0_serve b k)) hx hb hr hlocks hP hK hD hS (by subst hg_1; unfold s_X0_serve; rw [if_neg c_1, if_neg c_2, if_pos c_4]) dX0_serve_131
      · exact absurd c_3 (by decide)
    · refine lv_iconst (v := (1 : Int32)) hx hb dX0_serve_25 (by decide) ?_
      refine lv_goto (tgt := 30) hx hb dX0_serve_26 (by decide) ?_
      refine lv_istore_n (lv' := [(2, .int (1 : Int32)), (0, .ref (q 0)), (1, .int k)]) hx hb dX0_serve_30 rfl hl (by decide) rfl (fun ls hl => ?_)
      refine lv_aload_n hx hb dX0_serve_31 rfl (lv_at hl 1 rfl) ?_
      refine va_get (D := D) (ci := 0) (v := .int (b.1 1)) (C := RX0) (T := TX0) (N := 11) hx hb hts hinX0 hown hK hP 0 rfl rfl 1 (by decide) w_3 (fun _ h9 => h9) rfl dX0_serve_32 ?_
      refine lv_iload_n hx hb dX0_serve_35 rfl (lv_at hl 0 rfl) ?_
      refine lv_if_eq (tgt := 44) hx hb dX0_serve_36 (by decide) (fun c_6 => ?_) (fun c_6 => ?_)
      · exact absurd c_6 (by decide)
      · refine lv_bipush (v := (60 : Int32)) hx hb dX0_serve_39 (by decide) ?_
        refine lv_goto (tgt := 45) hx hb dX0_serve_41 (by decide) ?_
        refine lv_icmp_ne (tgt := 87) hx hb dX0_serve_45 (by decide) (fun c_7 => ?_) (fun c_7 => ?_)
        · refine lv_iload_n hx hb dX0_serve_87 rfl (lv_at hl 0 rfl) ?_
          refine lv_if_eq (tgt := 113) hx hb dX0_serve_88 (by decide) (fun c_8 => ?_) (fun c_8 => ?_)
          · exact absurd c_8 (by decide)
          · refine lv_aload_n hx hb dX0_serve_91 rfl (lv_at hl 1 rfl) ?_
            refine lv_bipush (v := (60 : Int32)) hx hb dX0_serve_92 (by decide) ?_
            refine lv_aload_n hx hb dX0_serve_94 rfl (lv_at hl 1 rfl) ?_
            refine va_get (D := D) (ci := 0) (v := .int (b.1 1)) (C := RX0) (T := TX0) (N := 11) hx hb hts hinX0 hown hK hP 0 rfl rfl 1 (by decide) w_3 (fun _ h9 => h9) rfl dX0_serve_95 ?_
            refine lv_aload_n hx hb dX0_serve_98 rfl (lv_at hl 1 rfl) ?_
            refine lv_iconst (v := (1 : Int32)) hx hb dX0_serve_99 (by decide) ?_
            refine xk_calli ([]) (wB I q b) [0, 1, 2, 3, 4, 5, 6, 7, 8] [] [0, 1, 2, 3, 4, 5, 6, 7, 8] hP hD hS hA (va_runV (As := [.int (1 : Int32)]) (rest := [.int (b.1 1), .int (60 : Int32), .ref (q 0)]) ⟨hx, hb, hml, hown, hts⟩ (c_X0_speedTowards l D I q H.size b (1 : Int32) ) (cwV 1 hts gX0_serve_X0_speedTowards rfl rfl rfl (by decide +kernel) ⟨Nat.le_of_ble_eq_true rfl, Nat.le_of_ble_eq_true rfl⟩) (xk_preV (wc := wB I q b) (q0 := 0) (ci := 0) hN hP hK hD [0, 1, 2, 3, 4, 5, 6, 7, 8] rfl rfl rfl rfl) rfl rfl hl.1 rfl (lv_room (Nat.le_of_ble_eq_true rfl)) dX0_serve_100 ⟨Nat.le_of_ble_eq_true rfl, Nat.le_of_ble_eq_true rfl⟩) rfl rfl rfl (by decide) rfl rfl (fun H locs hP hD hS => ?_)
            refine lv_iadd hx hb dX0_serve_103 ?_
            refine va_mmin hx hb (hml.trans hl.1.symm) hown w_13 w_14 w_6 w_15 (Nat.le_of_ble_eq_true rfl) (Nat.le_of_ble_eq_true rfl) (Nat.le_of_ble_eq_true rfl) (Nat.le_of_ble_eq_true rfl) dX0_serve_104 ?_
            refine W.eq (g2 := F0 m 107 ls [.int (imn (60 : Int32) ((b.1 1) + (r_X0_speedTowards b (1 : Int32)))), .ref (q 0)]) rfl ?_
            refine va_put (D := D) (ci := 0) (v := .int (imn (60 : Int32) ((b.1 1) + (r_X0_speedTowards b (1 : Int32))))) (ty := tyX0 1) (C := RX0) (T := TX0) (N := 11) hx hb hts hinX0 tyX0 tyX0_ok nmX0 hown hK hP hD hS 0 rfl rfl 1 (by decide) w_3 (fun _ h9 => h9) rfl (tyX0_ok 1 (by decide)) rfl rfl (Nat.le_of_ble_eq_true rfl) dX0_serve_107 (fun H locs hP hD hS => ?_)
            have hP : va_P D vwCl (wB I q (xs b.1 1 (imn (60 : Int32) ((b.1 1) + (r_X0_speedTowards b (1 : Int32)))), b.2)) H := hP
            have hD : va_D A (wB I q (xs b.1 1 (imn (60 : Int32) ((b.1 1) + (r_X0_speedTowards b (1 : Int32)))), b.2)) := hD
            refine lv_goto (tgt := 131) hx hb dX0_serve_110 (by decide) ?_
            exact xk_vret (wf := fun z : XBr => wB I q z) (u := (xs b.1 1 (imn (60 : Int32) ((b.1 1) + (r_X0_speedTowards b (1 : Int32)))), b.2)) (u1 := (s_X0_serve b k)) hx hb hr hlocks hP hK hD hS (by unfold s_X0_serve; rw [if_neg c_1, if_pos c_2, if_neg c_7]) dX0_serve_131
        · refine lv_aload_n hx hb dX0_serve_48 rfl (lv_at hl 1 rfl) ?_
          refine lv_iload_n hx hb dX0_serve_49 rfl (lv_at hl 2 rfl) ?_
          refine va_put (D := D) (ci := 0) (v := .int k) (ty := tyX0 8) (C := RX0) (T := TX0) (N := 11) hx hb hts hinX0 tyX0 tyX0_ok nmX0 hown hK hP hD hS 0 rfl rfl 8 (by decide) w_8 (fun _ h9 => h9) rfl (tyX0_ok 8 (by decide)) rfl rfl (Nat.le_of_ble_eq_true rfl) dX0_serve_50 (fun H locs hP hD hS => ?_)
          have hP : va_P D vwCl (wB I q (xs b.1 6 k, b.2)) H := hP
          have hD : va_D A (wB I q (xs b.1 6 k, b.2)) := hD
          refine lv_aload_n hx hb dX0_serve_53 rfl (lv_at hl 1 rfl) ?_
          refine lv_aload_n hx hb dX0_serve_54 rfl (lv_at hl 1 rfl) ?_
          refine va_get (D := D) (ci := 0) (v := .ref (q 2)) (C := RX0) (T := TX0) (N := 11) hx hb hts hinX0 hown hK hP 0 rfl rfl 7 (by decide) w_1 (fun _ h9 => h9) rfl dX0_serve_55 ?_
          refine va_get (D := D) (ci := 1) (v := .ref (q 4)) (C := RX1) (T := TX1) (N := 12) hx hb hts hinX1 hown hK hP 2 rfl rfl 5 (by decide) w_9 (fun _ h9 => h9) rfl dX0_serve_58 ?_
          refine lv_iload_n hx hb dX0_serve_61 rfl (lv_at hl 2 rfl) ?_
          refine va_iald (f := (b.2.2.2 1)) hx hb hK hP 4 0 rfl rfl (show vp_in k 40 from (has_v hn c_1)) dX0_serve_62 ?_
          refine va_put (D := D) (ci := 0) (v := .int ((b.2.2.2 1) k.toNatClampNeg)) (ty := tyX0 9) (C := RX0) (T := TX0) (N := 11) hx hb hts hinX0 tyX0 tyX0_ok nmX0 hown hK hP hD hS 0 rfl rfl 9 (by decide) w_10 (fun _ h9 => h9) rfl (tyX0_ok 9 (by decide)) rfl rfl (Nat.le_of_ble_eq_true rfl) dX0_serve_63 (fun H locs hP hD hS => ?_)
          have hP : va_P D vwCl (wB I q (xs (xs b.1 6 k) 7 ((b.2.2.2 1) k.toNatClampNeg), b.2)) H := hP
          have hD : va_D A (wB I q (xs (xs b.1 6 k) 7 ((b.2.2.2 1) k.toNatClampNeg), b.2)) := hD
          refine lv_aload_n hx hb dX0_serve_66 rfl (lv_at hl 1 rfl) ?_
          refine lv_iload_n hx hb dX0_serve_67 rfl (lv_at hl 0 rfl) ?_
          refine va_put (D := D) (ci := 0) (v := .int (1 : Int32)) (ty := tyX0 10) (C := RX0) (T := TX0) (N := 11) hx hb hts hinX0 tyX0 tyX0_ok nmX0 hown hK hP hD hS 0 rfl rfl 10 (by decide) w_11 (fun _ h9 => h9) rfl (tyX0_ok 10 (by decide)) rfl rfl (Nat.le_of_ble_eq_true rfl) dX0_serve_68 (fun H locs hP hD hS => ?_)
          have hP : va_P D vwCl (wB I q (xs (xs (xs b.1 6 k) 7 ((b.2.2.2 1) k.toNatClampNeg)) 8 (1 : Int32), b.2)) H := hP
          have hD : va_D A (wB I q (xs (xs (xs b.1 6 k) 7 ((b.2.2.2 1) k.toNatClampNeg)) 8 (1 : Int32), b.2)) := hD
          refine lv_aload_n hx hb dX0_serve_71 rfl (lv_at hl 1 rfl) ?_
          refine va_get (D := D) (ci := 0) (v := .ref (q 2)) (C := RX0) (T := TX0) (N := 11) hx hb hts hinX0 hown hK hP 0 rfl rfl 7 (by decide) w_1 (fun _ h9 => h9) rfl dX0_serve_72 ?_
          refine lv_iload_n hx hb dX0_serve_75 rfl (lv_at hl 2 rfl) ?_
          refine lv_iconst (v := (1 : Int32)) hx hb dX0_serve_76 (by decide) ?_
          refine lv_aload_n hx hb dX0_serve_77 rfl (lv_at hl 1 rfl) ?_
          refine va_get (D := D) (ci := 0) (v := .int (b.1 0)) (C := RX0) (T := TX0) (N := 11) hx hb hts hinX0 hown hK hP 0 rfl rfl 0 (by decide) w_12 (fun _ h9 => h9) rfl dX0_serve_78 ?_
          refine xk_callv ([cXB q (xs (xs (xs b.1 6 k) 7 ((b.2.2.2 1) k.toNatClampNeg)) 8 (1 : Int32)), cA I (q 1) 8 b.2.1]) (wB I q (xs (xs (xs b.1 6 k) 7 ((b.2.2.2 1) k.toNatClampNeg)) 8 (1 : Int32), b.2.1, (s_X1_endWait b.2.2 k (1 : Int32) (b.1 0)))) [2, 3, 4, 5, 6, 7, 8] [0, 1] [0, 1, 2, 3, 4, 5, 6, 7, 8] hP hD hS hA (va_runV (As := [.int k, .int (1 : Int32), .int (b.1 0)]) (rest := []) ⟨hx, hb, hml, hown, hts⟩ (c_X1_endWait l D I q H.size b.2.2 k (1 : Int32) (b.1 0) (has_v hn c_1) hn) (cwV 3 hts gX0_serve_X1_endWait rfl rfl rfl (by decide +kernel) ⟨Nat.le_of_ble_eq_true rfl, Nat.le_of_ble_eq_true rfl⟩) (xk_preV (wc := wT I q b.2.2) (q0 := 2) (ci := 1) hN hP hK hD [2, 3, 4, 5, 6, 7, 8] rfl rfl rfl rfl) rfl rfl hl.1 rfl (lv_room (Nat.le_of_ble_eq_true rfl)) dX0_serve_81 ⟨Nat.le_of_ble_eq_true rfl, Nat.le_of_ble_eq_true rfl⟩) rfl rfl rfl (by decide) rfl rfl (fun H locs hP hD hS => ?_)
          generalize hz_2 : s_X1_endWait b.2.2 k (1 : Int32) (b.1 0) = z_2 at hP hD
          have hg_2 : g2_X0_serve b k = z_2 := by rw [← hz_2]; rfl
          refine lv_goto (tgt := 131) hx hb dX0_serve_84 (by decide) ?_
          exact xk_vret (wf := fun z : XBr => wB I q z) (u := (xs (xs (xs b.1 6 k) 7 ((b.2.2.2 1) k.toNatClampNeg)) 8 (1 : Int32), b.2.1, z_2)) (u1 := (s_X0_serve b k)) hx hb hr hlocks hP hK hD hS (by subst hg_2; unfold s_X0_serve; rw [if_neg c_1, if_pos c_2, if_pos c_7]) dX0_serve_131
  · exact xk_vret (wf := fun z : XBr => wB I q z) (u := b) (u1 := (s_X0_serve b k)) hx hb hr hlocks hP hK hD hS (by unfold s_X0_serve; rw [if_pos c_1]) dX0_serve_11

def g1_X0_goOnPassing (b : XBr) : XT := s_X1_endPassage b.2.2 (b.1 6) (b.1 0)
def s_X0_goOnPassing (b : XBr) : XBr :=
  if (r_X1_has b.2.2 (b.1 6)) = 0 then
    b
  else
    if 0 < ((b.1 7) - (1 : Int32)) then
      (xs b.1 7 ((b.1 7) - (1 : Int32)), b.2)
    else
      (xs (xs b.1 7 ((b.1 7) - (1 : Int32))) 6 (-1 : Int32), b.2.1, (g1_X0_goOnPassing b))
set_option maxHeartbeats 800000 in
set_option maxRecDepth 100000 in
theorem c_X0_goOnPassing (l : Launch) (D : va_G) (I : ClassId) (q : Nat → Nat) (sz : Nat) (b : XBr) (hn : nOk (b.2.2.1 0)) : xMv l D [(I, .int)] yX0_goOnPassing wsX0_goOnPassing { frames := 1, cells := 0, slots := 0, locals := 22 } [.ref (q 0)] sz (wB I q b) (wB I q (s_X0_goOnPassing b)) 0 0 := by
  refine xk_start (cc := cX0_goOnPassing) (maxL := 1) (ret := none) (Qf := fun A => xQv D [(I, .int)] A (wB I q (s_X0_goOnPassing b))) (by decide) rfl (Nat.le_of_ble_eq_true rfl) ?_
  intro p e s m below meth c A H ls hst hAe hsz hl
  obtain ⟨hx, hb, hr, hts, hown, hlocks, hml, hin, hN, hK, hP, hD, hA, hS⟩ := hst
  have hl : lv_has ls 1 [(0, .ref (q 0))] := hl
  have hP : va_P D vwCl (wB I q b) H := hP
  have hinX0 : ∀ w ∈ u_ws RX0 TX0 11, w ∈ wsX0_goOnPassing := by decide +kernel
  have w_1 := hts (.fieldLink RX0 37 "BridgeBells$Bridge" "travellers" "LBridgeBells$Travellers;") (by decide +kernel)
  have w_2 := hts (.fieldLink RX0 41 "BridgeBells$Bridge" "passing" "I") (by decide +kernel)
  have w_3 := hts (.fieldLink RX0 44 "BridgeBells$Bridge" "toGo" "I") (by decide +kernel)
  have w_4 := hts (.fieldLink RX0 9 "BridgeBells$Bridge" "minute" "I") (by decide +kernel)
  refine lv_aload_n hx hb dX0_goOnPassing_0 rfl (lv_at hl 0 rfl) ?_
  refine va_get (D := D) (ci := 0) (v := .ref (q 2)) (C := RX0) (T := TX0) (N := 11) hx hb hts hinX0 hown hK hP 0 rfl rfl 7 (by decide) w_1 (fun _ h9 => h9) rfl dX0_goOnPassing_1 ?_
  refine lv_aload_n hx hb dX0_goOnPassing_4 rfl (lv_at hl 0 rfl) ?_
  refine va_get (D := D) (ci := 0) (v := .int (b.1 6)) (C := RX0) (T := TX0) (N := 11) hx hb hts hinX0 hown hK hP 0 rfl rfl 8 (by decide) w_2 (fun _ h9 => h9) rfl dX0_goOnPassing_5 ?_
  refine xk_calli ([cXB q b.1, cA I (q 1) 8 b.2.1]) (wB I q b) [2, 3, 4, 5, 6, 7, 8] [0, 1] [0, 1, 2, 3, 4, 5, 6, 7, 8] hP hD hS hA (va_runV (As := [.int (b.1 6)]) (rest := []) ⟨hx, hb, hml, hown, hts⟩ (c_X1_has l D I q H.size b.2.2 (b.1 6) ) (cwV 1 hts gX0_goOnPassing_X1_has rfl rfl rfl (by decide +kernel) ⟨Nat.le_of_ble_eq_true rfl, Nat.le_of_ble_eq_true rfl⟩) (xk_preV (wc := wT I q b.2.2) (q0 := 2) (ci := 1) hN hP hK hD [2, 3, 4, 5, 6, 7, 8] rfl rfl rfl rfl) rfl rfl hl.1 rfl (lv_room (Nat.le_of_ble_eq_true rfl)) dX0_goOnPassing_8 ⟨Nat.le_of_ble_eq_true rfl, Nat.le_of_ble_eq_true rfl⟩) rfl rfl rfl (by decide) rfl rfl (fun H locs hP hD hS => ?_)
  refine lv_if_ne (tgt := 15) hx hb dX0_goOnPassing_11 (by decide) (fun c_1 => ?_) (fun c_1 => ?_)
  · refine lv_aload_n hx hb dX0_goOnPassing_15 rfl (lv_at hl 0 rfl) ?_
    refine lv_dup hx hb dX0_goOnPassing_16 rfl ?_
    refine va_get (D := D) (ci := 0) (v := .int (b.1 7)) (C := RX0) (T := TX0) (N := 11) hx hb hts hinX0 hown hK hP 0 rfl rfl 9 (by decide) w_3 (fun _ h9 => h9) rfl dX0_goOnPassing_17 ?_
    refine lv_iconst (v := (1 : Int32)) hx hb dX0_goOnPassing_20 (by decide) ?_
    refine lv_isub hx hb dX0_goOnPassing_21 ?_
    refine va_put (D := D) (ci := 0) (v := .int ((b.1 7) - (1 : Int32))) (ty := tyX0 9) (C := RX0) (T := TX0) (N := 11) hx hb hts hinX0 tyX0 tyX0_ok nmX0 hown hK hP hD hS 0 rfl rfl 9 (by decide) w_3 (fun _ h9 => h9) rfl (tyX0_ok 9 (by decide)) rfl rfl (Nat.le_of_ble_eq_true rfl) dX0_goOnPassing_22 (fun H locs hP hD hS => ?_)
    have hP : va_P D vwCl (wB I q (xs b.1 7 ((b.1 7) - (1 : Int32)), b.2)) H := hP
    have hD : va_D A (wB I q (xs b.1 7 ((b.1 7) - (1 : Int32)), b.2)) := hD
    refine lv_aload_n hx hb dX0_goOnPassing_25 rfl (lv_at hl 0 rfl) ?_
    refine va_get (D := D) (ci := 0) (v := .int ((b.1 7) - (1 : Int32))) (C := RX0) (T := TX0) (N := 11) hx hb hts hinX0 hown hK hP 0 rfl rfl 9 (by decide) w_3 (fun _ h9 => h9) rfl dX0_goOnPassing_26 ?_
    refine lv_if_gt (tgt := 52) hx hb dX0_goOnPassing_29 (by decide) (fun c_2 => ?_) (fun c_2 => ?_)
    · exact xk_vret (wf := fun z : XBr => wB I q z) (u := (xs b.1 7 ((b.1 7) - (1 : Int32)), b.2)) (u1 := (s_X0_goOnPassing b)) hx hb hr hlocks hP hK hD hS (by unfold s_X0_goOnPassing; rw [if_neg c_1, if_pos c_2]) dX0_goOnPassing_52
    · refine lv_aload_n hx hb dX0_goOnPassing_32 rfl (lv_at hl 0 rfl) ?_
      refine va_get (D := D) (ci := 0) (v := .ref (q 2)) (C := RX0) (T := TX0) (N := 11) hx hb hts hinX0 hown hK hP 0 rfl rfl 7 (by decide) w_1 (fun _ h9 => h9) rfl dX0_goOnPassing_33 ?_
      refine lv_aload_n hx hb dX0_goOnPassing_36 rfl (lv_at hl 0 rfl) ?_
      refine va_get (D := D) (ci := 0) (v := .int (b.1 6)) (C := RX0) (T := TX0) (N := 11) hx hb hts hinX0 hown hK hP 0 rfl rfl 8 (by decide) w_2 (fun _ h9 => h9) rfl dX0_goOnPassing_37 ?_
      refine lv_aload_n hx hb dX0_goOnPassing_40 rfl (lv_at hl 0 rfl) ?_
      refine va_get (D := D) (ci := 0) (v := .int (b.1 0)) (C := RX0) (T := TX0) (N := 11) hx hb hts hinX0 hown hK hP 0 rfl rfl 0 (by decide) w_4 (fun _ h9 => h9) rfl dX0_goOnPassing_41 ?_
      refine xk_callv ([cXB q (xs b.1 7 ((b.1 7) - (1 : Int32))), cA I (q 1) 8 b.2.1]) (wB I q (xs b.1 7 ((b.1 7) - (1 : Int32)), b.2.1, (s_X1_endPassage b.2.2 (b.1 6) (b.1 0)))) [2, 3, 4, 5, 6, 7, 8] [0, 1] [0, 1, 2, 3, 4, 5, 6, 7, 8] hP hD hS hA (va_runV (As := [.int (b.1 6), .int (b.1 0)]) (rest := []) ⟨hx, hb, hml, hown, hts⟩ (c_X1_endPassage l D I q H.size b.2.2 (b.1 6) (b.1 0) (has_v hn c_1)) (cwV 2 hts gX0_goOnPassing_X1_endPassage rfl rfl rfl (by decide +kernel) ⟨Nat.le_of_ble_eq_true rfl, Nat.le_of_ble_eq_true rfl⟩) (xk_preV (wc := wT I q b.2.2) (q0 := 2) (ci := 1) hN hP hK hD [2, 3, 4, 5, 6, 7, 8] rfl rfl rfl rfl) rfl rfl hl.1 rfl (lv_room (Nat.le_of_ble_eq_true rfl)) dX0_goOnPassing_44 ⟨Nat.le_of_ble_eq_true rfl, Nat.le_of_ble_eq_true rfl⟩) rfl rfl rfl (by decide) rfl rfl (fun H locs hP hD hS => ?_)
      generalize hz_1 : s_X1_endPassage b.2.2 (b.1 6) (b.1 0) = z_1 at hP hD
      have hg_1 : g1_X0_goOnPassing b = z_1 := by rw [← hz_1]; rfl
      refine lv_aload_n hx hb dX0_goOnPassing_47 rfl (lv_at hl 0 rfl) ?_
      refine lv_iconst (v := (-1 : Int32)) hx hb dX0_goOnPassing_48 (by decide) ?_
      refine va_put (D := D) (ci := 0) (v := .int (-1 : Int32)) (ty := tyX0 8) (C := RX0) (T := TX0) (N := 11) hx hb hts hinX0 tyX0 tyX0_ok nmX0 hown hK hP hD hS 0 rfl rfl 8 (by decide) w_2 (fun _ h9 => h9) rfl (tyX0_ok 8 (by decide)) rfl rfl (Nat.le_of_ble_eq_true rfl) dX0_goOnPassing_49 (fun H locs hP hD hS => ?_)
      have hP : va_P D vwCl (wB I q (xs (xs b.1 7 ((b.1 7) - (1 : Int32))) 6 (-1 : Int32), b.2.1, z_1)) H := hP
      have hD : va_D A (wB I q (xs (xs b.1 7 ((b.1 7) - (1 : Int32))) 6 (-1 : Int32), b.2.1, z_1)) := hD
      exact xk_vret (wf := fun z : XBr => wB I q z) (u := (xs (xs b.1 7 ((b.1 7) - (1 : Int32))) 6 (-1 : Int32), b.2.1, z_1)) (u1 := (s_X0_goOnPassing b)) hx hb hr hlocks hP hK hD hS (by subst hg_1; unfold s_X0_goOnPassing; rw [if_neg c_1, if_neg c_2]) dX0_goOnPassing_52
  · exact xk_vret (wf := fun z : XBr => wB I q z) (u := b) (u1 := (s_X0_goOnPassing b)) hx hb hr hlocks hP hK hD hS (by unfold s_X0_goOnPassing; rw [if_pos c_1]) dX0_goOnPassing_14

def s_X0_freeze (b : XBr) : XBr :=
  if ((b.1 0) - (b.1 0) / (60 : Int32) * (60 : Int32)) = 0 then
    (xs b.1 3 (imx (0 : Int32) (imn (9 : Int32) ((b.1 3) + (b.2.1 (r_J9_floorMod_7cf53 ((b.1 0) / (60 : Int32)) (8 : Int32)).toNatClampNeg)))), b.2)
  else
    b
set_option maxHeartbeats 800000 in
set_option maxRecDepth 100000 in
theorem c_X0_freeze (l : Launch) (D : va_G) (I : ClassId) (q : Nat → Nat) (sz : Nat) (b : XBr) (hm : vp_in (r_J9_floorMod_7cf53 ((b.1 0) / (60 : Int32)) (8 : Int32)) 8) : xMv l D [(I, .int)] yX0_freeze wsX0_freeze { frames := 1, cells := 0, slots := 0, locals := 22 } [.ref (q 0)] sz (wB I q b) (wB I q (s_X0_freeze b)) 0 0 := by
  refine xk_start (cc := cX0_freeze) (maxL := 2) (ret := none) (Qf := fun A => xQv D [(I, .int)] A (wB I q (s_X0_freeze b))) (by decide) rfl (Nat.le_of_ble_eq_true rfl) ?_
  intro p e s m below meth c A H ls hst hAe hsz hl
  obtain ⟨hx, hb, hr, hts, hown, hlocks, hml, hin, hN, hK, hP, hD, hA, hS⟩ := hst
  have hl : lv_has ls 2 [(0, .ref (q 0))] := hl
  have hP : va_P D vwCl (wB I q b) H := hP
  have hinX0 : ∀ w ∈ u_ws RX0 TX0 11, w ∈ wsX0_freeze := by decide +kernel
  have w_1 := hts (.fieldLink RX0 9 "BridgeBells$Bridge" "minute" "I") (by decide +kernel)
  have w_2 := hts (.fieldLink RX0 21 "BridgeBells$Bridge" "ice" "I") (by decide +kernel)
  have w_3 := hts (.fieldLink RX0 30 "BridgeBells$Bridge" "cold" "[I") (by decide +kernel)
  have w_4 := hts (.methodLink RX0 117 Lib.Math.min.name) (by decide +kernel)
  have w_5 := hts (.static Lib.Math.min.name) (by decide +kernel)
  have w_6 := hts (.initialized "java/lang/Math") (by decide +kernel)
  have w_7 := hts (.code Lib.Math.min.name Lib.Math.min.code 2 (some .int)) (by decide +kernel)
  have w_8 := hts (.methodLink RX0 84 Lib.Math.max.name) (by decide +kernel)
  have w_9 := hts (.static Lib.Math.max.name) (by decide +kernel)
  have w_10 := hts (.code Lib.Math.max.name Lib.Math.max.code 2 (some .int)) (by decide +kernel)
  refine lv_aload_n hx hb dX0_freeze_0 rfl (lv_at hl 0 rfl) ?_
  refine va_get (D := D) (ci := 0) (v := .int (b.1 0)) (C := RX0) (T := TX0) (N := 11) hx hb hts hinX0 hown hK hP 0 rfl rfl 0 (by decide) w_1 (fun _ h9 => h9) rfl dX0_freeze_1 ?_
  refine lv_bipush (v := (60 : Int32)) hx hb dX0_freeze_4 (by decide) ?_
  refine lv_irem hx hb dX0_freeze_6 (by decide) ?_
  refine lv_if_eq (tgt := 11) hx hb dX0_freeze_7 (by decide) (fun c_1 => ?_) (fun c_1 => ?_)
  · refine lv_aload_n hx hb dX0_freeze_11 rfl (lv_at hl 0 rfl) ?_
    refine va_get (D := D) (ci := 0) (v := .int (b.1 0)) (C := RX0) (T := TX0) (N := 11) hx hb hts hinX0 hown hK hP 0 rfl rfl 0 (by decide) w_1 (fun _ h9 => h9) rfl dX0_freeze_12 ?_
    refine lv_bipush (v := (60 : Int32)) hx hb dX0_freeze_15 (by decide) ?_
    refine lv_idiv hx hb dX0_freeze_17 (by decide) ?_
    refine lv_bipush (v := (8 : Int32)) hx hb dX0_freeze_18 (by decide) ?_
    refine xk_calli ([cXB q b.1, cA I (q 1) 8 b.2.1, cXT q b.2.2.1, cA I (q 3) 40 (b.2.2.2 0), cA I (q 4) 40 (b.2.2.2 1), cA I (q 5) 40 (b.2.2.2 2), cA I (q 6) 40 (b.2.2.2 3), cA I (q 7) 40 (b.2.2.2 4), cA I (q 8) 40 (b.2.2.2 5)]) (wB I q b) [] [0, 1, 2, 3, 4, 5, 6, 7, 8] [0, 1, 2, 3, 4, 5, 6, 7, 8] hP hD hS hA (va_runS (As := [.int ((b.1 0) / (60 : Int32)), .int (8 : Int32)]) (rest := []) ⟨hx, hb, hml, hown, hts⟩ (c_J9_floorMod_7cf53 l D I  H.size ((b.1 0) / (60 : Int32)) (8 : Int32) (by decide)) (va_cwS 2 hts gX0_freeze_J9_floorMod_7cf53 rfl rfl rfl (by decide +kernel) ⟨Nat.le_of_ble_eq_true rfl, Nat.le_of_ble_eq_true rfl⟩) (xk_pre (wc := ([] : va_W)) hN hP hK hD [] rfl rfl) rfl rfl hl.1 rfl (lv_room (Nat.le_of_ble_eq_true rfl)) dX0_freeze_20 ⟨Nat.le_of_ble_eq_true rfl, Nat.le_of_ble_eq_true rfl⟩) rfl rfl rfl (by decide) rfl rfl (fun H locs hP hD hS => ?_)
    refine lv_istore_n (lv' := [(1, .int (r_J9_floorMod_7cf53 ((b.1 0) / (60 : Int32)) (8 : Int32))), (0, .ref (q 0))]) hx hb dX0_freeze_23 rfl hl (by decide) rfl (fun ls hl => ?_)
    refine lv_aload_n hx hb dX0_freeze_24 rfl (lv_at hl 1 rfl) ?_
    refine lv_iconst (v := (0 : Int32)) hx hb dX0_freeze_25 (by decide) ?_
    refine lv_bipush (v := (9 : Int32)) hx hb dX0_freeze_26 (by decide) ?_
    refine lv_aload_n hx hb dX0_freeze_28 rfl (lv_at hl 1 rfl) ?_
    refine va_get (D := D) (ci := 0) (v := .int (b.1 3)) (C := RX0) (T := TX0) (N := 11) hx hb hts hinX0 hown hK hP 0 rfl rfl 3 (by decide) w_2 (fun _ h9 => h9) rfl dX0_freeze_29 ?_
    refine lv_aload_n hx hb dX0_freeze_32 rfl (lv_at hl 1 rfl) ?_
    refine va_get (D := D) (ci := 0) (v := .ref (q 1)) (C := RX0) (T := TX0) (N := 11) hx hb hts hinX0 hown hK hP 0 rfl rfl 6 (by decide) w_3 (fun _ h9 => h9) rfl dX0_freeze_33 ?_
    refine lv_iload_n hx hb dX0_freeze_36 rfl (lv_at hl 0 rfl) ?_
    refine va_iald (f := b.2.1) hx hb hK hP 1 0 rfl rfl (show vp_in (r_J9_floorMod_7cf53 ((b.1 0) / (60 : Int32)) (8 : Int32)) 8 from hm) dX0_freeze_37 ?_
    refine lv_iadd hx hb dX0_freeze_38 ?_
    refine va_mmin hx hb (hml.trans hl.1.symm) hown w_4 w_5 w_6 w_7 (Nat.le_of_ble_eq_true rfl) (Nat.le_of_ble_eq_true rfl) (Nat.le_of_ble_eq_true rfl) (Nat.le_of_ble_eq_true rfl) dX0_freeze_39 ?_
    refine W.eq (g2 := F0 m 42 ls [.int (imn (9 : Int32) ((b.1 3) + (b.2.1 (r_J9_floorMod_7cf53 ((b.1 0) / (60 : Int32)) (8 : Int32)).toNatClampNeg))), .int (0 : Int32), .ref (q 0)]) rfl ?_
    refine va_mmax hx hb (hml.trans hl.1.symm) hown w_8 w_9 w_6 w_10 (Nat.le_of_ble_eq_true rfl) (Nat.le_of_ble_eq_true rfl) (Nat.le_of_ble_eq_true rfl) (Nat.le_of_ble_eq_true rfl) dX0_freeze_42 ?_
    refine W.eq (g2 := F0 m 45 ls [.int (imx (0 : Int32) (imn (9 : Int32) ((b.1 3) + (b.2.1 (r_J9_floorMod_7cf53 ((b.1 0) / (60 : Int32)) (8 : Int32)).toNatClampNeg)))), .ref (q 0)]) rfl ?_
    refine va_put (D := D) (ci := 0) (v := .int (imx (0 : Int32) (imn (9 : Int32) ((b.1 3) + (b.2.1 (r_J9_floorMod_7cf53 ((b.1 0) / (60 : Int32)) (8 : Int32)).toNatClampNeg))))) (ty := tyX0 3) (C := RX0) (T := TX0) (N := 11) hx hb hts hinX0 tyX0 tyX0_ok nmX0 hown hK hP hD hS 0 rfl rfl 3 (by decide) w_2 (fun _ h9 => h9) rfl (tyX0_ok 3 (by decide)) rfl rfl (Nat.le_of_ble_eq_true rfl) dX0_freeze_45 (fun H locs hP hD hS => ?_)
    have hP : va_P D vwCl (wB I q (xs b.1 3 (imx (0 : Int32) (imn (9 : Int32) ((b.1 3) + (b.2.1 (r_J9_floorMod_7cf53 ((b.1 0) / (60 : Int32)) (8 : Int32)).toNatClampNeg)))), b.2)) H := hP
    have hD : va_D A (wB I q (xs b.1 3 (imx (0 : Int32) (imn (9 : Int32) ((b.1 3) + (b.2.1 (r_J9_floorMod_7cf53 ((b.1 0) / (60 : Int32)) (8 : Int32)).toNatClampNeg)))), b.2)) := hD
    exact xk_vret (wf := fun z : XBr => wB I q z) (u := (xs b.1 3 (imx (0 : Int32) (imn (9 : Int32) ((b.1 3) + (b.2.1 (r_J9_floorMod_7cf53 ((b.1 0) / (60 : Int32)) (8 : Int32)).toNatClampNeg)))), b.2)) (u1 := (s_X0_freeze b)) hx hb hr hlocks hP hK hD hS (by unfold s_X0_freeze; rw [if_pos c_1]) dX0_freeze_48
  · exact xk_vret (wf := fun z : XBr => wB I q z) (u := b) (u1 := (s_X0_freeze b)) hx hb hr hlocks hP hK hD hS (by unfold s_X0_freeze; rw [if_neg c_1]) dX0_freeze_10

theorem serve_n (b : XBr) (k : Int32) : (s_X0_serve b k).2.2.1 0 = b.2.2.1 0 := by
  unfold s_X0_serve
  repeat' split
  all_goals first | rfl | exact endWait_n _ _ _ _
theorem serve_m (b : XBr) (k : Int32) : (s_X0_serve b k).1 0 = b.1 0 := by
  unfold s_X0_serve
  repeat' split
  all_goals rfl
theorem gop_n (b : XBr) : (s_X0_goOnPassing b).2.2.1 0 = b.2.2.1 0 := by
  unfold s_X0_goOnPassing
  repeat' split
  all_goals rfl
theorem gop_m (b : XBr) : (s_X0_goOnPassing b).1 0 = b.1 0 := by
  unfold s_X0_goOnPassing
  repeat' split
  all_goals rfl
theorem frz_n (b : XBr) : (s_X0_freeze b).2.2.1 0 = b.2.2.1 0 := by
  unfold s_X0_freeze
  repeat' split
  all_goals rfl
theorem frz_m (b : XBr) : (s_X0_freeze b).1 0 = b.1 0 := by
  unfold s_X0_freeze
  repeat' split
  all_goals rfl
theorem fm_in {x : Int32} (h : mOk x) : vp_in (r_J9_floorMod_7cf53 (x / (60 : Int32)) (8 : Int32)) 8 := by
  unfold r_J9_floorMod_7cf53
  rw [if_pos (xor8 (by rw [d60 h.1]; have := h.1; omega))]
  exact hr_in h
end
section
def g1_X0_goOneMinute (b : XBr) : XBr := s_X0_serve b (r_X0_servedNext b)
def g2_X0_goOneMinute (b : XBr) : XBr := s_X0_goOnPassing (g1_X0_goOneMinute b)
def g3_X0_goOneMinute (b : XBr) : XBr := s_X0_freeze (xs (g2_X0_goOneMinute b).1 5 (((g2_X0_goOneMinute b).1 5) + (((g2_X0_goOneMinute b).2.2.1 2) + ((g2_X0_goOneMinute b).2.2.1 3))), (g2_X0_goOneMinute b).2)
def s_X0_goOneMinute (b : XBr) : XBr :=
  (xs (g3_X0_goOneMinute b).1 0 (((g3_X0_goOneMinute b).1 0) + (1 : Int32)), (g3_X0_goOneMinute b).2)
set_option maxHeartbeats 800000 in
set_option maxRecDepth 100000 in
theorem c_X0_goOneMinute (l : Launch) (D : va_G) (I : ClassId) (q : Nat → Nat) (sz : Nat) (b : XBr) (hn : nOk (b.2.2.1 0)) (hm : mOk (b.1 0)) : xMv l D [(I, .int)] yX0_goOneMinute wsX0_goOneMinute { frames := 3, cells := 0, slots := 0, locals := 66 } [.ref (q 0)] sz (wB I q b) (wB I q (s_X0_goOneMinute b)) 0 0 := by
  refine xk_start (cc := cX0_goOneMinute) (maxL := 1) (ret := none) (Qf := fun A => xQv D [(I, .int)] A (wB I q (s_X0_goOneMinute b))) (by decide) rfl (Nat.le_of_ble_eq_true rfl) ?_
  intro p e s m below meth c A H ls hst hAe hsz hl
  obtain ⟨hx, hb, hr, hts, hown, hlocks, hml, hin, hN, hK, hP, hD, hA, hS⟩ := hst
  have hl : lv_has ls 1 [(0, .ref (q 0))] := hl
  have hP : va_P D vwCl (wB I q b) H := hP
  have hinX0 : ∀ w ∈ u_ws RX0 TX0 11, w ∈ wsX0_goOneMinute := by decide +kernel
  have hinX1 : ∀ w ∈ u_ws RX1 TX1 12, w ∈ wsX0_goOneMinute := by decide +kernel
  have w_1 := hts (.fieldLink RX0 27 "BridgeBells$Bridge" "waitedInAll" "I") (by decide +kernel)
  have w_2 := hts (.fieldLink RX0 37 "BridgeBells$Bridge" "travellers" "LBridgeBells$Travellers;") (by decide +kernel)
  have w_3 := hts (.fieldLink RX0 75 "BridgeBells$Travellers" "bargesWaiting" "I") (by decide +kernel)
  have w_4 := hts (.fieldLink RX0 78 "BridgeBells$Travellers" "cartsWaiting" "I") (by decide +kernel)
  have w_5 := hts (.fieldLink RX0 9 "BridgeBells$Bridge" "minute" "I") (by decide +kernel)
  refine lv_aload_n hx hb dX0_goOneMinute_0 rfl (lv_at hl 0 rfl) ?_
  refine lv_aload_n hx hb dX0_goOneMinute_1 rfl (lv_at hl 0 rfl) ?_
  refine xk_calli ([]) (wB I q b) [0, 1, 2, 3, 4, 5, 6, 7, 8] [] [0, 1, 2, 3, 4, 5, 6, 7, 8] hP hD hS hA (va_runV (As := []) (rest := [.ref (q 0)]) ⟨hx, hb, hml, hown, hts⟩ (c_X0_servedNext l D I q H.size b ) (cwV 0 hts gX0_goOneMinute_X0_servedNext rfl rfl rfl (by decide +kernel) ⟨Nat.le_of_ble_eq_true rfl, Nat.le_of_ble_eq_true rfl⟩) (xk_preV (wc := wB I q b) (q0 := 0) (ci := 0) hN hP hK hD [0, 1, 2, 3, 4, 5, 6, 7, 8] rfl rfl rfl rfl) rfl rfl hl.1 rfl (lv_room (Nat.le_of_ble_eq_true rfl)) dX0_goOneMinute_2 ⟨Nat.le_of_ble_eq_true rfl, Nat.le_of_ble_eq_true rfl⟩) rfl rfl rfl (by decide) rfl rfl (fun H locs hP hD hS => ?_)
  refine xk_callv ([]) (wB I q (s_X0_serve b (r_X0_servedNext b))) [0, 1, 2, 3, 4, 5, 6, 7, 8] [] [0, 1, 2, 3, 4, 5, 6, 7, 8] hP hD hS hA (va_runV (As := [.int (r_X0_servedNext b)]) (rest := []) ⟨hx, hb, hml, hown, hts⟩ (c_X0_serve l D I q H.size b (r_X0_servedNext b) hn) (cwV 1 hts gX0_goOneMinute_X0_serve rfl rfl rfl (by decide +kernel) ⟨Nat.le_of_ble_eq_true rfl, Nat.le_of_ble_eq_true rfl⟩) (xk_preV (wc := wB I q b) (q0 := 0) (ci := 0) hN hP hK hD [0, 1, 2, 3, 4, 5, 6, 7, 8] rfl rfl rfl rfl) rfl rfl hl.1 rfl (lv_room (Nat.le_of_ble_eq_true rfl)) dX0_goOneMinute_5 ⟨Nat.le_of_ble_eq_true rfl, Nat.le_of_ble_eq_true rfl⟩) rfl rfl rfl (by decide) rfl rfl (fun H locs hP hD hS => ?_)
  generalize hz_1 : s_X0_serve b (r_X0_servedNext b) = z_1 at hP hD
  have hg_1 : g1_X0_goOneMinute b = z_1 := by rw [← hz_1]; rfl
  refine lv_aload_n hx hb dX0_goOneMinute_8 rfl (lv_at hl 0 rfl) ?_
  refine xk_callv ([]) (wB I q (s_X0_goOnPassing z_1)) [0, 1, 2, 3, 4, 5, 6, 7, 8] [] [0, 1, 2, 3, 4, 5, 6, 7, 8] hP hD hS hA (va_runV (As := []) (rest := []) ⟨hx, hb, hml, hown, hts⟩ (c_X0_goOnPassing l D I q H.size z_1 (by subst hg_1; show nOk ((s_X0_serve b _).2.2.1 0); rw [serve_n]; exact hn)) (cwV 0 hts gX0_goOneMinute_X0_goOnPassing rfl rfl rfl (by decide +kernel) ⟨Nat.le_of_ble_eq_true rfl, Nat.le_of_ble_eq_true rfl⟩) (xk_preV (wc := wB I q z_1) (q0 := 0) (ci := 0) hN hP hK hD [0, 1, 2, 3, 4, 5, 6, 7, 8] rfl rfl rfl rfl) rfl rfl hl.1 rfl (lv_room (Nat.le_of_ble_eq_true rfl)) dX0_goOneMinute_9 ⟨Nat.le_of_ble_eq_true rfl, Nat.le_of_ble_eq_true rfl⟩) rfl rfl rfl (by decide) rfl rfl (fun H locs hP hD hS => ?_)
  generalize hz_2 : s_X0_goOnPassing z_1 = z_2 at hP hD
  have hg_2 : g2_X0_goOneMinute b = z_2 := by rw [← hz_2, ← hg_1]; rfl
  refine lv_aload_n hx hb dX0_goOneMinute_12 rfl (lv_at hl 0 rfl) ?_
  refine lv_dup hx hb dX0_goOneMinute_13 rfl ?_
  refine va_get (D := D) (ci := 0) (v := .int (z_2.1 5)) (C := RX0) (T := TX0) (N := 11) hx hb hts hinX0 hown hK hP 0 rfl rfl 5 (by decide) w_1 (fun _ h9 => h9) rfl dX0_goOneMinute_14 ?_
  refine lv_aload_n hx hb dX0_goOneMinute_17 rfl (lv_at hl 0 rfl) ?_
  refine va_get (D := D) (ci := 0) (v := .ref (q 2)) (C := RX0) (T := TX0) (N := 11) hx hb hts hinX0 hown hK hP 0 rfl rfl 7 (by decide) w_2 (fun _ h9 => h9) rfl dX0_goOneMinute_18 ?_
  refine va_get (D := D) (ci := 1) (v := .int (z_2.2.2.1 2)) (C := RX1) (T := TX1) (N := 12) hx hb hts hinX1 hown hK hP 2 rfl rfl 2 (by decide) w_3 (fun _ h9 => h9) rfl dX0_goOneMinute_21 ?_
  refine lv_aload_n hx hb dX0_goOneMinute_24 rfl (lv_at hl 0 rfl) ?_
  refine va_get (D := D) (ci := 0) (v := .ref (q 2)) (C := RX0) (T := TX0) (N := 11) hx hb hts hinX0 hown hK hP 0 rfl rfl 7 (by decide) w_2 (fun _ h9 => h9) rfl dX0_goOneMinute_25 ?_
  refine va_get (D := D) (ci := 1) (v := .int (z_2.2.2.1 3)) (C := RX1) (T := TX1) (N := 12) hx hb hts hinX1 hown hK hP 2 rfl rfl 3 (by decide) w_4 (fun _ h9 => h9) rfl dX0_goOneMinute_28 ?_
  refine lv_iadd hx hb dX0_goOneMinute_31 ?_
  refine lv_iadd hx hb dX0_goOneMinute_32 ?_
  refine va_put (D := D) (ci := 0) (v := .int ((z_2.1 5) + ((z_2.2.2.1 2) + (z_2.2.2.1 3)))) (ty := tyX0 5) (C := RX0) (T := TX0) (N := 11) hx hb hts hinX0 tyX0 tyX0_ok nmX0 hown hK hP hD hS 0 rfl rfl 5 (by decide) w_1 (fun _ h9 => h9) rfl (tyX0_ok 5 (by decide)) rfl rfl (Nat.le_of_ble_eq_true rfl) dX0_goOneMinute_33 (fun H locs hP hD hS => ?_)
  have hP : va_P D vwCl (wB I q (xs z_2.1 5 ((z_2.1 5) + ((z_2.2.2.1 2) + (z_2.2.2.1 3))), z_2.2)) H := hP
  have hD : va_D A (wB I q (xs z_2.1 5 ((z_2.1 5) + ((z_2.2.2.1 2) + (z_2.2.2.1 3))), z_2.2)) := hD
  refine lv_aload_n hx hb dX0_goOneMinute_36 rfl (lv_at hl 0 rfl) ?_
  refine xk_callv ([]) (wB I q (s_X0_freeze (xs z_2.1 5 ((z_2.1 5) + ((z_2.2.2.1 2) + (z_2.2.2.1 3))), z_2.2))) [0, 1, 2, 3, 4, 5, 6, 7, 8] [] [0, 1, 2, 3, 4, 5, 6, 7, 8] hP hD hS hA (va_runV (As := []) (rest := []) ⟨hx, hb, hml, hown, hts⟩ (c_X0_freeze l D I q H.size (xs z_2.1 5 ((z_2.1 5) + ((z_2.2.2.1 2) + (z_2.2.2.1 3))), z_2.2) (fm_in (x := (z_2.1 0)) (show mOk ((z_2.1 0)) from by subst hg_2; subst hg_1; show mOk ((s_X0_goOnPassing (s_X0_serve b _)).1 0); rw [gop_m, serve_m]; exact hm))) (cwV 0 hts gX0_goOneMinute_X0_freeze rfl rfl rfl (by decide +kernel) ⟨Nat.le_of_ble_eq_true rfl, Nat.le_of_ble_eq_true rfl⟩) (xk_preV (wc := wB I q (xs z_2.1 5 ((z_2.1 5) + ((z_2.2.2.1 2) + (z_2.2.2.1 3))), z_2.2)) (q0 := 0) (ci := 0) hN hP hK hD [0, 1, 2, 3, 4, 5, 6, 7, 8] rfl rfl rfl rfl) rfl rfl hl.1 rfl (lv_room (Nat.le_of_ble_eq_true rfl)) dX0_goOneMinute_37 ⟨Nat.le_of_ble_eq_true rfl, Nat.le_of_ble_eq_true rfl⟩) rfl rfl rfl (by decide) rfl rfl (fun H locs hP hD hS => ?_)
  generalize hz_3 : s_X0_freeze (xs z_2.1 5 ((z_2.1 5) + ((z_2.2.2.1 2) + (z_2.2.2.1 3))), z_2.2) = z_3 at hP hD
  have hg_3 : g3_X0_goOneMinute b = z_3 := by rw [← hz_3, ← hg_2]; rfl
  refine lv_aload_n hx hb dX0_goOneMinute_40 rfl (lv_at hl 0 rfl) ?_
  refine lv_dup hx hb dX0_goOneMinute_41 rfl ?_
  refine va_get (D := D) (ci := 0) (v := .int (z_3.1 0)) (C := RX0) (T := TX0) (N := 11) hx hb hts hinX0 hown hK hP 0 rfl rfl 0 (by decide) w_5 (fun _ h9 => h9) rfl dX0_goOneMinute_42 ?_
  refine lv_iconst (v := (1 : Int32)) hx hb dX0_goOneMinute_45 (by decide) ?_
  refine lv_iadd hx hb dX0_goOneMinute_46 ?_
  refine va_put (D := D) (ci := 0) (v := .int ((z_3.1 0) + (1 : Int32))) (ty := tyX0 0) (C := RX0) (T := TX0) (N := 11) hx hb hts hinX0 tyX0 tyX0_ok nmX0 hown hK hP hD hS 0 rfl rfl 0 (by decide) w_5 (fun _ h9 => h9) rfl (tyX0_ok 0 (by decide)) rfl rfl (Nat.le_of_ble_eq_true rfl) dX0_goOneMinute_47 (fun H locs hP hD hS => ?_)
  have hP : va_P D vwCl (wB I q (xs z_3.1 0 ((z_3.1 0) + (1 : Int32)), z_3.2)) H := hP
  have hD : va_D A (wB I q (xs z_3.1 0 ((z_3.1 0) + (1 : Int32)), z_3.2)) := hD
  exact xk_vret (wf := fun z : XBr => wB I q z) (u := (xs z_3.1 0 ((z_3.1 0) + (1 : Int32)), z_3.2)) (u1 := (s_X0_goOneMinute b)) hx hb hr hlocks hP hK hD hS (by subst hg_3; subst hg_2; subst hg_1; unfold s_X0_goOneMinute; rfl) dX0_goOneMinute_50

theorem gom_n (b : XBr) : (s_X0_goOneMinute b).2.2.1 0 = b.2.2.1 0 := by
  unfold s_X0_goOneMinute g3_X0_goOneMinute
  dsimp only
  rw [frz_n]
  dsimp only
  unfold g2_X0_goOneMinute
  rw [gop_n]
  unfold g1_X0_goOneMinute
  rw [serve_n]
theorem gom_m (b : XBr) : (s_X0_goOneMinute b).1 0 = b.1 0 + 1 := by
  unfold s_X0_goOneMinute g3_X0_goOneMinute
  dsimp only
  rw [xs_eq, frz_m]
  dsimp only
  rw [xs_ne (by decide)]
  unfold g2_X0_goOneMinute
  rw [gop_m]
  unfold g1_X0_goOneMinute
  rw [serve_m]
/-- k minutes -/
def xit : Nat → XBr → XBr
  | 0, b => b
  | k + 1, b => xit k (s_X0_goOneMinute b)
def s_X0_goOn (b : XBr) (mi : Int32) : XBr := xit mi.toNatClampNeg b

theorem p1_m {x : Int32} (h : 0 ≤ x.toInt) (h2 : x.toInt < 2000000000) : 0 ≤ (x + 1).toInt ∧ (x + 1).toInt = x.toInt + 1 := by
  have h3 : (1 : Int32).toInt = 1 := by decide
  rw [toInt_addS (by omega) (by omega), h3]
  exact ⟨by omega, rfl⟩

set_option maxHeartbeats 800000 in
set_option maxRecDepth 100000 in
theorem c_X0_goOn (l : Launch) (D : va_G) (I : ClassId) (q : Nat → Nat) (sz : Nat) (b : XBr) (mi : Int32) (hn : nOk (b.2.2.1 0)) (hm1 : 0 ≤ (b.1 0).toInt) (hm2 : (b.1 0).toInt < 1000000000) (h1 : 0 ≤ mi.toInt) (h2 : mi.toInt ≤ 240) : xMv l D [(I, .int)] yX0_goOn wsX0_goOn { frames := 4, cells := 0, slots := 0, locals := 86 } [.ref (q 0), .int mi] sz (wB I q b) (wB I q (s_X0_goOn b mi)) 0 0 := by
  refine xk_start (cc := cX0_goOn) (maxL := 3) (ret := none) (Qf := fun A => xQv D [(I, .int)] A (wB I q (s_X0_goOn b mi))) (by decide) rfl (Nat.le_of_ble_eq_true rfl) ?_
  intro p e s m below meth c A H ls hst hAe hsz hl
  obtain ⟨hx, hb, hr, hts, hown, hlocks, hml, hin, hN, hK, hP, hD, hA, hS⟩ := hst
  have hl : lv_has ls 3 [(0, .ref (q 0)), (1, .int mi)] := hl
  have hP : va_P D vwCl (wB I q b) H := hP
  have hmi : mi = nI mi.toNatClampNeg := Int32.toInt_inj.mp (by rw [nI_toInt (by rw [clampInt]; omega), clampInt]; omega)
  have hml9 : mi.toNatClampNeg ≤ 240 := by rw [clampInt]; omega
  refine lv_iconst (v := (0 : Int32)) hx hb dX0_goOn_0 (by decide) ?_
  refine lv_istore_n (lv' := [(2, .int (0 : Int32)), (0, .ref (q 0)), (1, .int mi)]) hx hb dX0_goOn_1 rfl hl (by decide) rfl (fun ls hl => ?_)
  have loop : ∀ (r k : Nat) (b : XBr), r + k = mi.toNatClampNeg → nOk (b.2.2.1 0) → 0 ≤ (b.1 0).toInt → (b.1 0).toInt + r < 2000000000 → ∀ (H : Heap) (locs : List Loc), va_P D vwCl (wB I q b) H → va_D A (wB I q b) → va_S A s.heap H locs → ∀ ls, lv_has ls 3 [(2, .int (nI k)), (0, .ref (q 0)), (1, .int mi)] → W p l e { frames := 4, cells := 0, slots := 0, locals := 86 } s m #[.ref (q 0), .int mi] below meth c H locs 0 0 (MQ below (xQv D [(I, .int)] A (wB I q (xit r b))) #[.ref (q 0), .int mi] s 0 0 A) (F0 m 2 ls []) := by
    intro r
    induction r with
    | zero =>
      intro k b hk hn hm1 hm2 H locs hP hD hS ls hl
      refine lv_iload_n hx hb dX0_goOn_2 rfl (lv_at hl 0 rfl) ?_
      refine lv_iload_n hx hb dX0_goOn_3 rfl (lv_at hl 2 rfl) ?_
      refine lv_icmp_ge (tgt := 17) hx hb dX0_goOn_4 (by decide) (fun c_1 => ?_) (fun c_1 => ?_)
      · exact xk_vret (wf := fun z : XBr => wB I q z) (u := b) hx hb hr hlocks hP hK hD hS rfl dX0_goOn_17
      · exact absurd (by rw [hmi]; exact nI_le (by omega) (by omega)) c_1
    | succ r ih =>
      intro k b hk hn hm1 hm2 H locs hP hD hS ls hl
      refine lv_iload_n hx hb dX0_goOn_2 rfl (lv_at hl 0 rfl) ?_
      refine lv_iload_n hx hb dX0_goOn_3 rfl (lv_at hl 2 rfl) ?_
      refine lv_icmp_ge (tgt := 17) hx hb dX0_goOn_4 (by decide) (fun c_2 => ?_) (fun c_2 => ?_)
      · exact absurd c_2 (by rw [hmi]; exact nI_ge (by omega) (by omega))
      · refine lv_aload_n hx hb dX0_goOn_7 rfl (lv_at hl 1 rfl) ?_
        refine xk_callv ([]) (wB I q (s_X0_goOneMinute b)) [0, 1, 2, 3, 4, 5, 6, 7, 8] [] [0, 1, 2, 3, 4, 5, 6, 7, 8] hP hD hS hA (va_runV (As := []) (rest := []) ⟨hx, hb, hml, hown, hts⟩ (c_X0_goOneMinute l D I q H.size b hn ⟨hm1, by omega⟩) (cwV 0 hts gX0_goOn_X0_goOneMinute rfl rfl rfl (by decide +kernel) ⟨Nat.le_of_ble_eq_true rfl, Nat.le_of_ble_eq_true rfl⟩) (xk_preV (wc := wB I q b) (q0 := 0) (ci := 0) hN hP hK hD [0, 1, 2, 3, 4, 5, 6, 7, 8] rfl rfl rfl rfl) rfl rfl hl.1 rfl (lv_room (Nat.le_of_ble_eq_true rfl)) dX0_goOn_8 ⟨Nat.le_of_ble_eq_true rfl, Nat.le_of_ble_eq_true rfl⟩) rfl rfl rfl (by decide) rfl rfl (fun H locs hP hD hS => ?_)
        generalize hz_1 : s_X0_goOneMinute b = z_1 at hP hD
        refine lv_iinc (v := (nI (k + 1))) (lv' := [(2, .int (nI (k + 1))), (0, .ref (q 0)), (1, .int mi)]) hx hb dX0_goOn_11 hl (k := 0) rfl (nI_succ k).symm (by decide) rfl (fun ls hl => ?_)
        refine lv_goto (tgt := 2) hx hb dX0_goOn_14 (by decide) ?_
        subst hz_1
        exact ih (k + 1) (s_X0_goOneMinute b) (by omega) (by rw [gom_n]; exact hn) (by rw [gom_m]; exact (p1_m hm1 (by omega)).1) (by rw [gom_m]; exact (p1_m hm1 (by omega)).2 ▸ (by omega)) _ _ hP hD hS ls hl
  exact loop _ 0 b (by omega) hn hm1 (by omega) _ _ hP hD hS ls hl

def r_X0_total (b : XBr) (wh : Int32) : Int32 :=
  if wh = (0 : Int32) then
    (b.1 0)
  else
    if wh = (1 : Int32) then
      (b.1 1)
    else
      if wh = (2 : Int32) then
        (b.1 2)
      else
        if wh = (3 : Int32) then
          (b.1 3)
        else
          if wh = (4 : Int32) then
            (b.1 4)
          else
            if wh = (5 : Int32) then
              (b.2.2.1 0)
            else
              if wh = (6 : Int32) then
                (b.2.2.1 2)
              else
                if wh = (7 : Int32) then
                  (b.2.2.1 3)
                else
                  if wh = (8 : Int32) then
                    (b.2.2.1 1)
                  else
                    if wh = (9 : Int32) then
                      (b.1 5)
                    else
                      if wh = (10 : Int32) then
                        (b.1 6)
                      else
                        (r_X0_servedNext b)
set_option maxHeartbeats 800000 in
set_option maxRecDepth 100000 in
theorem c_X0_total (l : Launch) (D : va_G) (I : ClassId) (q : Nat → Nat) (sz : Nat) (b : XBr) (wh : Int32)  : xMi l D [(I, .int)] yX0_total wsX0_total { frames := 3, cells := 0, slots := 0, locals := 53 } [.ref (q 0), .int wh] sz (wB I q b) (r_X0_total b wh) (wB I q b) 0 0 := by
  refine xk_start (cc := cX0_total) (maxL := 2) (ret := (some .int)) (Qf := fun A => xQi D [(I, .int)] A (r_X0_total b wh) (wB I q b)) (by decide) rfl (Nat.le_of_ble_eq_true rfl) ?_
  intro p e s m below meth c A H ls hst hAe hsz hl
  obtain ⟨hx, hb, hr, hts, hown, hlocks, hml, hin, hN, hK, hP, hD, hA, hS⟩ := hst
  have hl : lv_has ls 2 [(0, .ref (q 0)), (1, .int wh)] := hl
  have hP : va_P D vwCl (wB I q b) H := hP
  have hinX0 : ∀ w ∈ u_ws RX0 TX0 11, w ∈ wsX0_total := by decide +kernel
  have hinX1 : ∀ w ∈ u_ws RX1 TX1 12, w ∈ wsX0_total := by decide +kernel
  have w_1 := hts (.fieldLink RX0 9 "BridgeBells$Bridge" "minute" "I") (by decide +kernel)
  have w_2 := hts (.fieldLink RX0 15 "BridgeBells$Bridge" "angle" "I") (by decide +kernel)
  have w_3 := hts (.fieldLink RX0 18 "BridgeBells$Bridge" "counterpoise" "I") (by decide +kernel)
  have w_4 := hts (.fieldLink RX0 21 "BridgeBells$Bridge" "ice" "I") (by decide +kernel)
  have w_5 := hts (.fieldLink RX0 24 "BridgeBells$Bridge" "code" "I") (by decide +kernel)
  have w_6 := hts (.fieldLink RX0 37 "BridgeBells$Bridge" "travellers" "LBridgeBells$Travellers;") (by decide +kernel)
  have w_7 := hts (.fieldLink RX0 127 "BridgeBells$Travellers" "number" "I") (by decide +kernel)
  have w_8 := hts (.fieldLink RX0 75 "BridgeBells$Travellers" "bargesWaiting" "I") (by decide +kernel)
  have w_9 := hts (.fieldLink RX0 78 "BridgeBells$Travellers" "cartsWaiting" "I") (by decide +kernel)
  have w_10 := hts (.fieldLink RX0 130 "BridgeBells$Travellers" "passed" "I") (by decide +kernel)
  have w_11 := hts (.fieldLink RX0 27 "BridgeBells$Bridge" "waitedInAll" "I") (by decide +kernel)
  have w_12 := hts (.fieldLink RX0 41 "BridgeBells$Bridge" "passing" "I") (by decide +kernel)
  refine lv_iload_n hx hb dX0_total_0 rfl (lv_at hl 1 rfl) ?_
  by_cases c_1 : wh = (0 : Int32)
  · refine lv_tableIn (off := 59) (tgt := 60) hx hb dX0_total_1 (by rw [c_1]; decide) (by rw [c_1]; decide) (by rw [c_1]; rfl) (by decide) ?_
    refine lv_aload_n hx hb dX0_total_60 rfl (lv_at hl 0 rfl) ?_
    refine va_get (D := D) (ci := 0) (v := .int (b.1 0)) (C := RX0) (T := TX0) (N := 11) hx hb hts hinX0 hown hK hP 0 rfl rfl 0 (by decide) w_1 (fun _ h9 => h9) rfl dX0_total_61 ?_
    exact xk_iret (wf := fun z : XBr => wB I q z) (u := b) (u1 := b) hx hb hr rfl hlocks hP hK hD hS (by unfold r_X0_total; rw [if_pos c_1]) rfl dX0_total_64
  by_cases c_2 : wh = (1 : Int32)
  · refine lv_tableIn (off := 64) (tgt := 65) hx hb dX0_total_1 (by rw [c_2]; decide) (by rw [c_2]; decide) (by rw [c_2]; rfl) (by decide) ?_
    refine lv_aload_n hx hb dX0_total_65 rfl (lv_at hl 0 rfl) ?_
    refine va_get (D := D) (ci := 0) (v := .int (b.1 1)) (C := RX0) (T := TX0) (N := 11) hx hb hts hinX0 hown hK hP 0 rfl rfl 1 (by decide) w_2 (fun _ h9 => h9) rfl dX0_total_66 ?_
    exact xk_iret (wf := fun z : XBr => wB I q z) (u := b) (u1 := b) hx hb hr rfl hlocks hP hK hD hS (by unfold r_X0_total; rw [if_neg c_1, if_pos c_2]) rfl dX0_total_69
  by_cases c_3 : wh = (2 : Int32)
  · refine lv_tableIn (off := 69) (tgt := 70) hx hb dX0_total_1 (by rw [c_3]; decide) (by rw [c_3]; decide) (by rw [c_3]; rfl) (by decide) ?_
    refine lv_aload_n hx hb dX0_total_70 rfl (lv_at hl 0 rfl) ?_
    refine va_get (D := D) (ci := 0) (v := .int (b.1 2)) (C := RX0) (T := TX0) (N := 11) hx hb hts hinX0 hown hK hP 0 rfl rfl 2 (by decide) w_3 (fun _ h9 => h9) rfl dX0_total_71 ?_
    exact xk_iret (wf := fun z : XBr => wB I q z) (u := b) (u1 := b) hx hb hr rfl hlocks hP hK hD hS (by unfold r_X0_total; rw [if_neg c_1, if_neg c_2, if_pos c_3]) rfl dX0_total_74
  by_cases c_4 : wh = (3 : Int32)
  · refine lv_tableIn (off := 74) (tgt := 75) hx hb dX0_total_1 (by rw [c_4]; decide) (by rw [c_4]; decide) (by rw [c_4]; rfl) (by decide) ?_
    refine lv_aload_n hx hb dX0_total_75 rfl (lv_at hl 0 rfl) ?_
    refine va_get (D := D) (ci := 0) (v := .int (b.1 3)) (C := RX0) (T := TX0) (N := 11) hx hb hts hinX0 hown hK hP 0 rfl rfl 3 (by decide) w_4 (fun _ h9 => h9) rfl dX0_total_76 ?_
    exact xk_iret (wf := fun z : XBr => wB I q z) (u := b) (u1 := b) hx hb hr rfl hlocks hP hK hD hS (by unfold r_X0_total; rw [if_neg c_1, if_neg c_2, if_neg c_3, if_pos c_4]) rfl dX0_total_79
  by_cases c_5 : wh = (4 : Int32)
  · refine lv_tableIn (off := 79) (tgt := 80) hx hb dX0_total_1 (by rw [c_5]; decide) (by rw [c_5]; decide) (by rw [c_5]; rfl) (by decide) ?_
    refine lv_aload_n hx hb dX0_total_80 rfl (lv_at hl 0 rfl) ?_
    refine va_get (D := D) (ci := 0) (v := .int (b.1 4)) (C := RX0) (T := TX0) (N := 11) hx hb hts hinX0 hown hK hP 0 rfl rfl 4 (by decide) w_5 (fun _ h9 => h9) rfl dX0_total_81 ?_
    exact xk_iret (wf := fun z : XBr => wB I q z) (u := b) (u1 := b) hx hb hr rfl hlocks hP hK hD hS (by unfold r_X0_total; rw [if_neg c_1, if_neg c_2, if_neg c_3, if_neg c_4, if_pos c_5]) rfl dX0_total_84
  by_cases c_6 : wh = (5 : Int32)
  · refine lv_tableIn (off := 84) (tgt := 85) hx hb dX0_total_1 (by rw [c_6]; decide) (by rw [c_6]; decide) (by rw [c_6]; rfl) (by decide) ?_
    refine lv_aload_n hx hb dX0_total_85 rfl (lv_at hl 0 rfl) ?_
    refine va_get (D := D) (ci := 0) (v := .ref (q 2)) (C := RX0) (T := TX0) (N := 11) hx hb hts hinX0 hown hK hP 0 rfl rfl 7 (by decide) w_6 (fun _ h9 => h9) rfl dX0_total_86 ?_
    refine va_get (D := D) (ci := 1) (v := .int (b.2.2.1 0)) (C := RX1) (T := TX1) (N := 12) hx hb hts hinX1 hown hK hP 2 rfl rfl 0 (by decide) w_7 (fun _ h9 => h9) rfl dX0_total_89 ?_
    exact xk_iret (wf := fun z : XBr => wB I q z) (u := b) (u1 := b) hx hb hr rfl hlocks hP hK hD hS (by unfold r_X0_total; rw [if_neg c_1, if_neg c_2, if_neg c_3, if_neg c_4, if_neg c_5, if_pos c_6]) rfl dX0_total_92
  by_cases c_7 : wh = (6 : Int32)
  · refine lv_tableIn (off := 92) (tgt := 93) hx hb dX0_total_1 (by rw [c_7]; decide) (by rw [c_7]; decide) (by rw [c_7]; rfl) (by decide) ?_
    refine lv_aload_n hx hb dX0_total_93 rfl (lv_at hl 0 rfl) ?_
    refine va_get (D := D) (ci := 0) (v := .ref (q 2)) (C := RX0) (T := TX0) (N := 11) hx hb hts hinX0 hown hK hP 0 rfl rfl 7 (by decide) w_6 (fun _ h9 => h9) rfl dX0_total_94 ?_
    refine va_get (D := D) (ci := 1) (v := .int (b.2.2.1 2)) (C := RX1) (T := TX1) (N := 12) hx hb hts hinX1 hown hK hP 2 rfl rfl 2 (by decide) w_8 (fun _ h9 => h9) rfl dX0_total_97 ?_
    exact xk_iret (wf := fun z : XBr => wB I q z) (u := b) (u1 := b) hx hb hr rfl hlocks hP hK hD hS (by unfold r_X0_total; rw [if_neg c_1, if_neg c_2, if_neg c_3, if_neg c_4, if_neg c_5, if_neg c_6, if_pos c_7]) rfl dX0_total_100
  by_cases c_8 : wh = (7 : Int32)
  · refine lv_tableIn (off := 100) (tgt := 101) hx hb dX0_total_1 (by rw [c_8]; decide) (by rw [c_8]; decide) (by rw [c_8]; rfl) (by decide) ?_
    refine lv_aload_n hx hb dX0_total_101 rfl (lv_at hl 0 rfl) ?_
    refine va_get (D := D) (ci := 0) (v := .ref (q 2)) (C := RX0) (T := TX0) (N := 11) hx hb hts hinX0 hown hK hP 0 rfl rfl 7 (by decide) w_6 (fun _ h9 => h9) rfl dX0_total_102 ?_
    refine va_get (D := D) (ci := 1) (v := .int (b.2.2.1 3)) (C := RX1) (T := TX1) (N := 12) hx hb hts hinX1 hown hK hP 2 rfl rfl 3 (by decide) w_9 (fun _ h9 => h9) rfl dX0_total_105 ?_
    exact xk_iret (wf := fun z : XBr => wB I q z) (u := b) (u1 := b) hx hb hr rfl hlocks hP hK hD hS (by unfold r_X0_total; rw [if_neg c_1, if_neg c_2, if_neg c_3, if_neg c_4, if_neg c_5, if_neg c_6, if_neg c_7, if_pos c_8]) rfl dX0_total_108
  by_cases c_9 : wh = (8 : Int32)
  · refine lv_tableIn (off := 108) (tgt := 109) hx hb dX0_total_1 (by rw [c_9]; decide) (by rw [c_9]; decide) (by rw [c_9]; rfl) (by decide) ?_
    refine lv_aload_n hx hb dX0_total_109 rfl (lv_at hl 0 rfl) ?_
    refine va_get (D := D) (ci := 0) (v := .ref (q 2)) (C := RX0) (T := TX0) (N := 11) hx hb hts hinX0 hown hK hP 0 rfl rfl 7 (by decide) w_6 (fun _ h9 => h9) rfl dX0_total_110 ?_
    refine va_get (D := D) (ci := 1) (v := .int (b.2.2.1 1)) (C := RX1) (T := TX1) (N := 12) hx hb hts hinX1 hown hK hP 2 rfl rfl 1 (by decide) w_10 (fun _ h9 => h9) rfl dX0_total_113 ?_
    exact xk_iret (wf := fun z : XBr => wB I q z) (u := b) (u1 := b) hx hb hr rfl hlocks hP hK hD hS (by unfold r_X0_total; rw [if_neg c_1, if_neg c_2, if_neg c_3, if_neg c_4, if_neg c_5, if_neg c_6, if_neg c_7, if_neg c_8, if_pos c_9]) rfl dX0_total_116
  by_cases c_10 : wh = (9 : Int32)
  · refine lv_tableIn (off := 116) (tgt := 117) hx hb dX0_total_1 (by rw [c_10]; decide) (by rw [c_10]; decide) (by rw [c_10]; rfl) (by decide) ?_
    refine lv_aload_n hx hb dX0_total_117 rfl (lv_at hl 0 rfl) ?_
    refine va_get (D := D) (ci := 0) (v := .int (b.1 5)) (C := RX0) (T := TX0) (N := 11) hx hb hts hinX0 hown hK hP 0 rfl rfl 5 (by decide) w_11 (fun _ h9 => h9) rfl dX0_total_118 ?_
    exact xk_iret (wf := fun z : XBr => wB I q z) (u := b) (u1 := b) hx hb hr rfl hlocks hP hK hD hS (by unfold r_X0_total; rw [if_neg c_1, if_neg c_2, if_neg c_3, if_neg c_4, if_neg c_5, if_neg c_6, if_neg c_7, if_neg c_8, if_neg c_9, if_pos c_10]) rfl dX0_total_121
  by_cases c_11 : wh = (10 : Int32)
  · refine lv_tableIn (off := 121) (tgt := 122) hx hb dX0_total_1 (by rw [c_11]; decide) (by rw [c_11]; decide) (by rw [c_11]; rfl) (by decide) ?_
    refine lv_aload_n hx hb dX0_total_122 rfl (lv_at hl 0 rfl) ?_
    refine va_get (D := D) (ci := 0) (v := .int (b.1 6)) (C := RX0) (T := TX0) (N := 11) hx hb hts hinX0 hown hK hP 0 rfl rfl 8 (by decide) w_12 (fun _ h9 => h9) rfl dX0_total_123 ?_
    exact xk_iret (wf := fun z : XBr => wB I q z) (u := b) (u1 := b) hx hb hr rfl hlocks hP hK hD hS (by unfold r_X0_total; rw [if_neg c_1, if_neg c_2, if_neg c_3, if_neg c_4, if_neg c_5, if_neg c_6, if_neg c_7, if_neg c_8, if_neg c_9, if_neg c_10, if_pos c_11]) rfl dX0_total_126
  have t_c_1 : wh.toInt < 0 ∨ 10 < wh.toInt := by
    have g_c_1 := lv_neT c_1 (a := 0) (by decide)
    have g_c_2 := lv_neT c_2 (a := 1) (by decide)
    have g_c_3 := lv_neT c_3 (a := 2) (by decide)
    have g_c_4 := lv_neT c_4 (a := 3) (by decide)
    have g_c_5 := lv_neT c_5 (a := 4) (by decide)
    have g_c_6 := lv_neT c_6 (a := 5) (by decide)
    have g_c_7 := lv_neT c_7 (a := 6) (by decide)
    have g_c_8 := lv_neT c_8 (a := 7) (by decide)
    have g_c_9 := lv_neT c_9 (a := 8) (by decide)
    have g_c_10 := lv_neT c_10 (a := 9) (by decide)
    have g_c_11 := lv_neT c_11 (a := 10) (by decide)
    omega
  refine lv_tableOut (tgt := 127) hx hb dX0_total_1 t_c_1 (by decide) ?_
  refine lv_aload_n hx hb dX0_total_127 rfl (lv_at hl 0 rfl) ?_
  refine xk_calli ([]) (wB I q b) [0, 1, 2, 3, 4, 5, 6, 7, 8] [] [0, 1, 2, 3, 4, 5, 6, 7, 8] hP hD hS hA (va_runV (As := []) (rest := []) ⟨hx, hb, hml, hown, hts⟩ (c_X0_servedNext l D I q H.size b ) (cwV 0 hts gX0_total_X0_servedNext rfl rfl rfl (by decide +kernel) ⟨Nat.le_of_ble_eq_true rfl, Nat.le_of_ble_eq_true rfl⟩) (xk_preV (wc := wB I q b) (q0 := 0) (ci := 0) hN hP hK hD [0, 1, 2, 3, 4, 5, 6, 7, 8] rfl rfl rfl rfl) rfl rfl hl.1 rfl (lv_room (Nat.le_of_ble_eq_true rfl)) dX0_total_128 ⟨Nat.le_of_ble_eq_true rfl, Nat.le_of_ble_eq_true rfl⟩) rfl rfl rfl (by decide) rfl rfl (fun H locs hP hD hS => ?_)
  exact xk_iret (wf := fun z : XBr => wB I q z) (u := b) (u1 := b) hx hb hr rfl hlocks hP hK hD hS (by unfold r_X0_total; rw [if_neg c_1, if_neg c_2, if_neg c_3, if_neg c_4, if_neg c_5, if_neg c_6, if_neg c_7, if_neg c_8, if_neg c_9, if_neg c_10, if_neg c_11]) rfl dX0_total_131

def r_X0_factOf (b : XBr) (k : Int32) (wh : Int32) : Int32 :=
  if wh = (0 : Int32) then
    ((b.2.2.2 0) k.toNatClampNeg)
  else
    if wh = (1 : Int32) then
      ((b.2.2.2 1) k.toNatClampNeg)
    else
      if wh = (2 : Int32) then
        ((b.2.2.2 2) k.toNatClampNeg)
      else
        if wh = (3 : Int32) then
          ((b.2.2.2 3) k.toNatClampNeg)
        else
          if wh = (4 : Int32) then
            (r_X1_waited b.2.2 k (b.1 0))
          else
            if wh = (5 : Int32) then
              if k = (b.1 6) then
                (b.1 7)
              else
                (0 : Int32)
            else
              ((b.2.2.2 4) k.toNatClampNeg)
set_option maxHeartbeats 800000 in
set_option maxRecDepth 100000 in
theorem c_X0_factOf (l : Launch) (D : va_G) (I : ClassId) (q : Nat → Nat) (sz : Nat) (b : XBr) (k : Int32) (wh : Int32) (hk : vp_in k 40) : xMi l D [(I, .int)] yX0_factOf wsX0_factOf { frames := 1, cells := 0, slots := 0, locals := 23 } [.ref (q 0), .int k, .int wh] sz (wB I q b) (r_X0_factOf b k wh) (wB I q b) 0 0 := by
  refine xk_start (cc := cX0_factOf) (maxL := 3) (ret := (some .int)) (Qf := fun A => xQi D [(I, .int)] A (r_X0_factOf b k wh) (wB I q b)) (by decide) rfl (Nat.le_of_ble_eq_true rfl) ?_
  intro p e s m below meth c A H ls hst hAe hsz hl
  obtain ⟨hx, hb, hr, hts, hown, hlocks, hml, hin, hN, hK, hP, hD, hA, hS⟩ := hst
  have hl : lv_has ls 3 [(0, .ref (q 0)), (1, .int k), (2, .int wh)] := hl
  have hP : va_P D vwCl (wB I q b) H := hP
  have hinX0 : ∀ w ∈ u_ws RX0 TX0 11, w ∈ wsX0_factOf := by decide +kernel
  have hinX1 : ∀ w ∈ u_ws RX1 TX1 12, w ∈ wsX0_factOf := by decide +kernel
  have w_1 := hts (.fieldLink RX0 37 "BridgeBells$Bridge" "travellers" "LBridgeBells$Travellers;") (by decide +kernel)
  have w_2 := hts (.fieldLink RX0 103 "BridgeBells$Travellers" "barge" "[I") (by decide +kernel)
  have w_3 := hts (.fieldLink RX0 106 "BridgeBells$Travellers" "needs" "[I") (by decide +kernel)
  have w_4 := hts (.fieldLink RX0 133 "BridgeBells$Travellers" "state" "[I") (by decide +kernel)
  have w_5 := hts (.fieldLink RX0 136 "BridgeBells$Travellers" "came" "[I") (by decide +kernel)
  have w_6 := hts (.fieldLink RX0 9 "BridgeBells$Bridge" "minute" "I") (by decide +kernel)
  have w_7 := hts (.fieldLink RX0 41 "BridgeBells$Bridge" "passing" "I") (by decide +kernel)
  have w_8 := hts (.fieldLink RX0 44 "BridgeBells$Bridge" "toGo" "I") (by decide +kernel)
  have w_9 := hts (.fieldLink RX0 142 "BridgeBells$Travellers" "passedIn" "[I") (by decide +kernel)
  refine lv_iload_n hx hb dX0_factOf_0 rfl (lv_at hl 2 rfl) ?_
  by_cases c_1 : wh = (0 : Int32)
  · refine lv_tableIn (off := 39) (tgt := 40) hx hb dX0_factOf_1 (by rw [c_1]; decide) (by rw [c_1]; decide) (by rw [c_1]; rfl) (by decide) ?_
    refine lv_aload_n hx hb dX0_factOf_40 rfl (lv_at hl 0 rfl) ?_
    refine va_get (D := D) (ci := 0) (v := .ref (q 2)) (C := RX0) (T := TX0) (N := 11) hx hb hts hinX0 hown hK hP 0 rfl rfl 7 (by decide) w_1 (fun _ h9 => h9) rfl dX0_factOf_41 ?_
    refine va_get (D := D) (ci := 1) (v := .ref (q 3)) (C := RX1) (T := TX1) (N := 12) hx hb hts hinX1 hown hK hP 2 rfl rfl 4 (by decide) w_2 (fun _ h9 => h9) rfl dX0_factOf_44 ?_
    refine lv_iload_n hx hb dX0_factOf_47 rfl (lv_at hl 1 rfl) ?_
    refine va_iald (f := (b.2.2.2 0)) hx hb hK hP 3 0 rfl rfl (show vp_in k 40 from hk) dX0_factOf_48 ?_
    exact xk_iret (wf := fun z : XBr => wB I q z) (u := b) (u1 := b) hx hb hr rfl hlocks hP hK hD hS (by unfold r_X0_factOf; rw [if_pos c_1]) rfl dX0_factOf_49
  by_cases c_2 : wh = (1 : Int32)
  · refine lv_tableIn (off := 49) (tgt := 50) hx hb dX0_factOf_1 (by rw [c_2]; decide) (by rw [c_2]; decide) (by rw [c_2]; rfl) (by decide) ?_
    refine lv_aload_n hx hb dX0_factOf_50 rfl (lv_at hl 0 rfl) ?_
    refine va_get (D := D) (ci := 0) (v := .ref (q 2)) (C := RX0) (T := TX0) (N := 11) hx hb hts hinX0 hown hK hP 0 rfl rfl 7 (by decide) w_1 (fun _ h9 => h9) rfl dX0_factOf_51 ?_
    refine va_get (D := D) (ci := 1) (v := .ref (q 4)) (C := RX1) (T := TX1) (N := 12) hx hb hts hinX1 hown hK hP 2 rfl rfl 5 (by decide) w_3 (fun _ h9 => h9) rfl dX0_factOf_54 ?_
    refine lv_iload_n hx hb dX0_factOf_57 rfl (lv_at hl 1 rfl) ?_
    refine va_iald (f := (b.2.2.2 1)) hx hb hK hP 4 0 rfl rfl (show vp_in k 40 from hk) dX0_factOf_58 ?_
    exact xk_iret (wf := fun z : XBr => wB I q z) (u := b) (u1 := b) hx hb hr rfl hlocks hP hK hD hS (by unfold r_X0_factOf; rw [if_neg c_1, if_pos c_2]) rfl dX0_factOf_59
  by_cases c_3 : wh = (2 : Int32)
  · refine lv_tableIn (off := 59) (tgt := 60) hx hb dX0_factOf_1 (by rw [c_3]; decide) (by rw [c_3]; decide) (by rw [c_3]; rfl) (by decide) ?_
    refine lv_aload_n hx hb dX0_factOf_60 rfl (lv_at hl 0 rfl) ?_
    refine va_get (D := D) (ci := 0) (v := .ref (q 2)) (C := RX0) (T := TX0) (N := 11) hx hb hts hinX0 hown hK hP 0 rfl rfl 7 (by decide) w_1 (fun _ h9 => h9) rfl dX0_factOf_61 ?_
    refine va_get (D := D) (ci := 1) (v := .ref (q 5)) (C := RX1) (T := TX1) (N := 12) hx hb hts hinX1 hown hK hP 2 rfl rfl 6 (by decide) w_4 (fun _ h9 => h9) rfl dX0_factOf_64 ?_
    refine lv_iload_n hx hb dX0_factOf_67 rfl (lv_at hl 1 rfl) ?_
    refine va_iald (f := (b.2.2.2 2)) hx hb hK hP 5 0 rfl rfl (show vp_in k 40 from hk) dX0_factOf_68 ?_
    exact xk_iret (wf := fun z : XBr => wB I q z) (u := b) (u1 := b) hx hb hr rfl hlocks hP hK hD hS (by unfold r_X0_factOf; rw [if_neg c_1, if_neg c_2, if_pos c_3]) rfl dX0_factOf_69
  by_cases c_4 : wh = (3 : Int32)
  · refine lv_tableIn (off := 69) (tgt := 70) hx hb dX0_factOf_1 (by rw [c_4]; decide) (by rw [c_4]; decide) (by rw [c_4]; rfl) (by decide) ?_
    refine lv_aload_n hx hb dX0_factOf_70 rfl (lv_at hl 0 rfl) ?_
    refine va_get (D := D) (ci := 0) (v := .ref (q 2)) (C := RX0) (T := TX0) (N := 11) hx hb hts hinX0 hown hK hP 0 rfl rfl 7 (by decide) w_1 (fun _ h9 => h9) rfl dX0_factOf_71 ?_
    refine va_get (D := D) (ci := 1) (v := .ref (q 6)) (C := RX1) (T := TX1) (N := 12) hx hb hts hinX1 hown hK hP 2 rfl rfl 7 (by decide) w_5 (fun _ h9 => h9) rfl dX0_factOf_74 ?_
    refine lv_iload_n hx hb dX0_factOf_77 rfl (lv_at hl 1 rfl) ?_
    refine va_iald (f := (b.2.2.2 3)) hx hb hK hP 6 0 rfl rfl (show vp_in k 40 from hk) dX0_factOf_78 ?_
    exact xk_iret (wf := fun z : XBr => wB I q z) (u := b) (u1 := b) hx hb hr rfl hlocks hP hK hD hS (by unfold r_X0_factOf; rw [if_neg c_1, if_neg c_2, if_neg c_3, if_pos c_4]) rfl dX0_factOf_79
  by_cases c_5 : wh = (4 : Int32)
  · refine lv_tableIn (off := 79) (tgt := 80) hx hb dX0_factOf_1 (by rw [c_5]; decide) (by rw [c_5]; decide) (by rw [c_5]; rfl) (by decide) ?_
    refine lv_aload_n hx hb dX0_factOf_80 rfl (lv_at hl 0 rfl) ?_
    refine va_get (D := D) (ci := 0) (v := .ref (q 2)) (C := RX0) (T := TX0) (N := 11) hx hb hts hinX0 hown hK hP 0 rfl rfl 7 (by decide) w_1 (fun _ h9 => h9) rfl dX0_factOf_81 ?_
    refine lv_iload_n hx hb dX0_factOf_84 rfl (lv_at hl 1 rfl) ?_
    refine lv_aload_n hx hb dX0_factOf_85 rfl (lv_at hl 0 rfl) ?_
    refine va_get (D := D) (ci := 0) (v := .int (b.1 0)) (C := RX0) (T := TX0) (N := 11) hx hb hts hinX0 hown hK hP 0 rfl rfl 0 (by decide) w_6 (fun _ h9 => h9) rfl dX0_factOf_86 ?_
    refine xk_calli ([cXB q b.1, cA I (q 1) 8 b.2.1]) (wB I q b) [2, 3, 4, 5, 6, 7, 8] [0, 1] [0, 1, 2, 3, 4, 5, 6, 7, 8] hP hD hS hA (va_runV (As := [.int k, .int (b.1 0)]) (rest := []) ⟨hx, hb, hml, hown, hts⟩ (c_X1_waited l D I q H.size b.2.2 k (b.1 0) hk) (cwV 2 hts gX0_factOf_X1_waited rfl rfl rfl (by decide +kernel) ⟨Nat.le_of_ble_eq_true rfl, Nat.le_of_ble_eq_true rfl⟩) (xk_preV (wc := wT I q b.2.2) (q0 := 2) (ci := 1) hN hP hK hD [2, 3, 4, 5, 6, 7, 8] rfl rfl rfl rfl) rfl rfl hl.1 rfl (lv_room (Nat.le_of_ble_eq_true rfl)) dX0_factOf_89 ⟨Nat.le_of_ble_eq_true rfl, Nat.le_of_ble_eq_true rfl⟩) rfl rfl rfl (by decide) rfl rfl (fun H locs hP hD hS => ?_)
    exact xk_iret (wf := fun z : XBr => wB I q z) (u := b) (u1 := b) hx hb hr rfl hlocks hP hK hD hS (by unfold r_X0_factOf; rw [if_neg c_1, if_neg c_2, if_neg c_3, if_neg c_4, if_pos c_5]) rfl dX0_factOf_92
  by_cases c_6 : wh = (5 : Int32)
  · refine lv_tableIn (off := 92) (tgt := 93) hx hb dX0_factOf_1 (by rw [c_6]; decide) (by rw [c_6]; decide) (by rw [c_6]; rfl) (by decide) ?_
    refine lv_iload_n hx hb dX0_factOf_93 rfl (lv_at hl 1 rfl) ?_
    refine lv_aload_n hx hb dX0_factOf_94 rfl (lv_at hl 0 rfl) ?_
    refine va_get (D := D) (ci := 0) (v := .int (b.1 6)) (C := RX0) (T := TX0) (N := 11) hx hb hts hinX0 hown hK hP 0 rfl rfl 8 (by decide) w_7 (fun _ h9 => h9) rfl dX0_factOf_95 ?_
    refine lv_icmp_ne (tgt := 108) hx hb dX0_factOf_98 (by decide) (fun c_7 => ?_) (fun c_7 => ?_)
    · refine lv_iconst (v := (0 : Int32)) hx hb dX0_factOf_108 (by decide) ?_
      exact xk_iret (wf := fun z : XBr => wB I q z) (u := b) (u1 := b) hx hb hr rfl hlocks hP hK hD hS (by unfold r_X0_factOf; rw [if_neg c_1, if_neg c_2, if_neg c_3, if_neg c_4, if_neg c_5, if_pos c_6, if_neg c_7]) rfl dX0_factOf_109
    · refine lv_aload_n hx hb dX0_factOf_101 rfl (lv_at hl 0 rfl) ?_
      refine va_get (D := D) (ci := 0) (v := .int (b.1 7)) (C := RX0) (T := TX0) (N := 11) hx hb hts hinX0 hown hK hP 0 rfl rfl 9 (by decide) w_8 (fun _ h9 => h9) rfl dX0_factOf_102 ?_
      refine lv_goto (tgt := 109) hx hb dX0_factOf_105 (by decide) ?_
      exact xk_iret (wf := fun z : XBr => wB I q z) (u := b) (u1 := b) hx hb hr rfl hlocks hP hK hD hS (by unfold r_X0_factOf; rw [if_neg c_1, if_neg c_2, if_neg c_3, if_neg c_4, if_neg c_5, if_pos c_6, if_pos c_7]) rfl dX0_factOf_109
  have t_c_1 : wh.toInt < 0 ∨ 5 < wh.toInt := by
    have g_c_1 := lv_neT c_1 (a := 0) (by decide)
    have g_c_2 := lv_neT c_2 (a := 1) (by decide)
    have g_c_3 := lv_neT c_3 (a := 2) (by decide)
    have g_c_4 := lv_neT c_4 (a := 3) (by decide)
    have g_c_5 := lv_neT c_5 (a := 4) (by decide)
    have g_c_6 := lv_neT c_6 (a := 5) (by decide)
    omega
  refine lv_tableOut (tgt := 110) hx hb dX0_factOf_1 t_c_1 (by decide) ?_
  refine lv_aload_n hx hb dX0_factOf_110 rfl (lv_at hl 0 rfl) ?_
  refine va_get (D := D) (ci := 0) (v := .ref (q 2)) (C := RX0) (T := TX0) (N := 11) hx hb hts hinX0 hown hK hP 0 rfl rfl 7 (by decide) w_1 (fun _ h9 => h9) rfl dX0_factOf_111 ?_
  refine va_get (D := D) (ci := 1) (v := .ref (q 7)) (C := RX1) (T := TX1) (N := 12) hx hb hts hinX1 hown hK hP 2 rfl rfl 8 (by decide) w_9 (fun _ h9 => h9) rfl dX0_factOf_114 ?_
  refine lv_iload_n hx hb dX0_factOf_117 rfl (lv_at hl 1 rfl) ?_
  refine va_iald (f := (b.2.2.2 4)) hx hb hK hP 7 0 rfl rfl (show vp_in k 40 from hk) dX0_factOf_118 ?_
  exact xk_iret (wf := fun z : XBr => wB I q z) (u := b) (u1 := b) hx hb hr rfl hlocks hP hK hD hS (by unfold r_X0_factOf; rw [if_neg c_1, if_neg c_2, if_neg c_3, if_neg c_4, if_neg c_5, if_neg c_6]) rfl dX0_factOf_119

theorem nz01 {x : Int32} (h : x = 0 ∨ x = 1) : narrow .boolean (.int x) = .int x := by
  rcases h with rfl | rfl <;> rfl
theorem fz01 {x : Int32} (h : x = 0 ∨ x = 1) : fits .boolean (.int x) = true := by
  rcases h with rfl | rfl <;> rfl

set_option maxHeartbeats 800000 in
set_option maxRecDepth 100000 in
theorem c_X0_copyFrom (l : Launch) (D : va_G) (I : ClassId) (q r : Nat → Nat) (sz : Nat) (b : XBr) (o : XBr) (hz : o.1 8 = 0 ∨ o.1 8 = 1) : xMv l D [(I, .int)] yX0_copyFrom wsX0_copyFrom { frames := 2, cells := 0, slots := 0, locals := 39 } [.ref (q 0), .ref (r 0)] sz (wB I q b ++ wB I r o) (wB I q o ++ wB I r o) 0 0 := by
  refine xk_start (cc := cX0_copyFrom) (maxL := 2) (ret := none) (Qf := fun A => xQv D [(I, .int)] A (wB I q o ++ wB I r o)) (by decide) rfl (Nat.le_of_ble_eq_true rfl) ?_
  intro p e s m below meth c A H ls hst hAe hsz hl
  obtain ⟨hx, hb, hr, hts, hown, hlocks, hml, hin, hN, hK, hP, hD, hA, hS⟩ := hst
  have hl : lv_has ls 2 [(0, .ref (q 0)), (1, .ref (r 0))] := hl
  have hP : va_P D vwCl (wB I q b ++ wB I r o) H := hP
  have hinX0 : ∀ w ∈ u_ws RX0 TX0 11, w ∈ wsX0_copyFrom := by decide +kernel
  have w_1 := hts (.fieldLink RX0 9 "BridgeBells$Bridge" "minute" "I") (by decide +kernel)
  have w_2 := hts (.fieldLink RX0 15 "BridgeBells$Bridge" "angle" "I") (by decide +kernel)
  have w_3 := hts (.fieldLink RX0 18 "BridgeBells$Bridge" "counterpoise" "I") (by decide +kernel)
  have w_4 := hts (.fieldLink RX0 21 "BridgeBells$Bridge" "ice" "I") (by decide +kernel)
  have w_5 := hts (.fieldLink RX0 24 "BridgeBells$Bridge" "code" "I") (by decide +kernel)
  have w_6 := hts (.fieldLink RX0 27 "BridgeBells$Bridge" "waitedInAll" "I") (by decide +kernel)
  have w_7 := hts (.fieldLink RX0 30 "BridgeBells$Bridge" "cold" "[I") (by decide +kernel)
  have w_8 := hts (.methodLink RX0 51 arraycopyName) (by decide +kernel)
  have w_9 := hts (.native arraycopyName) (by decide +kernel)
  have w_10 := hts (.static arraycopyName) (by decide +kernel)
  have w_11 := hts (.initialized "java/lang/System") (by decide +kernel)
  have w_12 := hts (.fieldLink RX0 37 "BridgeBells$Bridge" "travellers" "LBridgeBells$Travellers;") (by decide +kernel)
  have w_13 := hts (.fieldLink RX0 41 "BridgeBells$Bridge" "passing" "I") (by decide +kernel)
  have w_14 := hts (.fieldLink RX0 44 "BridgeBells$Bridge" "toGo" "I") (by decide +kernel)
  have w_15 := hts (.fieldLink RX0 47 "BridgeBells$Bridge" "latestWasBarge" "Z") (by decide +kernel)
  refine lv_aload_n hx hb dX0_copyFrom_0 rfl (lv_at hl 0 rfl) ?_
  refine lv_aload_n hx hb dX0_copyFrom_1 rfl (lv_at hl 1 rfl) ?_
  refine va_get (D := D) (ci := 0) (v := .int (o.1 0)) (C := RX0) (T := TX0) (N := 11) hx hb hts hinX0 hown hK hP 9 rfl rfl 0 (by decide) w_1 (fun _ h9 => h9) rfl dX0_copyFrom_2 ?_
  refine va_put (D := D) (ci := 0) (v := .int (o.1 0)) (ty := tyX0 0) (C := RX0) (T := TX0) (N := 11) hx hb hts hinX0 tyX0 tyX0_ok nmX0 hown hK hP hD hS 0 rfl rfl 0 (by decide) w_1 (fun _ h9 => h9) rfl (tyX0_ok 0 (by decide)) rfl rfl (Nat.le_of_ble_eq_true rfl) dX0_copyFrom_5 (fun H locs hP hD hS => ?_)
  have hP : va_P D vwCl (wB I q (xs b.1 0 (o.1 0), b.2) ++ wB I r o) H := hP
  have hD : va_D A (wB I q (xs b.1 0 (o.1 0), b.2) ++ wB I r o) := hD
  refine lv_aload_n hx hb dX0_copyFrom_8 rfl (lv_at hl 0 rfl) ?_
  refine lv_aload_n hx hb dX0_copyFrom_9 rfl (lv_at hl 1 rfl) ?_
  refine va_get (D := D) (ci := 0) (v := .int (o.1 1)) (C := RX0) (T := TX0) (N := 11) hx hb hts hinX0 hown hK hP 9 rfl rfl 1 (by decide) w_2 (fun _ h9 => h9) rfl dX0_copyFrom_10 ?_
  refine va_put (D := D) (ci := 0) (v := .int (o.1 1)) (ty := tyX0 1) (C := RX0) (T := TX0) (N := 11) hx hb hts hinX0 tyX0 tyX0_ok nmX0 hown hK hP hD hS 0 rfl rfl 1 (by decide) w_2 (fun _ h9 => h9) rfl (tyX0_ok 1 (by decide)) rfl rfl (Nat.le_of_ble_eq_true rfl) dX0_copyFrom_13 (fun H locs hP hD hS => ?_)
  have hP : va_P D vwCl (wB I q (xs (xs b.1 0 (o.1 0)) 1 (o.1 1), b.2) ++ wB I r o) H := hP
  have hD : va_D A (wB I q (xs (xs b.1 0 (o.1 0)) 1 (o.1 1), b.2) ++ wB I r o) := hD
  refine lv_aload_n hx hb dX0_copyFrom_16 rfl (lv_at hl 0 rfl) ?_
  refine lv_aload_n hx hb dX0_copyFrom_17 rfl (lv_at hl 1 rfl) ?_
  refine va_get (D := D) (ci := 0) (v := .int (o.1 2)) (C := RX0) (T := TX0) (N := 11) hx hb hts hinX0 hown hK hP 9 rfl rfl 2 (by decide) w_3 (fun _ h9 => h9) rfl dX0_copyFrom_18 ?_
  refine va_put (D := D) (ci := 0) (v := .int (o.1 2)) (ty := tyX0 2) (C := RX0) (T := TX0) (N := 11) hx hb hts hinX0 tyX0 tyX0_ok nmX0 hown hK hP hD hS 0 rfl rfl 2 (by decide) w_3 (fun _ h9 => h9) rfl (tyX0_ok 2 (by decide)) rfl rfl (Nat.le_of_ble_eq_true rfl) dX0_copyFrom_21 (fun H locs hP hD hS => ?_)
  have hP : va_P D vwCl (wB I q (xs (xs (xs b.1 0 (o.1 0)) 1 (o.1 1)) 2 (o.1 2), b.2) ++ wB I r o) H := hP
  have hD : va_D A (wB I q (xs (xs (xs b.1 0 (o.1 0)) 1 (o.1 1)) 2 (o.1 2), b.2) ++ wB I r o) := hD
  refine lv_aload_n hx hb dX0_copyFrom_24 rfl (lv_at hl 0 rfl) ?_
  refine lv_aload_n hx hb dX0_copyFrom_25 rfl (lv_at hl 1 rfl) ?_
  refine va_get (D := D) (ci := 0) (v := .int (o.1 3)) (C := RX0) (T := TX0) (N := 11) hx hb hts hinX0 hown hK hP 9 rfl rfl 3 (by decide) w_4 (fun _ h9 => h9) rfl dX0_copyFrom_26 ?_
  refine va_put (D := D) (ci := 0) (v := .int (o.1 3)) (ty := tyX0 3) (C := RX0) (T := TX0) (N := 11) hx hb hts hinX0 tyX0 tyX0_ok nmX0 hown hK hP hD hS 0 rfl rfl 3 (by decide) w_4 (fun _ h9 => h9) rfl (tyX0_ok 3 (by decide)) rfl rfl (Nat.le_of_ble_eq_true rfl) dX0_copyFrom_29 (fun H locs hP hD hS => ?_)
  have hP : va_P D vwCl (wB I q (xs (xs (xs (xs b.1 0 (o.1 0)) 1 (o.1 1)) 2 (o.1 2)) 3 (o.1 3), b.2) ++ wB I r o) H := hP
  have hD : va_D A (wB I q (xs (xs (xs (xs b.1 0 (o.1 0)) 1 (o.1 1)) 2 (o.1 2)) 3 (o.1 3), b.2) ++ wB I r o) := hD
  refine lv_aload_n hx hb dX0_copyFrom_32 rfl (lv_at hl 0 rfl) ?_
  refine lv_aload_n hx hb dX0_copyFrom_33 rfl (lv_at hl 1 rfl) ?_
  refine va_get (D := D) (ci := 0) (v := .int (o.1 4)) (C := RX0) (T := TX0) (N := 11) hx hb hts hinX0 hown hK hP 9 rfl rfl 4 (by decide) w_5 (fun _ h9 => h9) rfl dX0_copyFrom_34 ?_
  refine va_put (D := D) (ci := 0) (v := .int (o.1 4)) (ty := tyX0 4) (C := RX0) (T := TX0) (N := 11) hx hb hts hinX0 tyX0 tyX0_ok nmX0 hown hK hP hD hS 0 rfl rfl 4 (by decide) w_5 (fun _ h9 => h9) rfl (tyX0_ok 4 (by decide)) rfl rfl (Nat.le_of_ble_eq_true rfl) dX0_copyFrom_37 (fun H locs hP hD hS => ?_)
  have hP : va_P D vwCl (wB I q (xs (xs (xs (xs (xs b.1 0 (o.1 0)) 1 (o.1 1)) 2 (o.1 2)) 3 (o.1 3)) 4 (o.1 4), b.2) ++ wB I r o) H := hP
  have hD : va_D A (wB I q (xs (xs (xs (xs (xs b.1 0 (o.1 0)) 1 (o.1 1)) 2 (o.1 2)) 3 (o.1 3)) 4 (o.1 4), b.2) ++ wB I r o) := hD
  refine lv_aload_n hx hb dX0_copyFrom_40 rfl (lv_at hl 0 rfl) ?_
  refine lv_aload_n hx hb dX0_copyFrom_41 rfl (lv_at hl 1 rfl) ?_
  refine va_get (D := D) (ci := 0) (v := .int (o.1 5)) (C := RX0) (T := TX0) (N := 11) hx hb hts hinX0 hown hK hP 9 rfl rfl 5 (by decide) w_6 (fun _ h9 => h9) rfl dX0_copyFrom_42 ?_
  refine va_put (D := D) (ci := 0) (v := .int (o.1 5)) (ty := tyX0 5) (C := RX0) (T := TX0) (N := 11) hx hb hts hinX0 tyX0 tyX0_ok nmX0 hown hK hP hD hS 0 rfl rfl 5 (by decide) w_6 (fun _ h9 => h9) rfl (tyX0_ok 5 (by decide)) rfl rfl (Nat.le_of_ble_eq_true rfl) dX0_copyFrom_45 (fun H locs hP hD hS => ?_)
  have hP : va_P D vwCl (wB I q (xs (xs (xs (xs (xs (xs b.1 0 (o.1 0)) 1 (o.1 1)) 2 (o.1 2)) 3 (o.1 3)) 4 (o.1 4)) 5 (o.1 5), b.2) ++ wB I r o) H := hP
  have hD : va_D A (wB I q (xs (xs (xs (xs (xs (xs b.1 0 (o.1 0)) 1 (o.1 1)) 2 (o.1 2)) 3 (o.1 3)) 4 (o.1 4)) 5 (o.1 5), b.2) ++ wB I r o) := hD
  refine lv_aload_n hx hb dX0_copyFrom_48 rfl (lv_at hl 1 rfl) ?_
  refine va_get (D := D) (ci := 0) (v := .ref (r 1)) (C := RX0) (T := TX0) (N := 11) hx hb hts hinX0 hown hK hP 9 rfl rfl 6 (by decide) w_7 (fun _ h9 => h9) rfl dX0_copyFrom_49 ?_
  refine lv_iconst (v := (0 : Int32)) hx hb dX0_copyFrom_52 (by decide) ?_
  refine lv_aload_n hx hb dX0_copyFrom_53 rfl (lv_at hl 0 rfl) ?_
  refine va_get (D := D) (ci := 0) (v := .ref (q 1)) (C := RX0) (T := TX0) (N := 11) hx hb hts hinX0 hown hK hP 0 rfl rfl 6 (by decide) w_7 (fun _ h9 => h9) rfl dX0_copyFrom_54 ?_
  refine lv_iconst (v := (0 : Int32)) hx hb dX0_copyFrom_57 (by decide) ?_
  refine lv_bipush (v := (8 : Int32)) hx hb dX0_copyFrom_58 (by decide) ?_
  refine va_copyi hx hb (hml.trans hl.1.symm) hown w_8 w_9 w_10 w_11 hK hP hD hS 10 1 0 0 rfl rfl rfl rfl rfl (by decide) (by decide) (by decide) (by decide) (by decide) (fun _ _ => rfl) (Nat.le_of_ble_eq_true rfl) (Nat.le_of_ble_eq_true rfl) dX0_copyFrom_60 (fun H locs hP hD hS => ?_)
  have hP := xk_arrP (g := o.2.1) 1 hP rfl (cpy_all (by decide))
  have hD := xk_arrD (g := o.2.1) 1 hD rfl
  have hP : va_P D vwCl (wB I q (xs (xs (xs (xs (xs (xs b.1 0 (o.1 0)) 1 (o.1 1)) 2 (o.1 2)) 3 (o.1 3)) 4 (o.1 4)) 5 (o.1 5), o.2.1, b.2.2) ++ wB I r o) H := hP
  have hD : va_D A (wB I q (xs (xs (xs (xs (xs (xs b.1 0 (o.1 0)) 1 (o.1 1)) 2 (o.1 2)) 3 (o.1 3)) 4 (o.1 4)) 5 (o.1 5), o.2.1, b.2.2) ++ wB I r o) := hD
  refine lv_aload_n hx hb dX0_copyFrom_63 rfl (lv_at hl 0 rfl) ?_
  refine va_get (D := D) (ci := 0) (v := .ref (q 2)) (C := RX0) (T := TX0) (N := 11) hx hb hts hinX0 hown hK hP 0 rfl rfl 7 (by decide) w_12 (fun _ h9 => h9) rfl dX0_copyFrom_64 ?_
  refine lv_aload_n hx hb dX0_copyFrom_67 rfl (lv_at hl 1 rfl) ?_
  refine va_get (D := D) (ci := 0) (v := .ref (r 2)) (C := RX0) (T := TX0) (N := 11) hx hb hts hinX0 hown hK hP 9 rfl rfl 7 (by decide) w_12 (fun _ h9 => h9) rfl dX0_copyFrom_68 ?_
  refine xk_callv ([cXB q (xs (xs (xs (xs (xs (xs b.1 0 (o.1 0)) 1 (o.1 1)) 2 (o.1 2)) 3 (o.1 3)) 4 (o.1 4)) 5 (o.1 5)), cA I (q 1) 8 o.2.1, cXB r o.1, cA I (r 1) 8 o.2.1]) (wB I q (xs (xs (xs (xs (xs (xs b.1 0 (o.1 0)) 1 (o.1 1)) 2 (o.1 2)) 3 (o.1 3)) 4 (o.1 4)) 5 (o.1 5), o.2) ++ wB I r o) [2, 3, 4, 5, 6, 7, 8, 11, 12, 13, 14, 15, 16, 17] [0, 1, 9, 10] [0, 1, 4, 5, 6, 7, 8, 9, 10, 2, 3, 11, 12, 13, 14, 15, 16, 17] hP hD hS hA (va_runV (As := [.ref (r 2)]) (rest := []) ⟨hx, hb, hml, hown, hts⟩ (c_X1_copyFrom l D I q r H.size b.2.2 o.2.2 ) (cwV 1 hts gX0_copyFrom_X1_copyFrom rfl rfl rfl (by decide +kernel) ⟨Nat.le_of_ble_eq_true rfl, Nat.le_of_ble_eq_true rfl⟩) (xk_preV (wc := wT I q b.2.2 ++ wT I r o.2.2) (q0 := 2) (ci := 1) hN hP hK hD [2, 3, 4, 5, 6, 7, 8, 11, 12, 13, 14, 15, 16, 17] rfl rfl rfl rfl) rfl rfl hl.1 rfl (lv_room (Nat.le_of_ble_eq_true rfl)) dX0_copyFrom_71 ⟨Nat.le_of_ble_eq_true rfl, Nat.le_of_ble_eq_true rfl⟩) rfl rfl rfl (by decide) rfl rfl (fun H locs hP hD hS => ?_)
  refine lv_aload_n hx hb dX0_copyFrom_74 rfl (lv_at hl 0 rfl) ?_
  refine lv_aload_n hx hb dX0_copyFrom_75 rfl (lv_at hl 1 rfl) ?_
  refine va_get (D := D) (ci := 0) (v := .int (o.1 6)) (C := RX0) (T := TX0) (N := 11) hx hb hts hinX0 hown hK hP 9 rfl rfl 8 (by decide) w_13 (fun _ h9 => h9) rfl dX0_copyFrom_76 ?_
  refine va_put (D := D) (ci := 0) (v := .int (o.1 6)) (ty := tyX0 8) (C := RX0) (T := TX0) (N := 11) hx hb hts hinX0 tyX0 tyX0_ok nmX0 hown hK hP hD hS 0 rfl rfl 8 (by decide) w_13 (fun _ h9 => h9) rfl (tyX0_ok 8 (by decide)) rfl rfl (Nat.le_of_ble_eq_true rfl) dX0_copyFrom_79 (fun H locs hP hD hS => ?_)
  have hP : va_P D vwCl (wB I q (xs (xs (xs (xs (xs (xs (xs b.1 0 (o.1 0)) 1 (o.1 1)) 2 (o.1 2)) 3 (o.1 3)) 4 (o.1 4)) 5 (o.1 5)) 6 (o.1 6), o.2) ++ wB I r o) H := hP
  have hD : va_D A (wB I q (xs (xs (xs (xs (xs (xs (xs b.1 0 (o.1 0)) 1 (o.1 1)) 2 (o.1 2)) 3 (o.1 3)) 4 (o.1 4)) 5 (o.1 5)) 6 (o.1 6), o.2) ++ wB I r o) := hD
  refine lv_aload_n hx hb dX0_copyFrom_82 rfl (lv_at hl 0 rfl) ?_
  refine lv_aload_n hx hb dX0_copyFrom_83 rfl (lv_at hl 1 rfl) ?_
  refine va_get (D := D) (ci := 0) (v := .int (o.1 7)) (C := RX0) (T := TX0) (N := 11) hx hb hts hinX0 hown hK hP 9 rfl rfl 9 (by decide) w_14 (fun _ h9 => h9) rfl dX0_copyFrom_84 ?_
  refine va_put (D := D) (ci := 0) (v := .int (o.1 7)) (ty := tyX0 9) (C := RX0) (T := TX0) (N := 11) hx hb hts hinX0 tyX0 tyX0_ok nmX0 hown hK hP hD hS 0 rfl rfl 9 (by decide) w_14 (fun _ h9 => h9) rfl (tyX0_ok 9 (by decide)) rfl rfl (Nat.le_of_ble_eq_true rfl) dX0_copyFrom_87 (fun H locs hP hD hS => ?_)
  have hP : va_P D vwCl (wB I q (xs (xs (xs (xs (xs (xs (xs (xs b.1 0 (o.1 0)) 1 (o.1 1)) 2 (o.1 2)) 3 (o.1 3)) 4 (o.1 4)) 5 (o.1 5)) 6 (o.1 6)) 7 (o.1 7), o.2) ++ wB I r o) H := hP
  have hD : va_D A (wB I q (xs (xs (xs (xs (xs (xs (xs (xs b.1 0 (o.1 0)) 1 (o.1 1)) 2 (o.1 2)) 3 (o.1 3)) 4 (o.1 4)) 5 (o.1 5)) 6 (o.1 6)) 7 (o.1 7), o.2) ++ wB I r o) := hD
  refine lv_aload_n hx hb dX0_copyFrom_90 rfl (lv_at hl 0 rfl) ?_
  refine lv_aload_n hx hb dX0_copyFrom_91 rfl (lv_at hl 1 rfl) ?_
  refine va_get (D := D) (ci := 0) (v := .int (o.1 8)) (C := RX0) (T := TX0) (N := 11) hx hb hts hinX0 hown hK hP 9 rfl rfl 10 (by decide) w_15 (fun _ h9 => h9) rfl dX0_copyFrom_92 ?_
  refine va_put (D := D) (ci := 0) (v := .int (o.1 8)) (ty := tyX0 10) (C := RX0) (T := TX0) (N := 11) hx hb hts hinX0 tyX0 tyX0_ok nmX0 hown hK hP hD hS 0 rfl rfl 10 (by decide) w_15 (fun _ h9 => h9) rfl (tyX0_ok 10 (by decide)) (nz01 hz) (fz01 hz) (Nat.le_of_ble_eq_true rfl) dX0_copyFrom_95 (fun H locs hP hD hS => ?_)
  have hP : va_P D vwCl (wB I q (xs (xs (xs (xs (xs (xs (xs (xs (xs b.1 0 (o.1 0)) 1 (o.1 1)) 2 (o.1 2)) 3 (o.1 3)) 4 (o.1 4)) 5 (o.1 5)) 6 (o.1 6)) 7 (o.1 7)) 8 (o.1 8), o.2) ++ wB I r o) H := hP
  have hD : va_D A (wB I q (xs (xs (xs (xs (xs (xs (xs (xs (xs b.1 0 (o.1 0)) 1 (o.1 1)) 2 (o.1 2)) 3 (o.1 3)) 4 (o.1 4)) 5 (o.1 5)) 6 (o.1 6)) 7 (o.1 7)) 8 (o.1 8), o.2) ++ wB I r o) := hD
  have hP : va_P D vwCl (wB I q o ++ wB I r o) H := hP
  have hD : va_D A (wB I q o ++ wB I r o) := hD
  exact xk_vret (wf := fun z : XBr × XBr => wB I q z.1 ++ wB I r z.2) (u := (o, o)) (u1 := (o, o)) hx hb hr hlocks hP hK hD hS rfl dX0_copyFrom_98
end
section
/-! OWN KIT 2: contracts with a part of the end left open (V) -/
section XK2
abbrev xQiE (D : va_G) (tys : List (ClassId × FieldType)) (A : Nat → Prop) (V : Type) (R : Int32) (wf : V → va_W) := va_Qi (fun (r : Int32) (_ : V) => r = R) (fun v => xB D tys A (wf v)) A
abbrev xMiE (l : Launch) (D : va_G) (tys : List (ClassId × FieldType)) (y : MethodName) (ws : List Cond) (rm : Room) (av : List Value) (sz : Nat) (wc : va_W) (V : Type) (R : Int32) (wf : V → va_W) (mc ms : Nat) := Met l y ws rm (xPc D tys av sz wc) (xQiE D tys (va_A wc sz) V R wf) mc ms (va_A wc sz)
variable {p : Program} {l : Launch} {e : Env} {R : Room} {s : State} {m : MethodId} {args : Array Value} {below : List Frame} {meth : Method} {c : Code} {H : Heap} {locs : List Loc} {cells slots : Nat} {Q : State → Prop}
variable {cc : ByteArray} {pc : Nat} {ls : Array Slot} {rest st0 : List Value} {D : va_G} {tys : List (ClassId × FieldType)} {A : Nat → Prop} {H0 : Heap}
theorem xk_iretE {V U : Type} {wf : U → V → va_W} {u u1 : U} (v0 : V) {v Rv : Int32} {ty : FieldType} (hx : p.tables.exec = Jvm.exec) (hb : c.code = cc) (hr : meth.sig.returnType = some ty) (hn : narrow ty (.int v) = .int v) (hlocks : meth.locks = false) (hP : va_P D vwCl (wf u v0) H) (hK : va_K D vwCl tys s) (hD : va_D A (wf u v0)) (hS : va_S A s.heap H locs) (hv : v = Rv) (hu : u = u1) (hdg : decode cc pc = .ok (.ireturn, 1)) :
    W p l e R s m args below meth c H locs cells slots (MQ below (xQiE D tys A V Rv (wf u1)) args s cells slots A) (F0 m pc ls [.int v]) := by
  subst hu
  exact W.zret hx hb hr hn (fun t ht hW => ⟨⟨v, v0, rfl, hv, by rw [ht]; exact hP, va_K.moved hW.alike hK, hD⟩, hS.F ht⟩) hS.2.2 hdg hlocks
theorem xk_calliE {V : Type} {mc ms : Nat} {a9 : Array Value} {Rv : Int32} {wsA wc : va_W} {w1 : V → va_W} (wr : va_W) (w2 : V → va_W) (isC isR perm : List Nat) (hP : va_P D vwCl wsA H) (hD : va_D A wsA) (hS : va_S A H0 H locs) (hA : ∀ q, H0.size ≤ q → A q)
    (hr : va_Run p l e R s m args below meth c H locs cells slots mc ms (F0 m pc ls st0) rest (xQiE D tys (va_A wc H.size) V Rv w1 a9) (va_A wc H.size))
    (hC : isC.map (fun i => wsA[i]?) = wc.map some) (hR : isR.map (fun i => wsA[i]?) = wr.map some) (hn : va_nd isR = true) (hdis : ∀ i ∈ isR, i ∉ isC) (hpn : va_nd perm = true) (hp : ∀ v, perm.map (fun i => (wr ++ w1 v)[i]?) = (w2 v).map some)
    (kk : ∀ (v : V) (H1 : Heap) (locs1 : List Loc), va_P D vwCl (w2 v) H1 → va_D A (w2 v) → va_S A H0 H1 locs1 → W p l e R s m args below meth c H1 locs1 (cells + mc) (slots + ms) Q (F0 m (pc + 3) ls (.int Rv :: rest))) : W p l e R s m args below meth c H locs cells slots Q (F0 m pc ls st0) := by
  have hF := va_free (wc := wc) hD hS hA isC hC
  refine va_calli hr hS (fun q _ h => hF q h) hF (fun r u t H1 locs1 ht hvm hw hB hz1 hk1 hS1 => ?_)
  have hw : r = Rv := hw
  subst hw
  obtain ⟨h1, h2⟩ := xk_joined hP hD hS hA isC isR perm hC hR hn hdis hpn (hp u) ht hB hk1
  exact kk u H1 locs1 h1 h2 hS1
/-- the class of the int rows is one -/
theorem xk_cA {I cA : ClassId} (h : va_K D vwCl ([(I, .int)] ++ [(cA, .int)]) s) : cA = I := by
  have h0 : s.vm.findClass ("[" ++ FieldType.int.toString) = some I := (h.2 0 (I, .int) rfl).2
  have h1 : s.vm.findClass ("[" ++ FieldType.int.toString) = some cA := (h.2 1 (cA, .int) rfl).2
  exact Option.some.inj (h1.symm.trans h0)
end XK2
/-! means: no NaN -/
theorem nn_iff (x : UInt64) : vf_n64 x ↔ x.toNat % 9223372036854775808 ≤ 9218868437227405312 := by
  have h1 : (0x7fffffffffffffff : UInt64).toNat = 2 ^ 63 - 1 := by decide
  have h2 : (0x7ff0000000000000 : UInt64).toNat = 9218868437227405312 := by decide
  unfold vf_n64
  rw [UInt64.le_iff_toNat_le, UInt64.toNat_and, h1, h2, Nat.and_two_pow_sub_one_eq_mod]
theorem nn_no {x : UInt64} : vf_n64 x ↔ FP.Core.dIsNaN x = false := by
  rw [nn_iff, ← Bool.not_eq_true, FP.Core.isNaN_bits]; omega
theorem nn_i2d (v : Int32) : vf_n64 (FP.i2d v) := by
  have h : FP.Core.DFin (FP.i2d v) := FP.Core.i2d_fin v
  rw [FP.Core.fin_bits] at h
  rw [nn_iff]
  omega
theorem mean_nn (v n : Int32) (h : ¬ n = 0) : vf_n64 (FP.ddiv (FP.i2d v) (FP.i2d n)) := by
  refine nn_no.mpr (FP.Core.ddiv_out (nn_no.mp (nn_i2d v)) (FP.Core.i2d_fin n) ?_)
  have h2 : (FP.i2d n).toNat % 2 ^ 63 ≠ 0 := FP.Core.i2d_ne_zero h
  exact fun q => h2 ((FP.Core.zero_bits2 _).mp q)
theorem lt_nI {n : Int32} {k j : Nat} (hn : n.toInt = (k : Int)) (h : k < j) (h2 : j < 2 ^ 31) : n < nI j := by
  rw [Int32.lt_iff_toInt_lt, nI_toInt h2, hn]; omega
theorem nlt_nI {n : Int32} {k j : Nat} (hn : n.toInt = (k : Int)) (h : j ≤ k) (h2 : j < 2 ^ 31) : ¬ n < nI j := by
  rw [Int32.lt_iff_toInt_lt, nI_toInt h2, hn]; omega
theorem nOk_nI {x : Int32} (h : nOk x) : x = nI x.toNatClampNeg := by
  have h1 := h.1
  have h2 := h.2
  exact Int32.toInt_inj.mp (by rw [nI_toInt (by rw [clampInt]; omega), clampInt]; omega)
theorem in_nI {k n : Nat} (h : k < n) (hn : n ≤ 40) : vp_in (nI k) 40 := vp_in_nI (by omega) (by omega)
def m_d2 (f : Nat → Int32) (d : Int64) : Nat → Int64
  | 0 => d
  | k + 1 => m_d2 f d k * 31 + (f k).toInt64
end
section
/-! OWN KIT 3: contracts of methods that return or throw -/
section XK3
abbrev eIA : String := "java/lang/IllegalArgumentException"
abbrev eIS : String := "java/lang/IllegalStateException"
abbrev eIO : String := "java/lang/IndexOutOfBoundsException"
abbrev exN : List String := ["java/lang/RuntimeException", "java/lang/Exception"]
abbrev xwl : List Cond := [.castable eIA eIA, .castable eIS eIS, .castable eIO eIO, .declares (Bundle.initS "java/lang/RuntimeException"), .declares (Bundle.initS "java/lang/Exception"), .declares (Bundle.initS Bundle.tN)]
theorem xdecl {x : MethodName} {s U : State} (hW : s.WarmedH U.vm) (hZ : va_Nw (.declares x) s) : va_Nw (.declares x) U := va_tabs rfl (rfl : (s.setVm U.vm).vm = U.vm) (by rw [Cond.declares_setVm hW.alike]; exact hZ)
abbrev xnc : List (String × String) := [(eIS, eIA), (eIS, eIO), (eIA, eIO), (eIO, eIA)]
abbrev strl : List (Nat × String) := [(101, "what is not 0 to 6"), (106, "what is not 0 to 11"), (119, "minutes is not 1 to 240"), (135, "what is not 0 to 3"), (21, "minutes is not 1 to 6"), (38, "there are 40 travellers"), (54, "there is no such traveller"), (61, "the traveller does not wait"), (71, "code is not 0 to 4"), (76, "counterpoise is not 0 to 30"), (81, "the bridge is neither up nor down"), (86, "hour is not 0 to 7"), (88, "cold is not -3 to 3")]
/-- what a throw needs beside the words -/
def xX (A : Nat → Prop) (U : State) (H : Heap) : Prop := (∀ w ∈ xwl, va_Nw w U) ∧ (∀ q ∈ xnc, va_Nc q.1 q.2 U) ∧ vx_Zq Bundle.tN "UNASSIGNED_STACK" Bundle.steD A U H ∧ vx_Zq Bundle.tN "SUPPRESSED_SENTINEL" Bundle.listD A U H ∧ ∀ q ∈ strl, ∃ a : Nat, vk_R RX2 q.1 q.2 a U
theorem xX.same {A : Nat → Prop} {u U : State} {H : Heap} (hvm : u.vm = U.vm) (h : xX A u H) : xX A U H := by
  obtain ⟨h1, h2, h3, h4, h5⟩ := h
  have hal : u.vm.Alike U.vm := by rw [hvm]; exact Vm.Alike.refl _
  refine ⟨fun w hw => ?_, fun q hq => va_Nc.moved hal (h2 q hq), vx_Zq.moved hal h3, vx_Zq.moved hal h4, fun q hq => ?_⟩
  · have h0 := h1 w hw
    simp only [xwl, List.mem_cons, List.not_mem_nil, or_false] at hw
    rcases hw with rfl | rfl | rfl | rfl | rfl | rfl
    all_goals exact va_Nw.same rfl hvm h0
  · obtain ⟨a, ha⟩ := h5 q hq
    exact ⟨a, vk_R.same hvm.symm ha⟩
theorem xX.warm {A : Nat → Prop} {s U : State} {H : Heap} (hW : s.WarmedH U.vm) (h : xX A s H) : xX A U H := by
  obtain ⟨h1, h2, h3, h4, h5⟩ := h
  refine ⟨fun w hw => ?_, fun q hq => va_Nc.moved hW.alike (h2 q hq), vx_Zq.moved hW.alike h3, vx_Zq.moved hW.alike h4, fun q hq => ?_⟩
  · have h0 := h1 w hw
    simp only [xwl, List.mem_cons, List.not_mem_nil, or_false] at hw
    rcases hw with rfl | rfl | rfl | rfl | rfl | rfl
    all_goals first | exact va_Nw.warmC hW h0 | exact xdecl hW h0
  · obtain ⟨a, ha⟩ := h5 q hq
    exact ⟨a, vk_R.warm hW ha⟩
theorem xX.kept {A : Nat → Prop} {U : State} {H H1 : Heap} (h : xX A U H) (hq : ∀ a : Nat, a < H.size → ¬ A a → H1[a]? = H[a]?) : xX A U H1 := ⟨h.1, h.2.1, h.2.2.1.kept hq, h.2.2.2.1.kept hq, h.2.2.2.2⟩
theorem xX.narrow {A B : Nat → Prop} {U : State} {H : Heap} (h : xX A U H) (hAB : ∀ q, B q → A q) : xX B U H := ⟨h.1, h.2.1, h.2.2.1.narrow hAB, h.2.2.2.1.narrow hAB, h.2.2.2.2⟩
def xPcX (D : va_G) (tys : List (ClassId × FieldType)) (av : List Value) (sz : Nat) (ws : va_W) : Array Value → State → Prop := va_Pc av (fun U => U.heap.size = sz ∧ va_P D vwCl ws U.heap ∧ va_K D vwCl tys U ∧ va_D (fun _ => True) ws ∧ xNw U ∧ xX (va_A ws sz) U U.heap)
abbrev xQiX (D : va_G) (tys : List (ClassId × FieldType)) (A : Nat → Prop) (V : Type) (R kx : Int32) (wf : V → va_W) := va_Qi (fun (r : Int32) (_ : V) => kx = 0 ∧ r = R) (fun v => xB D tys A (wf v)) A
abbrev xXC (D : va_G) (tys : List (ClassId × FieldType)) (A : Nat → Prop) (V : Type) (nm : List (String × Int32)) (kx : Int32) (wf : V → va_W) : String → State → State → Prop := vx_X (fun _ : V => True) (fun E v t => (E, kx) ∈ nm ∧ xB D tys A (wf v) t) A
abbrev xMX (l : Launch) (D : va_G) (tys : List (ClassId × FieldType)) (y : MethodName) (ws : List Cond) (rm : Room) (av : List Value) (sz : Nat) (wc : va_W) (V : Type) (nm : List (String × Int32)) (R kx : Int32) (wf : V → va_W) (mc ms : Nat) := vx_Met l y ws rm (xPcX D tys av sz wc) (xQiX D tys (va_A wc sz) V R kx wf) (xXC D tys (va_A wc sz) V nm kx wf) mc ms (va_A wc sz)
theorem xk_startX {l : Launch} {y : MethodName} {ws ws' : List Cond} {rm : Room} {D : va_G} {tys : List (ClassId × FieldType)} {av : List Value} {sz : Nat} {wc : va_W} {Qf : (Nat → Prop) → Array Value → State → Outcome → State → Prop} {XCf : (Nat → Prop) → String → State → State → Prop} {mc ms : Nat} {cc : ByteArray} {maxL : Nat} {ret : Option FieldType}
    (hy : plainName y.cls = true) (hw : ws = Cond.code y cc maxL ret :: ws') (hn : (lg_sl av).length ≤ maxL)
    (body : ∀ (p : Program) (e : Env) (s : State) (m : MethodId) (below : List Frame) (meth : Method) (c : Code) (A : Nat → Prop) (H : Heap) (ls : Array Slot), xSt p s m meth c cc ret ws y av.toArray maxL D tys wc A H → va_A wc s.heap.size = A → s.heap.size = sz → lv_has ls maxL (lv_args 0 av) → (∀ x ∈ c.exceptionTable.toList, False) → xX A s s.heap → W p l e rm s m av.toArray below meth c H [] 0 0 (vx_MQ below (Qf A) (XCf A) av.toArray s mc ms A) (F0 m 0 ls [])) :
    vx_Met l y ws rm (xPcX D tys av sz wc) (Qf (va_A wc sz)) (XCf (va_A wc sz)) mc ms (va_A wc sz) := by
  refine vx_ofW (cc := cc) (maxL := maxL) (ret := ret) hy hw ?_
  intro p e s m args below meth c s₁ B hml hex hv
  obtain ⟨rfl, hsz, hP, hK, hD0, hN, hXX⟩ := hv
  subst hsz
  have hl := lv_entry av (n := maxL) hn
  rw [lg_entry_eq]
  exact body p e s m below meth c (va_A wc s.heap.size) s.heap _ ⟨B.exec, B.bytes, B.returns, atoms_spec (ws := ws) B.pre, findClass_of_methodNamed B.named, B.notSynchronized, hml, (name_of_methodNamed B.named B.method).1, hN, hK, hP, hD0.self, fun q h => Or.inr h, va_S.rf⟩ rfl rfl hl hex hXX
variable {p : Program} {l : Launch} {e : Env} {R : Room} {s : State} {m : MethodId} {args : Array Value} {below : List Frame} {meth : Method} {c : Code} {H : Heap} {locs : List Loc} {cells slots : Nat} {Q : State → Prop}
variable {cc : ByteArray} {pc : Nat} {ls : Array Slot} {rest st0 : List Value} {D : va_G} {tys : List (ClassId × FieldType)} {A : Nat → Prop} {H0 : Heap}
theorem xk_iretX {V U : Type} {wf : U → V → va_W} {u u1 : U} (v0 : V) {v Rv kx : Int32} {XC : String → State → State → Prop} {ty : FieldType} (hx : p.tables.exec = Jvm.exec) (hb : c.code = cc) (hr : meth.sig.returnType = some ty) (hn : narrow ty (.int v) = .int v) (hlocks : meth.locks = false) (hP : va_P D vwCl (wf u v0) H) (hK : va_K D vwCl tys s) (hD : va_D A (wf u v0)) (hS : va_S A s.heap H locs) (hk : kx = 0) (hv : v = Rv) (hu : u = u1) (hdg : decode cc pc = .ok (.ireturn, 1)) :
    W p l e R s m args below meth c H locs cells slots (vx_MQ below (xQiX D tys A V Rv kx (wf u1)) XC args s cells slots A) (F0 m pc ls [.int v]) := by
  subst hu
  exact vx_ret (W.zret hx hb hr hn (fun t ht hW => ⟨⟨v, v0, rfl, ⟨hk, hv⟩, by rw [ht]; exact hP, va_K.moved hW.alike hK, hD⟩, hS.F ht⟩) hS.2.2 hdg hlocks)
theorem xk_throw {V U : Type} {wf : U → V → va_W} {u u1 : U} (v0 : V) {nm : List (String × Int32)} {kx : Int32} {Qc : Array Value → State → Outcome → State → Prop} {cls text : String} {ik is ic mc ms : Nat}
    (hx : p.tables.exec = Jvm.exec) (hb : c.code = cc) (hl : l.stackTraces = false) (hown : s.vm.findClass RX2 = some m.cls) (hfit : Bundle.fit cls = true) (hk : (Cond.classLink RX2 ik cls).before args s = true) (hini : (Cond.initialized cls).before args s = true) (hstr : (is, text) ∈ strl)
    (hts : ∀ w ∈ (vx_atS RX2 ic cls exN).filter goodWord, w.before args s = true) (hng : ∀ w ∈ (vx_atS RX2 ic cls exN).filter (fun w => !goodWord w), w ∈ xwl) (hgood : ∀ w ∈ Cond.classLink RX2 ik cls :: Cond.initialized cls :: vx_atS RX2 ic cls exN, vx_ot w = true)
    (hXX : xX A s s.heap) (hP : va_P D vwCl (wf u v0) H) (hK : va_K D vwCl tys s) (hD : va_D A (wf u v0)) (hS : va_S A s.heap H locs) (hsize : ls.size = c.maxLocals)
    (d0 : decode cc pc = .ok (.new ik, 3)) (d3 : decode cc (pc + 3) = .ok (.dup, 1)) (d4 : decode cc (pc + 4) = .ok (.ldc is, 2)) (d6 : decode cc (pc + 6) = .ok (.invokespecial ic, 3)) (d9 : decode cc (pc + 9) = .ok (.athrow, 1))
    (hex : ∀ x ∈ c.exceptionTable.toList, False) (hRf : 5 < R.frames) (hRl : (rest.map fun v => v.category).sum + 82 ≤ R.locals) (hRc : cells + 1 ≤ R.cells) (hRs : slots + 6 ≤ R.slots) (hlocks : meth.locks = false) (hc : cells + 1 ≤ mc) (hs : slots + 6 ≤ ms)
    (hE : (cls, kx) ∈ nm) (hu : u = u1) :
    W p l e R s m args below meth c H locs cells slots (vx_MQ below Qc (xXC D tys A V nm kx (wf u1)) args s mc ms A) (F0 m pc ls rest) := by
  subst hu
  obtain ⟨h1, h2, h3, h4, h5⟩ := hXX
  obtain ⟨sa, hsa⟩ := h5 _ hstr
  refine vx_throwS (names := exN) (A := A) hx hb hl hown hfit (by decide) hk hini hsa (vx_hat hts hng (fun w hw => va_Nw.use (by
      simp only [xwl, List.mem_cons, List.not_mem_nil, or_false] at hw
      rcases hw with rfl | rfl | rfl | rfl | rfl | rfl
      all_goals rfl) (h1 w hw))) hgood h3 h4 hS hsize d0 d3 d4 d6 d9 (fun x hx => (hex x hx).elim) hRf hRl hRc hRs hlocks (fun t hal hsz hq => ?_) hS.2.2 hc hs
  refine ⟨v0, trivial, ⟨hE, hP.kept (fun k q hk => hq _ (hP k q hk).lt), va_K.moved hal hK, hD⟩, Nat.le_trans hS.1 hsz, fun q h8 h9 => ?_⟩
  rw [hq q (Nat.lt_of_lt_of_le h8 hS.1)]
  exact hS.2.1 q h8 h9
end XK3
end
section
theorem lt40 {x : Int32} (h : x < (40 : Int32)) : x.toInt < 40 := by
  rw [Int32.lt_iff_toInt_lt] at h
  have h3 : (40 : Int32).toInt = 40 := by decide
  omega
theorem in08 {x : Int32} (h1 : ¬ x < 0) (h2 : x < (8 : Int32)) : vp_in x 8 := by
  rw [Int32.lt_iff_toInt_lt] at h1 h2
  have h3 : (8 : Int32).toInt = 8 := by decide
  have h4 : (0 : Int32).toInt = 0 := by decide
  exact vinN (by omega) (by omega)

def r_X2_isSpan (mi : Int32) : Int32 :=
  if mi < (1 : Int32) then
    (0 : Int32)
  else
    if (240 : Int32) < mi then
      (0 : Int32)
    else
      (1 : Int32)
set_option maxHeartbeats 800000 in
set_option maxRecDepth 100000 in
theorem c_X2_isSpan (l : Launch) (D : va_G) (I : ClassId) (sz : Nat) (mi : Int32)  : xMi l D [(I, .int)] yX2_isSpan wsX2_isSpan { frames := 0, cells := 0, slots := 0, locals := 0 } [.int mi] sz [] (r_X2_isSpan mi) [] 0 0 := by
  refine xk_start (cc := cX2_isSpan) (maxL := 1) (ret := (some .boolean)) (Qf := fun A => xQi D [(I, .int)] A (r_X2_isSpan mi) []) (by decide) rfl (Nat.le_of_ble_eq_true rfl) ?_
  intro p e s m below meth c A H ls hst hAe hsz hl
  obtain ⟨hx, hb, hr, hts, hown, hlocks, hml, hin, hN, hK, hP, hD, hA, hS⟩ := hst
  have hl : lv_has ls 1 [(0, .int mi)] := hl
  refine lv_iload_n hx hb dX2_isSpan_0 rfl (lv_at hl 0 rfl) ?_
  refine lv_iconst (v := (1 : Int32)) hx hb dX2_isSpan_1 (by decide) ?_
  refine lv_icmp_lt (tgt := 16) hx hb dX2_isSpan_2 (by decide) (fun c_1 => ?_) (fun c_1 => ?_)
  · refine lv_iconst (v := (0 : Int32)) hx hb dX2_isSpan_16 (by decide) ?_
    exact xk_iret (wf := fun _ : Unit => ([] : va_W)) (u := ()) hx hb hr rfl hlocks hP hK hD hS (by unfold r_X2_isSpan; rw [if_pos c_1]) rfl dX2_isSpan_17
  · refine lv_iload_n hx hb dX2_isSpan_5 rfl (lv_at hl 0 rfl) ?_
    refine lv_sipush (v := (240 : Int32)) hx hb dX2_isSpan_6 (by decide) ?_
    refine lv_icmp_gt (tgt := 16) hx hb dX2_isSpan_9 (by decide) (fun c_2 => ?_) (fun c_2 => ?_)
    · refine lv_iconst (v := (0 : Int32)) hx hb dX2_isSpan_16 (by decide) ?_
      exact xk_iret (wf := fun _ : Unit => ([] : va_W)) (u := ()) hx hb hr rfl hlocks hP hK hD hS (by unfold r_X2_isSpan; rw [if_neg c_1, if_pos c_2]) rfl dX2_isSpan_17
    · refine lv_iconst (v := (1 : Int32)) hx hb dX2_isSpan_12 (by decide) ?_
      refine lv_goto (tgt := 17) hx hb dX2_isSpan_13 (by decide) ?_
      exact xk_iret (wf := fun _ : Unit => ([] : va_W)) (u := ()) hx hb hr rfl hlocks hP hK hD hS (by unfold r_X2_isSpan; rw [if_neg c_1, if_neg c_2]) rfl dX2_isSpan_17

theorem span_b {v : Int32} (h : ¬ r_X2_isSpan v = 0) : 0 ≤ v.toInt ∧ v.toInt ≤ 240 := by
  unfold r_X2_isSpan at h
  have h3 : (1 : Int32).toInt = 1 := by decide
  have h4 : (240 : Int32).toInt = 240 := by decide
  by_cases h1 : v < (1 : Int32)
  · rw [if_pos h1] at h
    exact absurd rfl h
  · rw [if_neg h1] at h
    by_cases h2 : (240 : Int32) < v
    · rw [if_pos h2] at h
      exact absurd rfl h
    · rw [Int32.lt_iff_toInt_lt] at h1 h2
      omega

def g1_X2_come (b : XBr) (bg : Int32) (mn : Int32) : XT := s_X1_add b.2.2 bg mn (b.1 0)
def r_X2_come (b : XBr) (bg : Int32) (mn : Int32) : Int32 :=
  if mn < (1 : Int32) then
    (0 : Int32)
  else
    if mn ≤ (6 : Int32) then
      if (b.2.2.1 0) < (40 : Int32) then
        (r_X1_add b.2.2 bg mn (b.1 0))
      else
        (0 : Int32)
    else
      (0 : Int32)
def x_X2_come (b : XBr) (bg : Int32) (mn : Int32) : Int32 :=
  if mn < (1 : Int32) then
    (1 : Int32)
  else
    if mn ≤ (6 : Int32) then
      if (b.2.2.1 0) < (40 : Int32) then
        (0 : Int32)
      else
        (2 : Int32)
    else
      (1 : Int32)
def s_X2_come (b : XBr) (bg : Int32) (mn : Int32) : XBr :=
  if mn < (1 : Int32) then
    b
  else
    if mn ≤ (6 : Int32) then
      if (b.2.2.1 0) < (40 : Int32) then
        (b.1, b.2.1, (g1_X2_come b bg mn))
      else
        b
    else
      b
set_option maxHeartbeats 1600000 in
set_option maxRecDepth 100000 in
theorem c_X2_come (l : Launch) (hlt : l.stackTraces = false) (D : va_G) (I : ClassId) (h : Nat) (qb qt : Nat → Nat) (sz : Nat) (b z : XBr) (bg : Int32) (mn : Int32) (hn : nOk (b.2.2.1 0)) : xMX l D [(I, .int)] yX2_come wsX2_come { frames := 6, cells := 1, slots := 6, locals := 82 } [.ref h, .int bg, .int mn] sz ([cX h qb qt] ++ wB I qb b ++ wB I qt z) XBr [(eIA, 1), (eIS, 2)] (r_X2_come b bg mn) (x_X2_come b bg mn) (fun v : XBr => [cX h qb qt] ++ wB I qb (s_X2_come b bg mn) ++ wB I qt v) 1 6 := by
  refine xk_startX (cc := cX2_come) (maxL := 3) (ret := (some .int)) (Qf := fun A => xQiX D [(I, .int)] A XBr (r_X2_come b bg mn) (x_X2_come b bg mn) (fun v : XBr => [cX h qb qt] ++ wB I qb (s_X2_come b bg mn) ++ wB I qt v)) (XCf := fun A => xXC D [(I, .int)] A XBr [(eIA, 1), (eIS, 2)] (x_X2_come b bg mn) (fun v : XBr => [cX h qb qt] ++ wB I qb (s_X2_come b bg mn) ++ wB I qt v)) (by decide) rfl (Nat.le_of_ble_eq_true rfl) ?_
  intro p e s m below meth c A H ls hst hAe hsz hl hex hXX
  obtain ⟨hx, hb, hr, hts, hown, hlocks, hml, hin, hN, hK, hP, hD, hA, hS⟩ := hst
  have hl : lv_has ls 3 [(0, .ref h), (1, .int bg), (2, .int mn)] := hl
  have hP : va_P D vwCl ([cX h qb qt] ++ wB I qb b ++ wB I qt z) H := hP
  have hinX2 : ∀ w ∈ u_ws RX2 TX2 2, w ∈ wsX2_come := by decide +kernel
  have hinX0 : ∀ w ∈ u_ws RX0 TX0 11, w ∈ wsX2_come := by decide +kernel
  have hinX1 : ∀ w ∈ u_ws RX1 TX1 12, w ∈ wsX2_come := by decide +kernel
  have w_1 := hts (.classLink RX2 19 eIA) (by decide +kernel)
  have w_2 := hts (.initialized eIA) (by decide +kernel)
  have w_3 := hts (.fieldLink RX2 10 "BridgeBells" "bridge" "LBridgeBells$Bridge;") (by decide +kernel)
  have w_4 := hts (.fieldLink RX2 26 "BridgeBells$Bridge" "travellers" "LBridgeBells$Travellers;") (by decide +kernel)
  have w_5 := hts (.fieldLink RX2 30 "BridgeBells$Travellers" "number" "I") (by decide +kernel)
  have w_6 := hts (.fieldLink RX2 41 "BridgeBells$Bridge" "minute" "I") (by decide +kernel)
  have w_7 := hts (.classLink RX2 36 eIS) (by decide +kernel)
  have w_8 := hts (.initialized eIS) (by decide +kernel)
  refine lv_iload_n hx hb dX2_come_0 rfl (lv_at hl 2 rfl) ?_
  refine lv_iconst (v := (1 : Int32)) hx hb dX2_come_1 (by decide) ?_
  refine lv_icmp_lt (tgt := 11) hx hb dX2_come_2 (by decide) (fun c_1 => ?_) (fun c_1 => ?_)
  · refine xk_throw (wf := fun (z : XBr) (v : XBr) => [cX h qb qt] ++ wB I qb z ++ wB I qt v) (u := b) (u1 := (s_X2_come b bg mn)) z (cls := eIA) (text := "minutes is not 1 to 6") (ik := 19) (is := 21) (ic := 23) hx hb hlt hown (by decide +kernel) w_1 w_2 (by decide) (fun w h => hts w (List.mem_cons_of_mem _ (List.mem_append_left _ (List.mem_append_right _ h)))) (by decide +kernel) (by decide +kernel) hXX hP hK hD hS (hl.1.trans hml.symm) dX2_come_11 dX2_come_14 dX2_come_15 dX2_come_17 dX2_come_20 hex (Nat.le_of_ble_eq_true rfl) (Nat.le_of_ble_eq_true rfl) (Nat.le_of_ble_eq_true rfl) (Nat.le_of_ble_eq_true rfl) hlocks (Nat.le_of_ble_eq_true rfl) (Nat.le_of_ble_eq_true rfl) ?_ ?_
    · unfold x_X2_come; rw [if_pos c_1]; decide
    · unfold s_X2_come; rw [if_pos c_1]
  · refine lv_iload_n hx hb dX2_come_5 rfl (lv_at hl 2 rfl) ?_
    refine lv_bipush (v := (6 : Int32)) hx hb dX2_come_6 (by decide) ?_
    refine lv_icmp_le (tgt := 21) hx hb dX2_come_8 (by decide) (fun c_2 => ?_) (fun c_2 => ?_)
    · refine lv_aload_n hx hb dX2_come_21 rfl (lv_at hl 0 rfl) ?_
      refine va_get (D := D) (ci := 2) (v := .ref (qb 0)) (C := RX2) (T := TX2) (N := 2) hx hb hts hinX2 hown hK hP 0 rfl rfl 0 (by decide) w_3 (fun _ h9 => h9) rfl dX2_come_22 ?_
      refine va_get (D := D) (ci := 0) (v := .ref (qb 2)) (C := RX0) (T := TX0) (N := 11) hx hb hts hinX0 hown hK hP 1 rfl rfl 7 (by decide) w_4 (fun _ h9 => h9) rfl dX2_come_25 ?_
      refine va_get (D := D) (ci := 1) (v := .int (b.2.2.1 0)) (C := RX1) (T := TX1) (N := 12) hx hb hts hinX1 hown hK hP 3 rfl rfl 0 (by decide) w_5 (fun _ h9 => h9) rfl dX2_come_28 ?_
      refine lv_bipush (v := (40 : Int32)) hx hb dX2_come_31 (by decide) ?_
      refine lv_icmp_lt (tgt := 46) hx hb dX2_come_33 (by decide) (fun c_3 => ?_) (fun c_3 => ?_)
      · refine lv_aload_n hx hb dX2_come_46 rfl (lv_at hl 0 rfl) ?_
        refine va_get (D := D) (ci := 2) (v := .ref (qb 0)) (C := RX2) (T := TX2) (N := 2) hx hb hts hinX2 hown hK hP 0 rfl rfl 0 (by decide) w_3 (fun _ h9 => h9) rfl dX2_come_47 ?_
        refine va_get (D := D) (ci := 0) (v := .ref (qb 2)) (C := RX0) (T := TX0) (N := 11) hx hb hts hinX0 hown hK hP 1 rfl rfl 7 (by decide) w_4 (fun _ h9 => h9) rfl dX2_come_50 ?_
        refine lv_iload_n hx hb dX2_come_53 rfl (lv_at hl 1 rfl) ?_
        refine lv_iload_n hx hb dX2_come_54 rfl (lv_at hl 2 rfl) ?_
        refine lv_aload_n hx hb dX2_come_55 rfl (lv_at hl 0 rfl) ?_
        refine va_get (D := D) (ci := 2) (v := .ref (qb 0)) (C := RX2) (T := TX2) (N := 2) hx hb hts hinX2 hown hK hP 0 rfl rfl 0 (by decide) w_3 (fun _ h9 => h9) rfl dX2_come_56 ?_
        refine va_get (D := D) (ci := 0) (v := .int (b.1 0)) (C := RX0) (T := TX0) (N := 11) hx hb hts hinX0 hown hK hP 1 rfl rfl 0 (by decide) w_6 (fun _ h9 => h9) rfl dX2_come_59 ?_
        refine xk_calli ([cX h qb qt, cXB qb b.1, cA I (qb 1) 8 b.2.1, cXB qt z.1, cA I (qt 1) 8 z.2.1, cXT qt z.2.2.1, cA I (qt 3) 40 (z.2.2.2 0), cA I (qt 4) 40 (z.2.2.2 1), cA I (qt 5) 40 (z.2.2.2 2), cA I (qt 6) 40 (z.2.2.2 3), cA I (qt 7) 40 (z.2.2.2 4), cA I (qt 8) 40 (z.2.2.2 5)]) ([cX h qb qt] ++ wB I qb (b.1, b.2.1, (s_X1_add b.2.2 bg mn (b.1 0))) ++ wB I qt z) [3, 4, 5, 6, 7, 8, 9] [0, 1, 2, 10, 11, 12, 13, 14, 15, 16, 17, 18] [0, 1, 2, 12, 13, 14, 15, 16, 17, 18, 3, 4, 5, 6, 7, 8, 9, 10, 11] hP hD hS hA (va_runV (As := [.int bg, .int mn, .int (b.1 0)]) (rest := []) ⟨hx, hb, hml, hown, hts⟩ (c_X1_add l D I qb H.size b.2.2 bg mn (b.1 0) hn (lt40 c_3)) (cwV 3 hts gX2_come_X1_add rfl rfl rfl (by decide +kernel) ⟨Nat.le_of_ble_eq_true rfl, Nat.le_of_ble_eq_true rfl⟩) (xk_preV (wc := wT I qb b.2.2) (q0 := 3) (ci := 1) hN hP hK hD [3, 4, 5, 6, 7, 8, 9] rfl rfl rfl rfl) rfl rfl hl.1 rfl (lv_room (Nat.le_of_ble_eq_true rfl)) dX2_come_62 ⟨Nat.le_of_ble_eq_true rfl, Nat.le_of_ble_eq_true rfl⟩) rfl rfl rfl (by decide) rfl rfl (fun H locs hP hD hS => ?_)
        generalize hz_1 : s_X1_add b.2.2 bg mn (b.1 0) = z_1 at hP hD
        have hg_1 : g1_X2_come b bg mn = z_1 := by rw [← hz_1]; rfl
        refine W.widen (k := 1) (n := 6) (Nat.le_of_ble_eq_true rfl) (Nat.le_of_ble_eq_true rfl) ?_
        exact xk_iretX (wf := fun (z : XBr) (v : XBr) => [cX h qb qt] ++ wB I qb z ++ wB I qt v) (u := (b.1, b.2.1, z_1)) (u1 := (s_X2_come b bg mn)) z hx hb hr rfl hlocks hP hK hD hS (by subst hg_1; unfold x_X2_come; rw [if_neg c_1, if_pos c_2, if_pos c_3]) (by subst hg_1; unfold r_X2_come; rw [if_neg c_1, if_pos c_2, if_pos c_3]) (by subst hg_1; unfold s_X2_come; rw [if_neg c_1, if_pos c_2, if_pos c_3]) dX2_come_65
      · refine xk_throw (wf := fun (z : XBr) (v : XBr) => [cX h qb qt] ++ wB I qb z ++ wB I qt v) (u := b) (u1 := (s_X2_come b bg mn)) z (cls := eIS) (text := "there are 40 travellers") (ik := 36) (is := 38) (ic := 40) hx hb hlt hown (by decide +kernel) w_7 w_8 (by decide) (fun w h => hts w (List.mem_cons_of_mem _ (List.mem_append_right _ h))) (by decide +kernel) (by decide +kernel) hXX hP hK hD hS (hl.1.trans hml.symm) dX2_come_36 dX2_come_39 dX2_come_40 dX2_come_42 dX2_come_45 hex (Nat.le_of_ble_eq_true rfl) (Nat.le_of_ble_eq_true rfl) (Nat.le_of_ble_eq_true rfl) (Nat.le_of_ble_eq_true rfl) hlocks (Nat.le_of_ble_eq_true rfl) (Nat.le_of_ble_eq_true rfl) ?_ ?_
        · unfold x_X2_come; rw [if_neg c_1, if_pos c_2, if_neg c_3]; decide
        · unfold s_X2_come; rw [if_neg c_1, if_pos c_2, if_neg c_3]
    · refine xk_throw (wf := fun (z : XBr) (v : XBr) => [cX h qb qt] ++ wB I qb z ++ wB I qt v) (u := b) (u1 := (s_X2_come b bg mn)) z (cls := eIA) (text := "minutes is not 1 to 6") (ik := 19) (is := 21) (ic := 23) hx hb hlt hown (by decide +kernel) w_1 w_2 (by decide) (fun w h => hts w (List.mem_cons_of_mem _ (List.mem_append_left _ (List.mem_append_right _ h)))) (by decide +kernel) (by decide +kernel) hXX hP hK hD hS (hl.1.trans hml.symm) dX2_come_11 dX2_come_14 dX2_come_15 dX2_come_17 dX2_come_20 hex (Nat.le_of_ble_eq_true rfl) (Nat.le_of_ble_eq_true rfl) (Nat.le_of_ble_eq_true rfl) (Nat.le_of_ble_eq_true rfl) hlocks (Nat.le_of_ble_eq_true rfl) (Nat.le_of_ble_eq_true rfl) ?_ ?_
      · unfold x_X2_come; rw [if_neg c_1, if_neg c_2]; decide
      · unfold s_X2_come; rw [if_neg c_1, if_neg c_2]

def g1_X2_leave (b : XBr) (k : Int32) : XT := s_X1_endWait b.2.2 k (3 : Int32) (b.1 0)
def r_X2_leave (b : XBr) (k : Int32) : Int32 :=
  if (r_X1_has b.2.2 k) = 0 then
    (0 : Int32)
  else
    if ((b.2.2.2 2) k.toNatClampNeg) = 0 then
      (r_X1_waited (g1_X2_leave b k) k (b.1 0))
    else
      (0 : Int32)
def x_X2_leave (b : XBr) (k : Int32) : Int32 :=
  if (r_X1_has b.2.2 k) = 0 then
    (1 : Int32)
  else
    if ((b.2.2.2 2) k.toNatClampNeg) = 0 then
      (0 : Int32)
    else
      (2 : Int32)
def s_X2_leave (b : XBr) (k : Int32) : XBr :=
  if (r_X1_has b.2.2 k) = 0 then
    b
  else
    if ((b.2.2.2 2) k.toNatClampNeg) = 0 then
      (b.1, b.2.1, (g1_X2_leave b k))
    else
      b
set_option maxHeartbeats 1600000 in
set_option maxRecDepth 100000 in
theorem c_X2_leave (l : Launch) (hlt : l.stackTraces = false) (D : va_G) (I : ClassId) (h : Nat) (qb qt : Nat → Nat) (sz : Nat) (b z : XBr) (k : Int32) (hn : nOk (b.2.2.1 0)) : xMX l D [(I, .int)] yX2_leave wsX2_leave { frames := 6, cells := 1, slots := 6, locals := 82 } [.ref h, .int k] sz ([cX h qb qt] ++ wB I qb b ++ wB I qt z) XBr [(eIO, 1), (eIS, 2)] (r_X2_leave b k) (x_X2_leave b k) (fun v : XBr => [cX h qb qt] ++ wB I qb (s_X2_leave b k) ++ wB I qt v) 1 6 := by
  refine xk_startX (cc := cX2_leave) (maxL := 2) (ret := (some .int)) (Qf := fun A => xQiX D [(I, .int)] A XBr (r_X2_leave b k) (x_X2_leave b k) (fun v : XBr => [cX h qb qt] ++ wB I qb (s_X2_leave b k) ++ wB I qt v)) (XCf := fun A => xXC D [(I, .int)] A XBr [(eIO, 1), (eIS, 2)] (x_X2_leave b k) (fun v : XBr => [cX h qb qt] ++ wB I qb (s_X2_leave b k) ++ wB I qt v)) (by decide) rfl (Nat.le_of_ble_eq_true rfl) ?_
  intro p e s m below meth c A H ls hst hAe hsz hl hex hXX
  obtain ⟨hx, hb, hr, hts, hown, hlocks, hml, hin, hN, hK, hP, hD, hA, hS⟩ := hst
  have hl : lv_has ls 2 [(0, .ref h), (1, .int k)] := hl
  have hP : va_P D vwCl ([cX h qb qt] ++ wB I qb b ++ wB I qt z) H := hP
  have hinX2 : ∀ w ∈ u_ws RX2 TX2 2, w ∈ wsX2_leave := by decide +kernel
  have hinX0 : ∀ w ∈ u_ws RX0 TX0 11, w ∈ wsX2_leave := by decide +kernel
  have hinX1 : ∀ w ∈ u_ws RX1 TX1 12, w ∈ wsX2_leave := by decide +kernel
  have w_1 := hts (.fieldLink RX2 10 "BridgeBells" "bridge" "LBridgeBells$Bridge;") (by decide +kernel)
  have w_2 := hts (.fieldLink RX2 26 "BridgeBells$Bridge" "travellers" "LBridgeBells$Travellers;") (by decide +kernel)
  have w_3 := hts (.fieldLink RX2 57 "BridgeBells$Travellers" "state" "[I") (by decide +kernel)
  have w_4 := hts (.fieldLink RX2 41 "BridgeBells$Bridge" "minute" "I") (by decide +kernel)
  have w_5 := hts (.classLink RX2 36 eIS) (by decide +kernel)
  have w_6 := hts (.initialized eIS) (by decide +kernel)
  have w_7 := hts (.classLink RX2 52 eIO) (by decide +kernel)
  have w_8 := hts (.initialized eIO) (by decide +kernel)
  refine lv_aload_n hx hb dX2_leave_0 rfl (lv_at hl 0 rfl) ?_
  refine va_get (D := D) (ci := 2) (v := .ref (qb 0)) (C := RX2) (T := TX2) (N := 2) hx hb hts hinX2 hown hK hP 0 rfl rfl 0 (by decide) w_1 (fun _ h9 => h9) rfl dX2_leave_1 ?_
  refine va_get (D := D) (ci := 0) (v := .ref (qb 2)) (C := RX0) (T := TX0) (N := 11) hx hb hts hinX0 hown hK hP 1 rfl rfl 7 (by decide) w_2 (fun _ h9 => h9) rfl dX2_leave_4 ?_
  refine lv_iload_n hx hb dX2_leave_7 rfl (lv_at hl 1 rfl) ?_
  refine xk_calli ([cX h qb qt, cXB qb b.1, cA I (qb 1) 8 b.2.1, cXB qt z.1, cA I (qt 1) 8 z.2.1, cXT qt z.2.2.1, cA I (qt 3) 40 (z.2.2.2 0), cA I (qt 4) 40 (z.2.2.2 1), cA I (qt 5) 40 (z.2.2.2 2), cA I (qt 6) 40 (z.2.2.2 3), cA I (qt 7) 40 (z.2.2.2 4), cA I (qt 8) 40 (z.2.2.2 5)]) ([cX h qb qt] ++ wB I qb b ++ wB I qt z) [3, 4, 5, 6, 7, 8, 9] [0, 1, 2, 10, 11, 12, 13, 14, 15, 16, 17, 18] [0, 1, 2, 12, 13, 14, 15, 16, 17, 18, 3, 4, 5, 6, 7, 8, 9, 10, 11] hP hD hS hA (va_runV (As := [.int k]) (rest := []) ⟨hx, hb, hml, hown, hts⟩ (c_X1_has l D I qb H.size b.2.2 k ) (cwV 1 hts gX2_leave_X1_has rfl rfl rfl (by decide +kernel) ⟨Nat.le_of_ble_eq_true rfl, Nat.le_of_ble_eq_true rfl⟩) (xk_preV (wc := wT I qb b.2.2) (q0 := 3) (ci := 1) hN hP hK hD [3, 4, 5, 6, 7, 8, 9] rfl rfl rfl rfl) rfl rfl hl.1 rfl (lv_room (Nat.le_of_ble_eq_true rfl)) dX2_leave_8 ⟨Nat.le_of_ble_eq_true rfl, Nat.le_of_ble_eq_true rfl⟩) rfl rfl rfl (by decide) rfl rfl (fun H locs hP hD hS => ?_)
  refine lv_if_ne (tgt := 24) hx hb dX2_leave_11 (by decide) (fun c_1 => ?_) (fun c_1 => ?_)
  · refine lv_aload_n hx hb dX2_leave_24 rfl (lv_at hl 0 rfl) ?_
    refine va_get (D := D) (ci := 2) (v := .ref (qb 0)) (C := RX2) (T := TX2) (N := 2) hx hb hts hinX2 hown hK hP 0 rfl rfl 0 (by decide) w_1 (fun _ h9 => h9) rfl dX2_leave_25 ?_
    refine va_get (D := D) (ci := 0) (v := .ref (qb 2)) (C := RX0) (T := TX0) (N := 11) hx hb hts hinX0 hown hK hP 1 rfl rfl 7 (by decide) w_2 (fun _ h9 => h9) rfl dX2_leave_28 ?_
    refine va_get (D := D) (ci := 1) (v := .ref (qb 5)) (C := RX1) (T := TX1) (N := 12) hx hb hts hinX1 hown hK hP 3 rfl rfl 6 (by decide) w_3 (fun _ h9 => h9) rfl dX2_leave_31 ?_
    refine lv_iload_n hx hb dX2_leave_34 rfl (lv_at hl 1 rfl) ?_
    refine va_iald (f := (b.2.2.2 2)) hx hb hK hP 6 0 rfl rfl (show vp_in k 40 from (has_v hn c_1)) dX2_leave_35 ?_
    refine lv_if_eq (tgt := 49) hx hb dX2_leave_36 (by decide) (fun c_2 => ?_) (fun c_2 => ?_)
    · refine lv_aload_n hx hb dX2_leave_49 rfl (lv_at hl 0 rfl) ?_
      refine va_get (D := D) (ci := 2) (v := .ref (qb 0)) (C := RX2) (T := TX2) (N := 2) hx hb hts hinX2 hown hK hP 0 rfl rfl 0 (by decide) w_1 (fun _ h9 => h9) rfl dX2_leave_50 ?_
      refine va_get (D := D) (ci := 0) (v := .ref (qb 2)) (C := RX0) (T := TX0) (N := 11) hx hb hts hinX0 hown hK hP 1 rfl rfl 7 (by decide) w_2 (fun _ h9 => h9) rfl dX2_leave_53 ?_
      refine lv_iload_n hx hb dX2_leave_56 rfl (lv_at hl 1 rfl) ?_
      refine lv_iconst (v := (3 : Int32)) hx hb dX2_leave_57 (by decide) ?_
      refine lv_aload_n hx hb dX2_leave_58 rfl (lv_at hl 0 rfl) ?_
      refine va_get (D := D) (ci := 2) (v := .ref (qb 0)) (C := RX2) (T := TX2) (N := 2) hx hb hts hinX2 hown hK hP 0 rfl rfl 0 (by decide) w_1 (fun _ h9 => h9) rfl dX2_leave_59 ?_
      refine va_get (D := D) (ci := 0) (v := .int (b.1 0)) (C := RX0) (T := TX0) (N := 11) hx hb hts hinX0 hown hK hP 1 rfl rfl 0 (by decide) w_4 (fun _ h9 => h9) rfl dX2_leave_62 ?_
      refine xk_callv ([cX h qb qt, cXB qb b.1, cA I (qb 1) 8 b.2.1, cXB qt z.1, cA I (qt 1) 8 z.2.1, cXT qt z.2.2.1, cA I (qt 3) 40 (z.2.2.2 0), cA I (qt 4) 40 (z.2.2.2 1), cA I (qt 5) 40 (z.2.2.2 2), cA I (qt 6) 40 (z.2.2.2 3), cA I (qt 7) 40 (z.2.2.2 4), cA I (qt 8) 40 (z.2.2.2 5)]) ([cX h qb qt] ++ wB I qb (b.1, b.2.1, (s_X1_endWait b.2.2 k (3 : Int32) (b.1 0))) ++ wB I qt z) [3, 4, 5, 6, 7, 8, 9] [0, 1, 2, 10, 11, 12, 13, 14, 15, 16, 17, 18] [0, 1, 2, 12, 13, 14, 15, 16, 17, 18, 3, 4, 5, 6, 7, 8, 9, 10, 11] hP hD hS hA (va_runV (As := [.int k, .int (3 : Int32), .int (b.1 0)]) (rest := []) ⟨hx, hb, hml, hown, hts⟩ (c_X1_endWait l D I qb H.size b.2.2 k (3 : Int32) (b.1 0) (has_v hn c_1) hn) (cwV 3 hts gX2_leave_X1_endWait rfl rfl rfl (by decide +kernel) ⟨Nat.le_of_ble_eq_true rfl, Nat.le_of_ble_eq_true rfl⟩) (xk_preV (wc := wT I qb b.2.2) (q0 := 3) (ci := 1) hN hP hK hD [3, 4, 5, 6, 7, 8, 9] rfl rfl rfl rfl) rfl rfl hl.1 rfl (lv_room (Nat.le_of_ble_eq_true rfl)) dX2_leave_65 ⟨Nat.le_of_ble_eq_true rfl, Nat.le_of_ble_eq_true rfl⟩) rfl rfl rfl (by decide) rfl rfl (fun H locs hP hD hS => ?_)
      generalize hz_1 : s_X1_endWait b.2.2 k (3 : Int32) (b.1 0) = z_1 at hP hD
      have hg_1 : g1_X2_leave b k = z_1 := by rw [← hz_1]; rfl
      refine lv_aload_n hx hb dX2_leave_68 rfl (lv_at hl 0 rfl) ?_
      refine va_get (D := D) (ci := 2) (v := .ref (qb 0)) (C := RX2) (T := TX2) (N := 2) hx hb hts hinX2 hown hK hP 0 rfl rfl 0 (by decide) w_1 (fun _ h9 => h9) rfl dX2_leave_69 ?_
      refine va_get (D := D) (ci := 0) (v := .ref (qb 2)) (C := RX0) (T := TX0) (N := 11) hx hb hts hinX0 hown hK hP 1 rfl rfl 7 (by decide) w_2 (fun _ h9 => h9) rfl dX2_leave_72 ?_
      refine lv_iload_n hx hb dX2_leave_75 rfl (lv_at hl 1 rfl) ?_
      refine lv_aload_n hx hb dX2_leave_76 rfl (lv_at hl 0 rfl) ?_
      refine va_get (D := D) (ci := 2) (v := .ref (qb 0)) (C := RX2) (T := TX2) (N := 2) hx hb hts hinX2 hown hK hP 0 rfl rfl 0 (by decide) w_1 (fun _ h9 => h9) rfl dX2_leave_77 ?_
      refine va_get (D := D) (ci := 0) (v := .int (b.1 0)) (C := RX0) (T := TX0) (N := 11) hx hb hts hinX0 hown hK hP 1 rfl rfl 0 (by decide) w_4 (fun _ h9 => h9) rfl dX2_leave_80 ?_
      refine xk_calli ([cX h qb qt, cXB qb b.1, cA I (qb 1) 8 b.2.1, cXB qt z.1, cA I (qt 1) 8 z.2.1, cXT qt z.2.2.1, cA I (qt 3) 40 (z.2.2.2 0), cA I (qt 4) 40 (z.2.2.2 1), cA I (qt 5) 40 (z.2.2.2 2), cA I (qt 6) 40 (z.2.2.2 3), cA I (qt 7) 40 (z.2.2.2 4), cA I (qt 8) 40 (z.2.2.2 5)]) ([cX h qb qt] ++ wB I qb (b.1, b.2.1, z_1) ++ wB I qt z) [3, 4, 5, 6, 7, 8, 9] [0, 1, 2, 10, 11, 12, 13, 14, 15, 16, 17, 18] [0, 1, 2, 12, 13, 14, 15, 16, 17, 18, 3, 4, 5, 6, 7, 8, 9, 10, 11] hP hD hS hA (va_runV (As := [.int k, .int (b.1 0)]) (rest := []) ⟨hx, hb, hml, hown, hts⟩ (c_X1_waited l D I qb H.size z_1 k (b.1 0) (has_v hn c_1)) (cwV 2 hts gX2_leave_X1_waited rfl rfl rfl (by decide +kernel) ⟨Nat.le_of_ble_eq_true rfl, Nat.le_of_ble_eq_true rfl⟩) (xk_preV (wc := wT I qb z_1) (q0 := 3) (ci := 1) hN hP hK hD [3, 4, 5, 6, 7, 8, 9] rfl rfl rfl rfl) rfl rfl hl.1 rfl (lv_room (Nat.le_of_ble_eq_true rfl)) dX2_leave_83 ⟨Nat.le_of_ble_eq_true rfl, Nat.le_of_ble_eq_true rfl⟩) rfl rfl rfl (by decide) rfl rfl (fun H locs hP hD hS => ?_)
      refine W.widen (k := 1) (n := 6) (Nat.le_of_ble_eq_true rfl) (Nat.le_of_ble_eq_true rfl) ?_
      exact xk_iretX (wf := fun (z : XBr) (v : XBr) => [cX h qb qt] ++ wB I qb z ++ wB I qt v) (u := (b.1, b.2.1, z_1)) (u1 := (s_X2_leave b k)) z hx hb hr rfl hlocks hP hK hD hS (by subst hg_1; unfold x_X2_leave; rw [if_neg c_1, if_pos c_2]) (by subst hg_1; unfold r_X2_leave; rw [if_neg c_1, if_pos c_2]) (by subst hg_1; unfold s_X2_leave; rw [if_neg c_1, if_pos c_2]) dX2_leave_86
    · refine xk_throw (wf := fun (z : XBr) (v : XBr) => [cX h qb qt] ++ wB I qb z ++ wB I qt v) (u := b) (u1 := (s_X2_leave b k)) z (cls := eIS) (text := "the traveller does not wait") (ik := 36) (is := 61) (ic := 40) hx hb hlt hown (by decide +kernel) w_5 w_6 (by decide) (fun w h => hts w (List.mem_cons_of_mem _ (List.mem_append_right _ h))) (by decide +kernel) (by decide +kernel) hXX hP hK hD hS (hl.1.trans hml.symm) dX2_leave_39 dX2_leave_42 dX2_leave_43 dX2_leave_45 dX2_leave_48 hex (Nat.le_of_ble_eq_true rfl) (Nat.le_of_ble_eq_true rfl) (Nat.le_of_ble_eq_true rfl) (Nat.le_of_ble_eq_true rfl) hlocks (Nat.le_of_ble_eq_true rfl) (Nat.le_of_ble_eq_true rfl) ?_ ?_
      · unfold x_X2_leave; rw [if_neg c_1, if_neg c_2]; decide
      · unfold s_X2_leave; rw [if_neg c_1, if_neg c_2]
  · refine xk_throw (wf := fun (z : XBr) (v : XBr) => [cX h qb qt] ++ wB I qb z ++ wB I qt v) (u := b) (u1 := (s_X2_leave b k)) z (cls := eIO) (text := "there is no such traveller") (ik := 52) (is := 54) (ic := 56) hx hb hlt hown (by decide +kernel) w_7 w_8 (by decide) (fun w h => hts w (List.mem_cons_of_mem _ (List.mem_append_left _ (List.mem_append_right _ h)))) (by decide +kernel) (by decide +kernel) hXX hP hK hD hS (hl.1.trans hml.symm) dX2_leave_14 dX2_leave_17 dX2_leave_18 dX2_leave_20 dX2_leave_23 hex (Nat.le_of_ble_eq_true rfl) (Nat.le_of_ble_eq_true rfl) (Nat.le_of_ble_eq_true rfl) (Nat.le_of_ble_eq_true rfl) hlocks (Nat.le_of_ble_eq_true rfl) (Nat.le_of_ble_eq_true rfl) ?_ ?_
    · unfold x_X2_leave; rw [if_pos c_1]; decide
    · unfold s_X2_leave; rw [if_pos c_1]

def r_X2_ring (b : XBr) (nc : Int32) : Int32 :=
  if nc < 0 then
    (0 : Int32)
  else
    if nc ≤ (4 : Int32) then
      (b.1 4)
    else
      (0 : Int32)
def x_X2_ring (b : XBr) (nc : Int32) : Int32 :=
  if nc < 0 then
    (1 : Int32)
  else
    if nc ≤ (4 : Int32) then
      (0 : Int32)
    else
      (1 : Int32)
def s_X2_ring (b : XBr) (nc : Int32) : XBr :=
  if nc < 0 then
    b
  else
    if nc ≤ (4 : Int32) then
      (xs b.1 4 nc, b.2)
    else
      b
set_option maxHeartbeats 1600000 in
set_option maxRecDepth 100000 in
theorem c_X2_ring (l : Launch) (hlt : l.stackTraces = false) (D : va_G) (I : ClassId) (h : Nat) (qb qt : Nat → Nat) (sz : Nat) (b z : XBr) (nc : Int32)  : xMX l D [(I, .int)] yX2_ring wsX2_ring { frames := 6, cells := 1, slots := 6, locals := 82 } [.ref h, .int nc] sz ([cX h qb qt] ++ wB I qb b ++ wB I qt z) XBr [(eIA, 1)] (r_X2_ring b nc) (x_X2_ring b nc) (fun v : XBr => [cX h qb qt] ++ wB I qb (s_X2_ring b nc) ++ wB I qt v) 1 6 := by
  refine xk_startX (cc := cX2_ring) (maxL := 3) (ret := (some .int)) (Qf := fun A => xQiX D [(I, .int)] A XBr (r_X2_ring b nc) (x_X2_ring b nc) (fun v : XBr => [cX h qb qt] ++ wB I qb (s_X2_ring b nc) ++ wB I qt v)) (XCf := fun A => xXC D [(I, .int)] A XBr [(eIA, 1)] (x_X2_ring b nc) (fun v : XBr => [cX h qb qt] ++ wB I qb (s_X2_ring b nc) ++ wB I qt v)) (by decide) rfl (Nat.le_of_ble_eq_true rfl) ?_
  intro p e s m below meth c A H ls hst hAe hsz hl hex hXX
  obtain ⟨hx, hb, hr, hts, hown, hlocks, hml, hin, hN, hK, hP, hD, hA, hS⟩ := hst
  have hl : lv_has ls 3 [(0, .ref h), (1, .int nc)] := hl
  have hP : va_P D vwCl ([cX h qb qt] ++ wB I qb b ++ wB I qt z) H := hP
  have hinX2 : ∀ w ∈ u_ws RX2 TX2 2, w ∈ wsX2_ring := by decide +kernel
  have hinX0 : ∀ w ∈ u_ws RX0 TX0 11, w ∈ wsX2_ring := by decide +kernel
  have w_1 := hts (.classLink RX2 19 eIA) (by decide +kernel)
  have w_2 := hts (.initialized eIA) (by decide +kernel)
  have w_3 := hts (.fieldLink RX2 10 "BridgeBells" "bridge" "LBridgeBells$Bridge;") (by decide +kernel)
  have w_4 := hts (.fieldLink RX2 73 "BridgeBells$Bridge" "code" "I") (by decide +kernel)
  refine lv_iload_n hx hb dX2_ring_0 rfl (lv_at hl 1 rfl) ?_
  refine lv_if_lt (tgt := 9) hx hb dX2_ring_1 (by decide) (fun c_1 => ?_) (fun c_1 => ?_)
  · refine xk_throw (wf := fun (z : XBr) (v : XBr) => [cX h qb qt] ++ wB I qb z ++ wB I qt v) (u := b) (u1 := (s_X2_ring b nc)) z (cls := eIA) (text := "code is not 0 to 4") (ik := 19) (is := 71) (ic := 23) hx hb hlt hown (by decide +kernel) w_1 w_2 (by decide) (fun w h => hts w (List.mem_cons_of_mem _ (List.mem_append_right _ h))) (by decide +kernel) (by decide +kernel) hXX hP hK hD hS (hl.1.trans hml.symm) dX2_ring_9 dX2_ring_12 dX2_ring_13 dX2_ring_15 dX2_ring_18 hex (Nat.le_of_ble_eq_true rfl) (Nat.le_of_ble_eq_true rfl) (Nat.le_of_ble_eq_true rfl) (Nat.le_of_ble_eq_true rfl) hlocks (Nat.le_of_ble_eq_true rfl) (Nat.le_of_ble_eq_true rfl) ?_ ?_
    · unfold x_X2_ring; rw [if_pos c_1]; decide
    · unfold s_X2_ring; rw [if_pos c_1]
  · refine lv_iload_n hx hb dX2_ring_4 rfl (lv_at hl 1 rfl) ?_
    refine lv_iconst (v := (4 : Int32)) hx hb dX2_ring_5 (by decide) ?_
    refine lv_icmp_le (tgt := 19) hx hb dX2_ring_6 (by decide) (fun c_2 => ?_) (fun c_2 => ?_)
    · refine lv_aload_n hx hb dX2_ring_19 rfl (lv_at hl 0 rfl) ?_
      refine va_get (D := D) (ci := 2) (v := .ref (qb 0)) (C := RX2) (T := TX2) (N := 2) hx hb hts hinX2 hown hK hP 0 rfl rfl 0 (by decide) w_3 (fun _ h9 => h9) rfl dX2_ring_20 ?_
      refine va_get (D := D) (ci := 0) (v := .int (b.1 4)) (C := RX0) (T := TX0) (N := 11) hx hb hts hinX0 hown hK hP 1 rfl rfl 4 (by decide) w_4 (fun _ h9 => h9) rfl dX2_ring_23 ?_
      refine lv_istore_n (lv' := [(2, .int (b.1 4)), (0, .ref h), (1, .int nc)]) hx hb dX2_ring_26 rfl hl (by decide) rfl (fun ls hl => ?_)
      refine lv_aload_n hx hb dX2_ring_27 rfl (lv_at hl 1 rfl) ?_
      refine va_get (D := D) (ci := 2) (v := .ref (qb 0)) (C := RX2) (T := TX2) (N := 2) hx hb hts hinX2 hown hK hP 0 rfl rfl 0 (by decide) w_3 (fun _ h9 => h9) rfl dX2_ring_28 ?_
      refine lv_iload_n hx hb dX2_ring_31 rfl (lv_at hl 2 rfl) ?_
      refine va_put (D := D) (ci := 0) (v := .int nc) (ty := tyX0 4) (C := RX0) (T := TX0) (N := 11) hx hb hts hinX0 tyX0 tyX0_ok nmX0 hown hK hP hD hS 1 rfl rfl 4 (by decide) w_4 (fun _ h9 => h9) rfl (tyX0_ok 4 (by decide)) rfl rfl (Nat.le_of_ble_eq_true rfl) dX2_ring_32 (fun H locs hP hD hS => ?_)
      have hP : va_P D vwCl ([cX h qb qt] ++ wB I qb (xs b.1 4 nc, b.2) ++ wB I qt z) H := hP
      have hD : va_D A ([cX h qb qt] ++ wB I qb (xs b.1 4 nc, b.2) ++ wB I qt z) := hD
      refine lv_iload_n hx hb dX2_ring_35 rfl (lv_at hl 0 rfl) ?_
      refine W.widen (k := 1) (n := 6) (Nat.le_of_ble_eq_true rfl) (Nat.le_of_ble_eq_true rfl) ?_
      exact xk_iretX (wf := fun (z : XBr) (v : XBr) => [cX h qb qt] ++ wB I qb z ++ wB I qt v) (u := (xs b.1 4 nc, b.2)) (u1 := (s_X2_ring b nc)) z hx hb hr rfl hlocks hP hK hD hS (by unfold x_X2_ring; rw [if_neg c_1, if_pos c_2]) (by unfold r_X2_ring; rw [if_neg c_1, if_pos c_2]) (by unfold s_X2_ring; rw [if_neg c_1, if_pos c_2]) dX2_ring_36
    · refine xk_throw (wf := fun (z : XBr) (v : XBr) => [cX h qb qt] ++ wB I qb z ++ wB I qt v) (u := b) (u1 := (s_X2_ring b nc)) z (cls := eIA) (text := "code is not 0 to 4") (ik := 19) (is := 71) (ic := 23) hx hb hlt hown (by decide +kernel) w_1 w_2 (by decide) (fun w h => hts w (List.mem_cons_of_mem _ (List.mem_append_right _ h))) (by decide +kernel) (by decide +kernel) hXX hP hK hD hS (hl.1.trans hml.symm) dX2_ring_9 dX2_ring_12 dX2_ring_13 dX2_ring_15 dX2_ring_18 hex (Nat.le_of_ble_eq_true rfl) (Nat.le_of_ble_eq_true rfl) (Nat.le_of_ble_eq_true rfl) (Nat.le_of_ble_eq_true rfl) hlocks (Nat.le_of_ble_eq_true rfl) (Nat.le_of_ble_eq_true rfl) ?_ ?_
      · unfold x_X2_ring; rw [if_neg c_1, if_neg c_2]; decide
      · unfold s_X2_ring; rw [if_neg c_1, if_neg c_2]

def r_X2_poise (b : XBr) (cp : Int32) : Int32 :=
  if cp < 0 then
    (0 : Int32)
  else
    if cp ≤ (30 : Int32) then
      if (b.1 1) = 0 then
        (b.1 2)
      else
        if (b.1 1) = (60 : Int32) then
          (b.1 2)
        else
          (0 : Int32)
    else
      (0 : Int32)
def x_X2_poise (b : XBr) (cp : Int32) : Int32 :=
  if cp < 0 then
    (1 : Int32)
  else
    if cp ≤ (30 : Int32) then
      if (b.1 1) = 0 then
        (0 : Int32)
      else
        if (b.1 1) = (60 : Int32) then
          (0 : Int32)
        else
          (2 : Int32)
    else
      (1 : Int32)
def s_X2_poise (b : XBr) (cp : Int32) : XBr :=
  if cp < 0 then
    b
  else
    if cp ≤ (30 : Int32) then
      if (b.1 1) = 0 then
        (xs b.1 2 cp, b.2)
      else
        if (b.1 1) = (60 : Int32) then
          (xs b.1 2 cp, b.2)
        else
          b
    else
      b
set_option maxHeartbeats 1600000 in
set_option maxRecDepth 100000 in
theorem c_X2_poise (l : Launch) (hlt : l.stackTraces = false) (D : va_G) (I : ClassId) (h : Nat) (qb qt : Nat → Nat) (sz : Nat) (b z : XBr) (cp : Int32)  : xMX l D [(I, .int)] yX2_poise wsX2_poise { frames := 6, cells := 1, slots := 6, locals := 82 } [.ref h, .int cp] sz ([cX h qb qt] ++ wB I qb b ++ wB I qt z) XBr [(eIA, 1), (eIS, 2)] (r_X2_poise b cp) (x_X2_poise b cp) (fun v : XBr => [cX h qb qt] ++ wB I qb (s_X2_poise b cp) ++ wB I qt v) 1 6 := by
  refine xk_startX (cc := cX2_poise) (maxL := 3) (ret := (some .int)) (Qf := fun A => xQiX D [(I, .int)] A XBr (r_X2_poise b cp) (x_X2_poise b cp) (fun v : XBr => [cX h qb qt] ++ wB I qb (s_X2_poise b cp) ++ wB I qt v)) (XCf := fun A => xXC D [(I, .int)] A XBr [(eIA, 1), (eIS, 2)] (x_X2_poise b cp) (fun v : XBr => [cX h qb qt] ++ wB I qb (s_X2_poise b cp) ++ wB I qt v)) (by decide) rfl (Nat.le_of_ble_eq_true rfl) ?_
  intro p e s m below meth c A H ls hst hAe hsz hl hex hXX
  obtain ⟨hx, hb, hr, hts, hown, hlocks, hml, hin, hN, hK, hP, hD, hA, hS⟩ := hst
  have hl : lv_has ls 3 [(0, .ref h), (1, .int cp)] := hl
  have hP : va_P D vwCl ([cX h qb qt] ++ wB I qb b ++ wB I qt z) H := hP
  have hinX2 : ∀ w ∈ u_ws RX2 TX2 2, w ∈ wsX2_poise := by decide +kernel
  have hinX0 : ∀ w ∈ u_ws RX0 TX0 11, w ∈ wsX2_poise := by decide +kernel
  have w_1 := hts (.classLink RX2 19 eIA) (by decide +kernel)
  have w_2 := hts (.initialized eIA) (by decide +kernel)
  have w_3 := hts (.fieldLink RX2 10 "BridgeBells" "bridge" "LBridgeBells$Bridge;") (by decide +kernel)
  have w_4 := hts (.fieldLink RX2 78 "BridgeBells$Bridge" "angle" "I") (by decide +kernel)
  have w_5 := hts (.fieldLink RX2 83 "BridgeBells$Bridge" "counterpoise" "I") (by decide +kernel)
  have w_6 := hts (.classLink RX2 36 eIS) (by decide +kernel)
  have w_7 := hts (.initialized eIS) (by decide +kernel)
  refine lv_iload_n hx hb dX2_poise_0 rfl (lv_at hl 1 rfl) ?_
  refine lv_if_lt (tgt := 10) hx hb dX2_poise_1 (by decide) (fun c_1 => ?_) (fun c_1 => ?_)
  · refine xk_throw (wf := fun (z : XBr) (v : XBr) => [cX h qb qt] ++ wB I qb z ++ wB I qt v) (u := b) (u1 := (s_X2_poise b cp)) z (cls := eIA) (text := "counterpoise is not 0 to 30") (ik := 19) (is := 76) (ic := 23) hx hb hlt hown (by decide +kernel) w_1 w_2 (by decide) (fun w h => hts w (List.mem_cons_of_mem _ (List.mem_append_left _ (List.mem_append_right _ h)))) (by decide +kernel) (by decide +kernel) hXX hP hK hD hS (hl.1.trans hml.symm) dX2_poise_10 dX2_poise_13 dX2_poise_14 dX2_poise_16 dX2_poise_19 hex (Nat.le_of_ble_eq_true rfl) (Nat.le_of_ble_eq_true rfl) (Nat.le_of_ble_eq_true rfl) (Nat.le_of_ble_eq_true rfl) hlocks (Nat.le_of_ble_eq_true rfl) (Nat.le_of_ble_eq_true rfl) ?_ ?_
    · unfold x_X2_poise; rw [if_pos c_1]; decide
    · unfold s_X2_poise; rw [if_pos c_1]
  · refine lv_iload_n hx hb dX2_poise_4 rfl (lv_at hl 1 rfl) ?_
    refine lv_bipush (v := (30 : Int32)) hx hb dX2_poise_5 (by decide) ?_
    refine lv_icmp_le (tgt := 20) hx hb dX2_poise_7 (by decide) (fun c_2 => ?_) (fun c_2 => ?_)
    · refine lv_aload_n hx hb dX2_poise_20 rfl (lv_at hl 0 rfl) ?_
      refine va_get (D := D) (ci := 2) (v := .ref (qb 0)) (C := RX2) (T := TX2) (N := 2) hx hb hts hinX2 hown hK hP 0 rfl rfl 0 (by decide) w_3 (fun _ h9 => h9) rfl dX2_poise_21 ?_
      refine va_get (D := D) (ci := 0) (v := .int (b.1 1)) (C := RX0) (T := TX0) (N := 11) hx hb hts hinX0 hown hK hP 1 rfl rfl 1 (by decide) w_4 (fun _ h9 => h9) rfl dX2_poise_24 ?_
      refine lv_if_eq (tgt := 52) hx hb dX2_poise_27 (by decide) (fun c_3 => ?_) (fun c_3 => ?_)
      · refine lv_aload_n hx hb dX2_poise_52 rfl (lv_at hl 0 rfl) ?_
        refine va_get (D := D) (ci := 2) (v := .ref (qb 0)) (C := RX2) (T := TX2) (N := 2) hx hb hts hinX2 hown hK hP 0 rfl rfl 0 (by decide) w_3 (fun _ h9 => h9) rfl dX2_poise_53 ?_
        refine va_get (D := D) (ci := 0) (v := .int (b.1 2)) (C := RX0) (T := TX0) (N := 11) hx hb hts hinX0 hown hK hP 1 rfl rfl 2 (by decide) w_5 (fun _ h9 => h9) rfl dX2_poise_56 ?_
        refine lv_istore_n (lv' := [(2, .int (b.1 2)), (0, .ref h), (1, .int cp)]) hx hb dX2_poise_59 rfl hl (by decide) rfl (fun ls hl => ?_)
        refine lv_aload_n hx hb dX2_poise_60 rfl (lv_at hl 1 rfl) ?_
        refine va_get (D := D) (ci := 2) (v := .ref (qb 0)) (C := RX2) (T := TX2) (N := 2) hx hb hts hinX2 hown hK hP 0 rfl rfl 0 (by decide) w_3 (fun _ h9 => h9) rfl dX2_poise_61 ?_
        refine lv_iload_n hx hb dX2_poise_64 rfl (lv_at hl 2 rfl) ?_
        refine va_put (D := D) (ci := 0) (v := .int cp) (ty := tyX0 2) (C := RX0) (T := TX0) (N := 11) hx hb hts hinX0 tyX0 tyX0_ok nmX0 hown hK hP hD hS 1 rfl rfl 2 (by decide) w_5 (fun _ h9 => h9) rfl (tyX0_ok 2 (by decide)) rfl rfl (Nat.le_of_ble_eq_true rfl) dX2_poise_65 (fun H locs hP hD hS => ?_)
        have hP : va_P D vwCl ([cX h qb qt] ++ wB I qb (xs b.1 2 cp, b.2) ++ wB I qt z) H := hP
        have hD : va_D A ([cX h qb qt] ++ wB I qb (xs b.1 2 cp, b.2) ++ wB I qt z) := hD
        refine lv_iload_n hx hb dX2_poise_68 rfl (lv_at hl 0 rfl) ?_
        refine W.widen (k := 1) (n := 6) (Nat.le_of_ble_eq_true rfl) (Nat.le_of_ble_eq_true rfl) ?_
        exact xk_iretX (wf := fun (z : XBr) (v : XBr) => [cX h qb qt] ++ wB I qb z ++ wB I qt v) (u := (xs b.1 2 cp, b.2)) (u1 := (s_X2_poise b cp)) z hx hb hr rfl hlocks hP hK hD hS (by unfold x_X2_poise; rw [if_neg c_1, if_pos c_2, if_pos c_3]) (by unfold r_X2_poise; rw [if_neg c_1, if_pos c_2, if_pos c_3]) (by unfold s_X2_poise; rw [if_neg c_1, if_pos c_2, if_pos c_3]) dX2_poise_69
      · refine lv_aload_n hx hb dX2_poise_30 rfl (lv_at hl 0 rfl) ?_
        refine va_get (D := D) (ci := 2) (v := .ref (qb 0)) (C := RX2) (T := TX2) (N := 2) hx hb hts hinX2 hown hK hP 0 rfl rfl 0 (by decide) w_3 (fun _ h9 => h9) rfl dX2_poise_31 ?_
        refine va_get (D := D) (ci := 0) (v := .int (b.1 1)) (C := RX0) (T := TX0) (N := 11) hx hb hts hinX0 hown hK hP 1 rfl rfl 1 (by decide) w_4 (fun _ h9 => h9) rfl dX2_poise_34 ?_
        refine lv_bipush (v := (60 : Int32)) hx hb dX2_poise_37 (by decide) ?_
        refine lv_icmp_eq (tgt := 52) hx hb dX2_poise_39 (by decide) (fun c_4 => ?_) (fun c_4 => ?_)
        · refine lv_aload_n hx hb dX2_poise_52 rfl (lv_at hl 0 rfl) ?_
          refine va_get (D := D) (ci := 2) (v := .ref (qb 0)) (C := RX2) (T := TX2) (N := 2) hx hb hts hinX2 hown hK hP 0 rfl rfl 0 (by decide) w_3 (fun _ h9 => h9) rfl dX2_poise_53 ?_
          refine va_get (D := D) (ci := 0) (v := .int (b.1 2)) (C := RX0) (T := TX0) (N := 11) hx hb hts hinX0 hown hK hP 1 rfl rfl 2 (by decide) w_5 (fun _ h9 => h9) rfl dX2_poise_56 ?_
          refine lv_istore_n (lv' := [(2, .int (b.1 2)), (0, .ref h), (1, .int cp)]) hx hb dX2_poise_59 rfl hl (by decide) rfl (fun ls hl => ?_)
          refine lv_aload_n hx hb dX2_poise_60 rfl (lv_at hl 1 rfl) ?_
          refine va_get (D := D) (ci := 2) (v := .ref (qb 0)) (C := RX2) (T := TX2) (N := 2) hx hb hts hinX2 hown hK hP 0 rfl rfl 0 (by decide) w_3 (fun _ h9 => h9) rfl dX2_poise_61 ?_
          refine lv_iload_n hx hb dX2_poise_64 rfl (lv_at hl 2 rfl) ?_
          refine va_put (D := D) (ci := 0) (v := .int cp) (ty := tyX0 2) (C := RX0) (T := TX0) (N := 11) hx hb hts hinX0 tyX0 tyX0_ok nmX0 hown hK hP hD hS 1 rfl rfl 2 (by decide) w_5 (fun _ h9 => h9) rfl (tyX0_ok 2 (by decide)) rfl rfl (Nat.le_of_ble_eq_true rfl) dX2_poise_65 (fun H locs hP hD hS => ?_)
          have hP : va_P D vwCl ([cX h qb qt] ++ wB I qb (xs b.1 2 cp, b.2) ++ wB I qt z) H := hP
          have hD : va_D A ([cX h qb qt] ++ wB I qb (xs b.1 2 cp, b.2) ++ wB I qt z) := hD
          refine lv_iload_n hx hb dX2_poise_68 rfl (lv_at hl 0 rfl) ?_
          refine W.widen (k := 1) (n := 6) (Nat.le_of_ble_eq_true rfl) (Nat.le_of_ble_eq_true rfl) ?_
          exact xk_iretX (wf := fun (z : XBr) (v : XBr) => [cX h qb qt] ++ wB I qb z ++ wB I qt v) (u := (xs b.1 2 cp, b.2)) (u1 := (s_X2_poise b cp)) z hx hb hr rfl hlocks hP hK hD hS (by unfold x_X2_poise; rw [if_neg c_1, if_pos c_2, if_neg c_3, if_pos c_4]) (by unfold r_X2_poise; rw [if_neg c_1, if_pos c_2, if_neg c_3, if_pos c_4]) (by unfold s_X2_poise; rw [if_neg c_1, if_pos c_2, if_neg c_3, if_pos c_4]) dX2_poise_69
        · refine xk_throw (wf := fun (z : XBr) (v : XBr) => [cX h qb qt] ++ wB I qb z ++ wB I qt v) (u := b) (u1 := (s_X2_poise b cp)) z (cls := eIS) (text := "the bridge is neither up nor down") (ik := 36) (is := 81) (ic := 40) hx hb hlt hown (by decide +kernel) w_6 w_7 (by decide) (fun w h => hts w (List.mem_cons_of_mem _ (List.mem_append_right _ h))) (by decide +kernel) (by decide +kernel) hXX hP hK hD hS (hl.1.trans hml.symm) dX2_poise_42 dX2_poise_45 dX2_poise_46 dX2_poise_48 dX2_poise_51 hex (Nat.le_of_ble_eq_true rfl) (Nat.le_of_ble_eq_true rfl) (Nat.le_of_ble_eq_true rfl) (Nat.le_of_ble_eq_true rfl) hlocks (Nat.le_of_ble_eq_true rfl) (Nat.le_of_ble_eq_true rfl) ?_ ?_
          · unfold x_X2_poise; rw [if_neg c_1, if_pos c_2, if_neg c_3, if_neg c_4]; decide
          · unfold s_X2_poise; rw [if_neg c_1, if_pos c_2, if_neg c_3, if_neg c_4]
    · refine xk_throw (wf := fun (z : XBr) (v : XBr) => [cX h qb qt] ++ wB I qb z ++ wB I qt v) (u := b) (u1 := (s_X2_poise b cp)) z (cls := eIA) (text := "counterpoise is not 0 to 30") (ik := 19) (is := 76) (ic := 23) hx hb hlt hown (by decide +kernel) w_1 w_2 (by decide) (fun w h => hts w (List.mem_cons_of_mem _ (List.mem_append_left _ (List.mem_append_right _ h)))) (by decide +kernel) (by decide +kernel) hXX hP hK hD hS (hl.1.trans hml.symm) dX2_poise_10 dX2_poise_13 dX2_poise_14 dX2_poise_16 dX2_poise_19 hex (Nat.le_of_ble_eq_true rfl) (Nat.le_of_ble_eq_true rfl) (Nat.le_of_ble_eq_true rfl) (Nat.le_of_ble_eq_true rfl) hlocks (Nat.le_of_ble_eq_true rfl) (Nat.le_of_ble_eq_true rfl) ?_ ?_
      · unfold x_X2_poise; rw [if_neg c_1, if_neg c_2]; decide
      · unfold s_X2_poise; rw [if_neg c_1, if_neg c_2]

def r_X2_setCold (b : XBr) (k : Int32) (cv : Int32) : Int32 :=
  if k < 0 then
    (0 : Int32)
  else
    if k < (8 : Int32) then
      if cv < (-3 : Int32) then
        (0 : Int32)
      else
        if cv ≤ (3 : Int32) then
          (b.2.1 k.toNatClampNeg)
        else
          (0 : Int32)
    else
      (0 : Int32)
def x_X2_setCold (b : XBr) (k : Int32) (cv : Int32) : Int32 :=
  if k < 0 then
    (1 : Int32)
  else
    if k < (8 : Int32) then
      if cv < (-3 : Int32) then
        (2 : Int32)
      else
        if cv ≤ (3 : Int32) then
          (0 : Int32)
        else
          (2 : Int32)
    else
      (1 : Int32)
def s_X2_setCold (b : XBr) (k : Int32) (cv : Int32) : XBr :=
  if k < 0 then
    b
  else
    if k < (8 : Int32) then
      if cv < (-3 : Int32) then
        b
      else
        if cv ≤ (3 : Int32) then
          (b.1, (upd b.2.1 k.toNatClampNeg cv), b.2.2)
        else
          b
    else
      b
set_option maxHeartbeats 1600000 in
set_option maxRecDepth 100000 in
theorem c_X2_setCold (l : Launch) (hlt : l.stackTraces = false) (D : va_G) (I : ClassId) (h : Nat) (qb qt : Nat → Nat) (sz : Nat) (b z : XBr) (k : Int32) (cv : Int32)  : xMX l D [(I, .int)] yX2_setCold wsX2_setCold { frames := 6, cells := 1, slots := 6, locals := 82 } [.ref h, .int k, .int cv] sz ([cX h qb qt] ++ wB I qb b ++ wB I qt z) XBr [(eIO, 1), (eIA, 2)] (r_X2_setCold b k cv) (x_X2_setCold b k cv) (fun v : XBr => [cX h qb qt] ++ wB I qb (s_X2_setCold b k cv) ++ wB I qt v) 1 6 := by
  refine xk_startX (cc := cX2_setCold) (maxL := 4) (ret := (some .int)) (Qf := fun A => xQiX D [(I, .int)] A XBr (r_X2_setCold b k cv) (x_X2_setCold b k cv) (fun v : XBr => [cX h qb qt] ++ wB I qb (s_X2_setCold b k cv) ++ wB I qt v)) (XCf := fun A => xXC D [(I, .int)] A XBr [(eIO, 1), (eIA, 2)] (x_X2_setCold b k cv) (fun v : XBr => [cX h qb qt] ++ wB I qb (s_X2_setCold b k cv) ++ wB I qt v)) (by decide) rfl (Nat.le_of_ble_eq_true rfl) ?_
  intro p e s m below meth c A H ls hst hAe hsz hl hex hXX
  obtain ⟨hx, hb, hr, hts, hown, hlocks, hml, hin, hN, hK, hP, hD, hA, hS⟩ := hst
  have hl : lv_has ls 4 [(0, .ref h), (1, .int k), (2, .int cv)] := hl
  have hP : va_P D vwCl ([cX h qb qt] ++ wB I qb b ++ wB I qt z) H := hP
  have hinX2 : ∀ w ∈ u_ws RX2 TX2 2, w ∈ wsX2_setCold := by decide +kernel
  have hinX0 : ∀ w ∈ u_ws RX0 TX0 11, w ∈ wsX2_setCold := by decide +kernel
  have w_1 := hts (.classLink RX2 52 eIO) (by decide +kernel)
  have w_2 := hts (.initialized eIO) (by decide +kernel)
  have w_3 := hts (.classLink RX2 19 eIA) (by decide +kernel)
  have w_4 := hts (.initialized eIA) (by decide +kernel)
  have w_5 := hts (.fieldLink RX2 10 "BridgeBells" "bridge" "LBridgeBells$Bridge;") (by decide +kernel)
  have w_6 := hts (.fieldLink RX2 90 "BridgeBells$Bridge" "cold" "[I") (by decide +kernel)
  refine lv_iload_n hx hb dX2_setCold_0 rfl (lv_at hl 1 rfl) ?_
  refine lv_if_lt (tgt := 10) hx hb dX2_setCold_1 (by decide) (fun c_1 => ?_) (fun c_1 => ?_)
  · refine xk_throw (wf := fun (z : XBr) (v : XBr) => [cX h qb qt] ++ wB I qb z ++ wB I qt v) (u := b) (u1 := (s_X2_setCold b k cv)) z (cls := eIO) (text := "hour is not 0 to 7") (ik := 52) (is := 86) (ic := 56) hx hb hlt hown (by decide +kernel) w_1 w_2 (by decide) (fun w h => hts w (List.mem_cons_of_mem _ (List.mem_append_left _ (List.mem_append_right _ h)))) (by decide +kernel) (by decide +kernel) hXX hP hK hD hS (hl.1.trans hml.symm) dX2_setCold_10 dX2_setCold_13 dX2_setCold_14 dX2_setCold_16 dX2_setCold_19 hex (Nat.le_of_ble_eq_true rfl) (Nat.le_of_ble_eq_true rfl) (Nat.le_of_ble_eq_true rfl) (Nat.le_of_ble_eq_true rfl) hlocks (Nat.le_of_ble_eq_true rfl) (Nat.le_of_ble_eq_true rfl) ?_ ?_
    · unfold x_X2_setCold; rw [if_pos c_1]; decide
    · unfold s_X2_setCold; rw [if_pos c_1]
  · refine lv_iload_n hx hb dX2_setCold_4 rfl (lv_at hl 1 rfl) ?_
    refine lv_bipush (v := (8 : Int32)) hx hb dX2_setCold_5 (by decide) ?_
    refine lv_icmp_lt (tgt := 20) hx hb dX2_setCold_7 (by decide) (fun c_2 => ?_) (fun c_2 => ?_)
    · refine lv_iload_n hx hb dX2_setCold_20 rfl (lv_at hl 2 rfl) ?_
      refine lv_bipush (v := (-3 : Int32)) hx hb dX2_setCold_21 (by decide) ?_
      refine lv_icmp_lt (tgt := 31) hx hb dX2_setCold_23 (by decide) (fun c_3 => ?_) (fun c_3 => ?_)
      · refine xk_throw (wf := fun (z : XBr) (v : XBr) => [cX h qb qt] ++ wB I qb z ++ wB I qt v) (u := b) (u1 := (s_X2_setCold b k cv)) z (cls := eIA) (text := "cold is not -3 to 3") (ik := 19) (is := 88) (ic := 23) hx hb hlt hown (by decide +kernel) w_3 w_4 (by decide) (fun w h => hts w (List.mem_cons_of_mem _ (List.mem_append_right _ h))) (by decide +kernel) (by decide +kernel) hXX hP hK hD hS (hl.1.trans hml.symm) dX2_setCold_31 dX2_setCold_34 dX2_setCold_35 dX2_setCold_37 dX2_setCold_40 hex (Nat.le_of_ble_eq_true rfl) (Nat.le_of_ble_eq_true rfl) (Nat.le_of_ble_eq_true rfl) (Nat.le_of_ble_eq_true rfl) hlocks (Nat.le_of_ble_eq_true rfl) (Nat.le_of_ble_eq_true rfl) ?_ ?_
        · unfold x_X2_setCold; rw [if_neg c_1, if_pos c_2, if_pos c_3]; decide
        · unfold s_X2_setCold; rw [if_neg c_1, if_pos c_2, if_pos c_3]
      · refine lv_iload_n hx hb dX2_setCold_26 rfl (lv_at hl 2 rfl) ?_
        refine lv_iconst (v := (3 : Int32)) hx hb dX2_setCold_27 (by decide) ?_
        refine lv_icmp_le (tgt := 41) hx hb dX2_setCold_28 (by decide) (fun c_4 => ?_) (fun c_4 => ?_)
        · refine lv_aload_n hx hb dX2_setCold_41 rfl (lv_at hl 0 rfl) ?_
          refine va_get (D := D) (ci := 2) (v := .ref (qb 0)) (C := RX2) (T := TX2) (N := 2) hx hb hts hinX2 hown hK hP 0 rfl rfl 0 (by decide) w_5 (fun _ h9 => h9) rfl dX2_setCold_42 ?_
          refine va_get (D := D) (ci := 0) (v := .ref (qb 1)) (C := RX0) (T := TX0) (N := 11) hx hb hts hinX0 hown hK hP 1 rfl rfl 6 (by decide) w_6 (fun _ h9 => h9) rfl dX2_setCold_45 ?_
          refine lv_iload_n hx hb dX2_setCold_48 rfl (lv_at hl 1 rfl) ?_
          refine va_iald (f := b.2.1) hx hb hK hP 2 0 rfl rfl (show vp_in k 8 from (in08 c_1 c_2)) dX2_setCold_49 ?_
          refine lv_istore_n (lv' := [(3, .int (b.2.1 k.toNatClampNeg)), (0, .ref h), (1, .int k), (2, .int cv)]) hx hb dX2_setCold_50 rfl hl (by decide) rfl (fun ls hl => ?_)
          refine lv_aload_n hx hb dX2_setCold_51 rfl (lv_at hl 1 rfl) ?_
          refine va_get (D := D) (ci := 2) (v := .ref (qb 0)) (C := RX2) (T := TX2) (N := 2) hx hb hts hinX2 hown hK hP 0 rfl rfl 0 (by decide) w_5 (fun _ h9 => h9) rfl dX2_setCold_52 ?_
          refine va_get (D := D) (ci := 0) (v := .ref (qb 1)) (C := RX0) (T := TX0) (N := 11) hx hb hts hinX0 hown hK hP 1 rfl rfl 6 (by decide) w_6 (fun _ h9 => h9) rfl dX2_setCold_55 ?_
          refine lv_iload_n hx hb dX2_setCold_58 rfl (lv_at hl 2 rfl) ?_
          refine lv_iload_n hx hb dX2_setCold_59 rfl (lv_at hl 3 rfl) ?_
          refine va_iast (f := b.2.1) hx hb hK hP hD hS 2 0 rfl rfl (show vp_in k 8 from (in08 c_1 c_2)) dX2_setCold_60 (fun H locs hP hD hS => ?_)
          have hP : va_P D vwCl ([cX h qb qt] ++ wB I qb (b.1, (upd b.2.1 k.toNatClampNeg cv), b.2.2) ++ wB I qt z) H := hP
          have hD : va_D A ([cX h qb qt] ++ wB I qb (b.1, (upd b.2.1 k.toNatClampNeg cv), b.2.2) ++ wB I qt z) := hD
          refine lv_iload_n hx hb dX2_setCold_61 rfl (lv_at hl 0 rfl) ?_
          refine W.widen (k := 1) (n := 6) (Nat.le_of_ble_eq_true rfl) (Nat.le_of_ble_eq_true rfl) ?_
          exact xk_iretX (wf := fun (z : XBr) (v : XBr) => [cX h qb qt] ++ wB I qb z ++ wB I qt v) (u := (b.1, (upd b.2.1 k.toNatClampNeg cv), b.2.2)) (u1 := (s_X2_setCold b k cv)) z hx hb hr rfl hlocks hP hK hD hS (by unfold x_X2_setCold; rw [if_neg c_1, if_pos c_2, if_neg c_3, if_pos c_4]) (by unfold r_X2_setCold; rw [if_neg c_1, if_pos c_2, if_neg c_3, if_pos c_4]) (by unfold s_X2_setCold; rw [if_neg c_1, if_pos c_2, if_neg c_3, if_pos c_4]) dX2_setCold_62
        · refine xk_throw (wf := fun (z : XBr) (v : XBr) => [cX h qb qt] ++ wB I qb z ++ wB I qt v) (u := b) (u1 := (s_X2_setCold b k cv)) z (cls := eIA) (text := "cold is not -3 to 3") (ik := 19) (is := 88) (ic := 23) hx hb hlt hown (by decide +kernel) w_3 w_4 (by decide) (fun w h => hts w (List.mem_cons_of_mem _ (List.mem_append_right _ h))) (by decide +kernel) (by decide +kernel) hXX hP hK hD hS (hl.1.trans hml.symm) dX2_setCold_31 dX2_setCold_34 dX2_setCold_35 dX2_setCold_37 dX2_setCold_40 hex (Nat.le_of_ble_eq_true rfl) (Nat.le_of_ble_eq_true rfl) (Nat.le_of_ble_eq_true rfl) (Nat.le_of_ble_eq_true rfl) hlocks (Nat.le_of_ble_eq_true rfl) (Nat.le_of_ble_eq_true rfl) ?_ ?_
          · unfold x_X2_setCold; rw [if_neg c_1, if_pos c_2, if_neg c_3, if_neg c_4]; decide
          · unfold s_X2_setCold; rw [if_neg c_1, if_pos c_2, if_neg c_3, if_neg c_4]
    · refine xk_throw (wf := fun (z : XBr) (v : XBr) => [cX h qb qt] ++ wB I qb z ++ wB I qt v) (u := b) (u1 := (s_X2_setCold b k cv)) z (cls := eIO) (text := "hour is not 0 to 7") (ik := 52) (is := 86) (ic := 56) hx hb hlt hown (by decide +kernel) w_1 w_2 (by decide) (fun w h => hts w (List.mem_cons_of_mem _ (List.mem_append_left _ (List.mem_append_right _ h)))) (by decide +kernel) (by decide +kernel) hXX hP hK hD hS (hl.1.trans hml.symm) dX2_setCold_10 dX2_setCold_13 dX2_setCold_14 dX2_setCold_16 dX2_setCold_19 hex (Nat.le_of_ble_eq_true rfl) (Nat.le_of_ble_eq_true rfl) (Nat.le_of_ble_eq_true rfl) (Nat.le_of_ble_eq_true rfl) hlocks (Nat.le_of_ble_eq_true rfl) (Nat.le_of_ble_eq_true rfl) ?_ ?_
      · unfold x_X2_setCold; rw [if_neg c_1, if_neg c_2]; decide
      · unfold s_X2_setCold; rw [if_neg c_1, if_neg c_2]

def r_X2_traveller (b : XBr) (k : Int32) (wh : Int32) : Int32 :=
  if (r_X1_has b.2.2 k) = 0 then
    (0 : Int32)
  else
    if wh < 0 then
      (0 : Int32)
    else
      if wh < (7 : Int32) then
        (r_X0_factOf b k wh)
      else
        (0 : Int32)
def x_X2_traveller (b : XBr) (k : Int32) (wh : Int32) : Int32 :=
  if (r_X1_has b.2.2 k) = 0 then
    (1 : Int32)
  else
    if wh < 0 then
      (1 : Int32)
    else
      if wh < (7 : Int32) then
        (0 : Int32)
      else
        (1 : Int32)
set_option maxHeartbeats 1600000 in
set_option maxRecDepth 100000 in
theorem c_X2_traveller (l : Launch) (hlt : l.stackTraces = false) (D : va_G) (I : ClassId) (h : Nat) (qb qt : Nat → Nat) (sz : Nat) (b z : XBr) (k : Int32) (wh : Int32) (hn : nOk (b.2.2.1 0)) : xMX l D [(I, .int)] yX2_traveller wsX2_traveller { frames := 6, cells := 1, slots := 6, locals := 82 } [.ref h, .int k, .int wh] sz ([cX h qb qt] ++ wB I qb b ++ wB I qt z) XBr [(eIO, 1)] (r_X2_traveller b k wh) (x_X2_traveller b k wh) (fun v : XBr => [cX h qb qt] ++ wB I qb b ++ wB I qt v) 1 6 := by
  refine xk_startX (cc := cX2_traveller) (maxL := 3) (ret := (some .int)) (Qf := fun A => xQiX D [(I, .int)] A XBr (r_X2_traveller b k wh) (x_X2_traveller b k wh) (fun v : XBr => [cX h qb qt] ++ wB I qb b ++ wB I qt v)) (XCf := fun A => xXC D [(I, .int)] A XBr [(eIO, 1)] (x_X2_traveller b k wh) (fun v : XBr => [cX h qb qt] ++ wB I qb b ++ wB I qt v)) (by decide) rfl (Nat.le_of_ble_eq_true rfl) ?_
  intro p e s m below meth c A H ls hst hAe hsz hl hex hXX
  obtain ⟨hx, hb, hr, hts, hown, hlocks, hml, hin, hN, hK, hP, hD, hA, hS⟩ := hst
  have hl : lv_has ls 3 [(0, .ref h), (1, .int k), (2, .int wh)] := hl
  have hP : va_P D vwCl ([cX h qb qt] ++ wB I qb b ++ wB I qt z) H := hP
  have hinX2 : ∀ w ∈ u_ws RX2 TX2 2, w ∈ wsX2_traveller := by decide +kernel
  have hinX0 : ∀ w ∈ u_ws RX0 TX0 11, w ∈ wsX2_traveller := by decide +kernel
  have w_1 := hts (.fieldLink RX2 10 "BridgeBells" "bridge" "LBridgeBells$Bridge;") (by decide +kernel)
  have w_2 := hts (.fieldLink RX2 26 "BridgeBells$Bridge" "travellers" "LBridgeBells$Travellers;") (by decide +kernel)
  have w_3 := hts (.classLink RX2 52 eIO) (by decide +kernel)
  have w_4 := hts (.initialized eIO) (by decide +kernel)
  refine lv_aload_n hx hb dX2_traveller_0 rfl (lv_at hl 0 rfl) ?_
  refine va_get (D := D) (ci := 2) (v := .ref (qb 0)) (C := RX2) (T := TX2) (N := 2) hx hb hts hinX2 hown hK hP 0 rfl rfl 0 (by decide) w_1 (fun _ h9 => h9) rfl dX2_traveller_1 ?_
  refine va_get (D := D) (ci := 0) (v := .ref (qb 2)) (C := RX0) (T := TX0) (N := 11) hx hb hts hinX0 hown hK hP 1 rfl rfl 7 (by decide) w_2 (fun _ h9 => h9) rfl dX2_traveller_4 ?_
  refine lv_iload_n hx hb dX2_traveller_7 rfl (lv_at hl 1 rfl) ?_
  refine xk_calli ([cX h qb qt, cXB qb b.1, cA I (qb 1) 8 b.2.1, cXB qt z.1, cA I (qt 1) 8 z.2.1, cXT qt z.2.2.1, cA I (qt 3) 40 (z.2.2.2 0), cA I (qt 4) 40 (z.2.2.2 1), cA I (qt 5) 40 (z.2.2.2 2), cA I (qt 6) 40 (z.2.2.2 3), cA I (qt 7) 40 (z.2.2.2 4), cA I (qt 8) 40 (z.2.2.2 5)]) ([cX h qb qt] ++ wB I qb b ++ wB I qt z) [3, 4, 5, 6, 7, 8, 9] [0, 1, 2, 10, 11, 12, 13, 14, 15, 16, 17, 18] [0, 1, 2, 12, 13, 14, 15, 16, 17, 18, 3, 4, 5, 6, 7, 8, 9, 10, 11] hP hD hS hA (va_runV (As := [.int k]) (rest := []) ⟨hx, hb, hml, hown, hts⟩ (c_X1_has l D I qb H.size b.2.2 k ) (cwV 1 hts gX2_traveller_X1_has rfl rfl rfl (by decide +kernel) ⟨Nat.le_of_ble_eq_true rfl, Nat.le_of_ble_eq_true rfl⟩) (xk_preV (wc := wT I qb b.2.2) (q0 := 3) (ci := 1) hN hP hK hD [3, 4, 5, 6, 7, 8, 9] rfl rfl rfl rfl) rfl rfl hl.1 rfl (lv_room (Nat.le_of_ble_eq_true rfl)) dX2_traveller_8 ⟨Nat.le_of_ble_eq_true rfl, Nat.le_of_ble_eq_true rfl⟩) rfl rfl rfl (by decide) rfl rfl (fun H locs hP hD hS => ?_)
  refine lv_if_ne (tgt := 24) hx hb dX2_traveller_11 (by decide) (fun c_1 => ?_) (fun c_1 => ?_)
  · refine lv_iload_n hx hb dX2_traveller_24 rfl (lv_at hl 2 rfl) ?_
    refine lv_if_lt (tgt := 34) hx hb dX2_traveller_25 (by decide) (fun c_2 => ?_) (fun c_2 => ?_)
    · refine xk_throw (wf := fun (z : XBr) (v : XBr) => [cX h qb qt] ++ wB I qb z ++ wB I qt v) (u := b) (u1 := b) z (cls := eIO) (text := "what is not 0 to 6") (ik := 52) (is := 101) (ic := 56) hx hb hlt hown (by decide +kernel) w_3 w_4 (by decide) (fun w h => hts w (List.mem_cons_of_mem _ (List.mem_append_right _ h))) (by decide +kernel) (by decide +kernel) hXX hP hK hD hS (hl.1.trans hml.symm) dX2_traveller_34 dX2_traveller_37 dX2_traveller_38 dX2_traveller_40 dX2_traveller_43 hex (Nat.le_of_ble_eq_true rfl) (Nat.le_of_ble_eq_true rfl) (Nat.le_of_ble_eq_true rfl) (Nat.le_of_ble_eq_true rfl) hlocks (Nat.le_of_ble_eq_true rfl) (Nat.le_of_ble_eq_true rfl) ?_ ?_
      · unfold x_X2_traveller; rw [if_neg c_1, if_pos c_2]; decide
      · rfl
    · refine lv_iload_n hx hb dX2_traveller_28 rfl (lv_at hl 2 rfl) ?_
      refine lv_bipush (v := (7 : Int32)) hx hb dX2_traveller_29 (by decide) ?_
      refine lv_icmp_lt (tgt := 44) hx hb dX2_traveller_31 (by decide) (fun c_3 => ?_) (fun c_3 => ?_)
      · refine lv_aload_n hx hb dX2_traveller_44 rfl (lv_at hl 0 rfl) ?_
        refine va_get (D := D) (ci := 2) (v := .ref (qb 0)) (C := RX2) (T := TX2) (N := 2) hx hb hts hinX2 hown hK hP 0 rfl rfl 0 (by decide) w_1 (fun _ h9 => h9) rfl dX2_traveller_45 ?_
        refine lv_iload_n hx hb dX2_traveller_48 rfl (lv_at hl 1 rfl) ?_
        refine lv_iload_n hx hb dX2_traveller_49 rfl (lv_at hl 2 rfl) ?_
        refine xk_calli ([cX h qb qt, cXB qt z.1, cA I (qt 1) 8 z.2.1, cXT qt z.2.2.1, cA I (qt 3) 40 (z.2.2.2 0), cA I (qt 4) 40 (z.2.2.2 1), cA I (qt 5) 40 (z.2.2.2 2), cA I (qt 6) 40 (z.2.2.2 3), cA I (qt 7) 40 (z.2.2.2 4), cA I (qt 8) 40 (z.2.2.2 5)]) ([cX h qb qt] ++ wB I qb b ++ wB I qt z) [1, 2, 3, 4, 5, 6, 7, 8, 9] [0, 10, 11, 12, 13, 14, 15, 16, 17, 18] [0, 10, 11, 12, 13, 14, 15, 16, 17, 18, 1, 2, 3, 4, 5, 6, 7, 8, 9] hP hD hS hA (va_runV (As := [.int k, .int wh]) (rest := []) ⟨hx, hb, hml, hown, hts⟩ (c_X0_factOf l D I qb H.size b k wh (has_v hn c_1)) (cwV 2 hts gX2_traveller_X0_factOf rfl rfl rfl (by decide +kernel) ⟨Nat.le_of_ble_eq_true rfl, Nat.le_of_ble_eq_true rfl⟩) (xk_preV (wc := wB I qb b) (q0 := 1) (ci := 0) hN hP hK hD [1, 2, 3, 4, 5, 6, 7, 8, 9] rfl rfl rfl rfl) rfl rfl hl.1 rfl (lv_room (Nat.le_of_ble_eq_true rfl)) dX2_traveller_50 ⟨Nat.le_of_ble_eq_true rfl, Nat.le_of_ble_eq_true rfl⟩) rfl rfl rfl (by decide) rfl rfl (fun H locs hP hD hS => ?_)
        refine W.widen (k := 1) (n := 6) (Nat.le_of_ble_eq_true rfl) (Nat.le_of_ble_eq_true rfl) ?_
        exact xk_iretX (wf := fun (z : XBr) (v : XBr) => [cX h qb qt] ++ wB I qb z ++ wB I qt v) (u := b) (u1 := b) z hx hb hr rfl hlocks hP hK hD hS (by unfold x_X2_traveller; rw [if_neg c_1, if_neg c_2, if_pos c_3]) (by unfold r_X2_traveller; rw [if_neg c_1, if_neg c_2, if_pos c_3]) rfl dX2_traveller_53
      · refine xk_throw (wf := fun (z : XBr) (v : XBr) => [cX h qb qt] ++ wB I qb z ++ wB I qt v) (u := b) (u1 := b) z (cls := eIO) (text := "what is not 0 to 6") (ik := 52) (is := 101) (ic := 56) hx hb hlt hown (by decide +kernel) w_3 w_4 (by decide) (fun w h => hts w (List.mem_cons_of_mem _ (List.mem_append_right _ h))) (by decide +kernel) (by decide +kernel) hXX hP hK hD hS (hl.1.trans hml.symm) dX2_traveller_34 dX2_traveller_37 dX2_traveller_38 dX2_traveller_40 dX2_traveller_43 hex (Nat.le_of_ble_eq_true rfl) (Nat.le_of_ble_eq_true rfl) (Nat.le_of_ble_eq_true rfl) (Nat.le_of_ble_eq_true rfl) hlocks (Nat.le_of_ble_eq_true rfl) (Nat.le_of_ble_eq_true rfl) ?_ ?_
        · unfold x_X2_traveller; rw [if_neg c_1, if_neg c_2, if_neg c_3]; decide
        · rfl
  · refine xk_throw (wf := fun (z : XBr) (v : XBr) => [cX h qb qt] ++ wB I qb z ++ wB I qt v) (u := b) (u1 := b) z (cls := eIO) (text := "there is no such traveller") (ik := 52) (is := 54) (ic := 56) hx hb hlt hown (by decide +kernel) w_3 w_4 (by decide) (fun w h => hts w (List.mem_cons_of_mem _ (List.mem_append_right _ h))) (by decide +kernel) (by decide +kernel) hXX hP hK hD hS (hl.1.trans hml.symm) dX2_traveller_14 dX2_traveller_17 dX2_traveller_18 dX2_traveller_20 dX2_traveller_23 hex (Nat.le_of_ble_eq_true rfl) (Nat.le_of_ble_eq_true rfl) (Nat.le_of_ble_eq_true rfl) (Nat.le_of_ble_eq_true rfl) hlocks (Nat.le_of_ble_eq_true rfl) (Nat.le_of_ble_eq_true rfl) ?_ ?_
    · unfold x_X2_traveller; rw [if_pos c_1]; decide
    · rfl

def r_X2_count (b : XBr) (wh : Int32) : Int32 :=
  if wh < 0 then
    (0 : Int32)
  else
    if wh < (12 : Int32) then
      (r_X0_total b wh)
    else
      (0 : Int32)
def x_X2_count (b : XBr) (wh : Int32) : Int32 :=
  if wh < 0 then
    (1 : Int32)
  else
    if wh < (12 : Int32) then
      (0 : Int32)
    else
      (1 : Int32)
set_option maxHeartbeats 1600000 in
set_option maxRecDepth 100000 in
theorem c_X2_count (l : Launch) (hlt : l.stackTraces = false) (D : va_G) (I : ClassId) (h : Nat) (qb qt : Nat → Nat) (sz : Nat) (b z : XBr) (wh : Int32)  : xMX l D [(I, .int)] yX2_count wsX2_count { frames := 6, cells := 1, slots := 6, locals := 82 } [.ref h, .int wh] sz ([cX h qb qt] ++ wB I qb b ++ wB I qt z) XBr [(eIO, 1)] (r_X2_count b wh) (x_X2_count b wh) (fun v : XBr => [cX h qb qt] ++ wB I qb b ++ wB I qt v) 1 6 := by
  refine xk_startX (cc := cX2_count) (maxL := 2) (ret := (some .int)) (Qf := fun A => xQiX D [(I, .int)] A XBr (r_X2_count b wh) (x_X2_count b wh) (fun v : XBr => [cX h qb qt] ++ wB I qb b ++ wB I qt v)) (XCf := fun A => xXC D [(I, .int)] A XBr [(eIO, 1)] (x_X2_count b wh) (fun v : XBr => [cX h qb qt] ++ wB I qb b ++ wB I qt v)) (by decide) rfl (Nat.le_of_ble_eq_true rfl) ?_
  intro p e s m below meth c A H ls hst hAe hsz hl hex hXX
  obtain ⟨hx, hb, hr, hts, hown, hlocks, hml, hin, hN, hK, hP, hD, hA, hS⟩ := hst
  have hl : lv_has ls 2 [(0, .ref h), (1, .int wh)] := hl
  have hP : va_P D vwCl ([cX h qb qt] ++ wB I qb b ++ wB I qt z) H := hP
  have hinX2 : ∀ w ∈ u_ws RX2 TX2 2, w ∈ wsX2_count := by decide +kernel
  have w_1 := hts (.classLink RX2 52 eIO) (by decide +kernel)
  have w_2 := hts (.initialized eIO) (by decide +kernel)
  have w_3 := hts (.fieldLink RX2 10 "BridgeBells" "bridge" "LBridgeBells$Bridge;") (by decide +kernel)
  refine lv_iload_n hx hb dX2_count_0 rfl (lv_at hl 1 rfl) ?_
  refine lv_if_lt (tgt := 10) hx hb dX2_count_1 (by decide) (fun c_1 => ?_) (fun c_1 => ?_)
  · refine xk_throw (wf := fun (z : XBr) (v : XBr) => [cX h qb qt] ++ wB I qb z ++ wB I qt v) (u := b) (u1 := b) z (cls := eIO) (text := "what is not 0 to 11") (ik := 52) (is := 106) (ic := 56) hx hb hlt hown (by decide +kernel) w_1 w_2 (by decide) (fun w h => hts w (List.mem_cons_of_mem _ (List.mem_append_right _ h))) (by decide +kernel) (by decide +kernel) hXX hP hK hD hS (hl.1.trans hml.symm) dX2_count_10 dX2_count_13 dX2_count_14 dX2_count_16 dX2_count_19 hex (Nat.le_of_ble_eq_true rfl) (Nat.le_of_ble_eq_true rfl) (Nat.le_of_ble_eq_true rfl) (Nat.le_of_ble_eq_true rfl) hlocks (Nat.le_of_ble_eq_true rfl) (Nat.le_of_ble_eq_true rfl) ?_ ?_
    · unfold x_X2_count; rw [if_pos c_1]; decide
    · rfl
  · refine lv_iload_n hx hb dX2_count_4 rfl (lv_at hl 1 rfl) ?_
    refine lv_bipush (v := (12 : Int32)) hx hb dX2_count_5 (by decide) ?_
    refine lv_icmp_lt (tgt := 20) hx hb dX2_count_7 (by decide) (fun c_2 => ?_) (fun c_2 => ?_)
    · refine lv_aload_n hx hb dX2_count_20 rfl (lv_at hl 0 rfl) ?_
      refine va_get (D := D) (ci := 2) (v := .ref (qb 0)) (C := RX2) (T := TX2) (N := 2) hx hb hts hinX2 hown hK hP 0 rfl rfl 0 (by decide) w_3 (fun _ h9 => h9) rfl dX2_count_21 ?_
      refine lv_iload_n hx hb dX2_count_24 rfl (lv_at hl 1 rfl) ?_
      refine xk_calli ([cX h qb qt, cXB qt z.1, cA I (qt 1) 8 z.2.1, cXT qt z.2.2.1, cA I (qt 3) 40 (z.2.2.2 0), cA I (qt 4) 40 (z.2.2.2 1), cA I (qt 5) 40 (z.2.2.2 2), cA I (qt 6) 40 (z.2.2.2 3), cA I (qt 7) 40 (z.2.2.2 4), cA I (qt 8) 40 (z.2.2.2 5)]) ([cX h qb qt] ++ wB I qb b ++ wB I qt z) [1, 2, 3, 4, 5, 6, 7, 8, 9] [0, 10, 11, 12, 13, 14, 15, 16, 17, 18] [0, 10, 11, 12, 13, 14, 15, 16, 17, 18, 1, 2, 3, 4, 5, 6, 7, 8, 9] hP hD hS hA (va_runV (As := [.int wh]) (rest := []) ⟨hx, hb, hml, hown, hts⟩ (c_X0_total l D I qb H.size b wh ) (cwV 1 hts gX2_count_X0_total rfl rfl rfl (by decide +kernel) ⟨Nat.le_of_ble_eq_true rfl, Nat.le_of_ble_eq_true rfl⟩) (xk_preV (wc := wB I qb b) (q0 := 1) (ci := 0) hN hP hK hD [1, 2, 3, 4, 5, 6, 7, 8, 9] rfl rfl rfl rfl) rfl rfl hl.1 rfl (lv_room (Nat.le_of_ble_eq_true rfl)) dX2_count_25 ⟨Nat.le_of_ble_eq_true rfl, Nat.le_of_ble_eq_true rfl⟩) rfl rfl rfl (by decide) rfl rfl (fun H locs hP hD hS => ?_)
      refine W.widen (k := 1) (n := 6) (Nat.le_of_ble_eq_true rfl) (Nat.le_of_ble_eq_true rfl) ?_
      exact xk_iretX (wf := fun (z : XBr) (v : XBr) => [cX h qb qt] ++ wB I qb z ++ wB I qt v) (u := b) (u1 := b) z hx hb hr rfl hlocks hP hK hD hS (by unfold x_X2_count; rw [if_neg c_1, if_pos c_2]) (by unfold r_X2_count; rw [if_neg c_1, if_pos c_2]) rfl dX2_count_28
    · refine xk_throw (wf := fun (z : XBr) (v : XBr) => [cX h qb qt] ++ wB I qb z ++ wB I qt v) (u := b) (u1 := b) z (cls := eIO) (text := "what is not 0 to 11") (ik := 52) (is := 106) (ic := 56) hx hb hlt hown (by decide +kernel) w_1 w_2 (by decide) (fun w h => hts w (List.mem_cons_of_mem _ (List.mem_append_right _ h))) (by decide +kernel) (by decide +kernel) hXX hP hK hD hS (hl.1.trans hml.symm) dX2_count_10 dX2_count_13 dX2_count_14 dX2_count_16 dX2_count_19 hex (Nat.le_of_ble_eq_true rfl) (Nat.le_of_ble_eq_true rfl) (Nat.le_of_ble_eq_true rfl) (Nat.le_of_ble_eq_true rfl) hlocks (Nat.le_of_ble_eq_true rfl) (Nat.le_of_ble_eq_true rfl) ?_ ?_
      · unfold x_X2_count; rw [if_neg c_1, if_neg c_2]; decide
      · rfl

def g1_X2_pass (b : XBr) (mi : Int32) : XBr := s_X0_goOn b mi
def r_X2_pass (b : XBr) (mi : Int32) : Int32 :=
  if (r_X2_isSpan mi) = 0 then
    (0 : Int32)
  else
    (((g1_X2_pass b mi).2.2.1 1) - (b.2.2.1 1))
def x_X2_pass (b : XBr) (mi : Int32) : Int32 :=
  if (r_X2_isSpan mi) = 0 then
    (1 : Int32)
  else
    (0 : Int32)
def s_X2_pass (b : XBr) (mi : Int32) : XBr :=
  if (r_X2_isSpan mi) = 0 then
    b
  else
    (g1_X2_pass b mi)
set_option maxHeartbeats 1600000 in
set_option maxRecDepth 100000 in
theorem c_X2_pass (l : Launch) (hlt : l.stackTraces = false) (D : va_G) (I : ClassId) (h : Nat) (qb qt : Nat → Nat) (sz : Nat) (b z : XBr) (mi : Int32) (hn : nOk (b.2.2.1 0)) (hm1 : 0 ≤ (b.1 0).toInt) (hm2 : (b.1 0).toInt < 1000000000) : xMX l D [(I, .int)] yX2_pass wsX2_pass { frames := 6, cells := 1, slots := 6, locals := 108 } [.ref h, .int mi] sz ([cX h qb qt] ++ wB I qb b ++ wB I qt z) XBr [(eIA, 1)] (r_X2_pass b mi) (x_X2_pass b mi) (fun v : XBr => [cX h qb qt] ++ wB I qb (s_X2_pass b mi) ++ wB I qt v) 1 6 := by
  refine xk_startX (cc := cX2_pass) (maxL := 3) (ret := (some .int)) (Qf := fun A => xQiX D [(I, .int)] A XBr (r_X2_pass b mi) (x_X2_pass b mi) (fun v : XBr => [cX h qb qt] ++ wB I qb (s_X2_pass b mi) ++ wB I qt v)) (XCf := fun A => xXC D [(I, .int)] A XBr [(eIA, 1)] (x_X2_pass b mi) (fun v : XBr => [cX h qb qt] ++ wB I qb (s_X2_pass b mi) ++ wB I qt v)) (by decide) rfl (Nat.le_of_ble_eq_true rfl) ?_
  intro p e s m below meth c A H ls hst hAe hsz hl hex hXX
  obtain ⟨hx, hb, hr, hts, hown, hlocks, hml, hin, hN, hK, hP, hD, hA, hS⟩ := hst
  have hl : lv_has ls 3 [(0, .ref h), (1, .int mi)] := hl
  have hP : va_P D vwCl ([cX h qb qt] ++ wB I qb b ++ wB I qt z) H := hP
  have hinX2 : ∀ w ∈ u_ws RX2 TX2 2, w ∈ wsX2_pass := by decide +kernel
  have hinX0 : ∀ w ∈ u_ws RX0 TX0 11, w ∈ wsX2_pass := by decide +kernel
  have hinX1 : ∀ w ∈ u_ws RX1 TX1 12, w ∈ wsX2_pass := by decide +kernel
  have w_1 := hts (.fieldLink RX2 10 "BridgeBells" "bridge" "LBridgeBells$Bridge;") (by decide +kernel)
  have w_2 := hts (.fieldLink RX2 26 "BridgeBells$Bridge" "travellers" "LBridgeBells$Travellers;") (by decide +kernel)
  have w_3 := hts (.fieldLink RX2 121 "BridgeBells$Travellers" "passed" "I") (by decide +kernel)
  have w_4 := hts (.classLink RX2 19 eIA) (by decide +kernel)
  have w_5 := hts (.initialized eIA) (by decide +kernel)
  refine lv_iload_n hx hb dX2_pass_0 rfl (lv_at hl 1 rfl) ?_
  refine xk_calli ([cX h qb qt, cXB qb b.1, cA I (qb 1) 8 b.2.1, cXT qb b.2.2.1, cA I (qb 3) 40 (b.2.2.2 0), cA I (qb 4) 40 (b.2.2.2 1), cA I (qb 5) 40 (b.2.2.2 2), cA I (qb 6) 40 (b.2.2.2 3), cA I (qb 7) 40 (b.2.2.2 4), cA I (qb 8) 40 (b.2.2.2 5), cXB qt z.1, cA I (qt 1) 8 z.2.1, cXT qt z.2.2.1, cA I (qt 3) 40 (z.2.2.2 0), cA I (qt 4) 40 (z.2.2.2 1), cA I (qt 5) 40 (z.2.2.2 2), cA I (qt 6) 40 (z.2.2.2 3), cA I (qt 7) 40 (z.2.2.2 4), cA I (qt 8) 40 (z.2.2.2 5)]) ([cX h qb qt] ++ wB I qb b ++ wB I qt z) [] [0, 1, 2, 3, 4, 5, 6, 7, 8, 9, 10, 11, 12, 13, 14, 15, 16, 17, 18] [0, 1, 2, 3, 4, 5, 6, 7, 8, 9, 10, 11, 12, 13, 14, 15, 16, 17, 18] hP hD hS hA (va_runS (As := [.int mi]) (rest := []) ⟨hx, hb, hml, hown, hts⟩ (c_X2_isSpan l D I  H.size mi ) (va_cwS 1 hts gX2_pass_X2_isSpan rfl rfl rfl (by decide +kernel) ⟨Nat.le_of_ble_eq_true rfl, Nat.le_of_ble_eq_true rfl⟩) (xk_pre (wc := ([] : va_W)) hN hP hK hD [] rfl rfl) rfl rfl hl.1 rfl (lv_room (Nat.le_of_ble_eq_true rfl)) dX2_pass_1 ⟨Nat.le_of_ble_eq_true rfl, Nat.le_of_ble_eq_true rfl⟩) rfl rfl rfl (by decide) rfl rfl (fun H locs hP hD hS => ?_)
  refine lv_if_ne (tgt := 17) hx hb dX2_pass_4 (by decide) (fun c_1 => ?_) (fun c_1 => ?_)
  · refine lv_aload_n hx hb dX2_pass_17 rfl (lv_at hl 0 rfl) ?_
    refine va_get (D := D) (ci := 2) (v := .ref (qb 0)) (C := RX2) (T := TX2) (N := 2) hx hb hts hinX2 hown hK hP 0 rfl rfl 0 (by decide) w_1 (fun _ h9 => h9) rfl dX2_pass_18 ?_
    refine va_get (D := D) (ci := 0) (v := .ref (qb 2)) (C := RX0) (T := TX0) (N := 11) hx hb hts hinX0 hown hK hP 1 rfl rfl 7 (by decide) w_2 (fun _ h9 => h9) rfl dX2_pass_21 ?_
    refine va_get (D := D) (ci := 1) (v := .int (b.2.2.1 1)) (C := RX1) (T := TX1) (N := 12) hx hb hts hinX1 hown hK hP 3 rfl rfl 1 (by decide) w_3 (fun _ h9 => h9) rfl dX2_pass_24 ?_
    refine lv_istore_n (lv' := [(2, .int (b.2.2.1 1)), (0, .ref h), (1, .int mi)]) hx hb dX2_pass_27 rfl hl (by decide) rfl (fun ls hl => ?_)
    refine lv_aload_n hx hb dX2_pass_28 rfl (lv_at hl 1 rfl) ?_
    refine va_get (D := D) (ci := 2) (v := .ref (qb 0)) (C := RX2) (T := TX2) (N := 2) hx hb hts hinX2 hown hK hP 0 rfl rfl 0 (by decide) w_1 (fun _ h9 => h9) rfl dX2_pass_29 ?_
    refine lv_iload_n hx hb dX2_pass_32 rfl (lv_at hl 2 rfl) ?_
    refine xk_callv ([cX h qb qt, cXB qt z.1, cA I (qt 1) 8 z.2.1, cXT qt z.2.2.1, cA I (qt 3) 40 (z.2.2.2 0), cA I (qt 4) 40 (z.2.2.2 1), cA I (qt 5) 40 (z.2.2.2 2), cA I (qt 6) 40 (z.2.2.2 3), cA I (qt 7) 40 (z.2.2.2 4), cA I (qt 8) 40 (z.2.2.2 5)]) ([cX h qb qt] ++ wB I qb (s_X0_goOn b mi) ++ wB I qt z) [1, 2, 3, 4, 5, 6, 7, 8, 9] [0, 10, 11, 12, 13, 14, 15, 16, 17, 18] [0, 10, 11, 12, 13, 14, 15, 16, 17, 18, 1, 2, 3, 4, 5, 6, 7, 8, 9] hP hD hS hA (va_runV (As := [.int mi]) (rest := []) ⟨hx, hb, hml, hown, hts⟩ (c_X0_goOn l D I qb H.size b mi hn hm1 hm2 (span_b c_1).1 (span_b c_1).2) (cwV 1 hts gX2_pass_X0_goOn rfl rfl rfl (by decide +kernel) ⟨Nat.le_of_ble_eq_true rfl, Nat.le_of_ble_eq_true rfl⟩) (xk_preV (wc := wB I qb b) (q0 := 1) (ci := 0) hN hP hK hD [1, 2, 3, 4, 5, 6, 7, 8, 9] rfl rfl rfl rfl) rfl rfl hl.1 rfl (lv_room (Nat.le_of_ble_eq_true rfl)) dX2_pass_33 ⟨Nat.le_of_ble_eq_true rfl, Nat.le_of_ble_eq_true rfl⟩) rfl rfl rfl (by decide) rfl rfl (fun H locs hP hD hS => ?_)
    generalize hz_1 : s_X0_goOn b mi = z_1 at hP hD
    have hg_1 : g1_X2_pass b mi = z_1 := by rw [← hz_1]; rfl
    refine lv_aload_n hx hb dX2_pass_36 rfl (lv_at hl 1 rfl) ?_
    refine va_get (D := D) (ci := 2) (v := .ref (qb 0)) (C := RX2) (T := TX2) (N := 2) hx hb hts hinX2 hown hK hP 0 rfl rfl 0 (by decide) w_1 (fun _ h9 => h9) rfl dX2_pass_37 ?_
    refine va_get (D := D) (ci := 0) (v := .ref (qb 2)) (C := RX0) (T := TX0) (N := 11) hx hb hts hinX0 hown hK hP 1 rfl rfl 7 (by decide) w_2 (fun _ h9 => h9) rfl dX2_pass_40 ?_
    refine va_get (D := D) (ci := 1) (v := .int (z_1.2.2.1 1)) (C := RX1) (T := TX1) (N := 12) hx hb hts hinX1 hown hK hP 3 rfl rfl 1 (by decide) w_3 (fun _ h9 => h9) rfl dX2_pass_43 ?_
    refine lv_iload_n hx hb dX2_pass_46 rfl (lv_at hl 0 rfl) ?_
    refine lv_isub hx hb dX2_pass_47 ?_
    refine W.widen (k := 1) (n := 6) (Nat.le_of_ble_eq_true rfl) (Nat.le_of_ble_eq_true rfl) ?_
    exact xk_iretX (wf := fun (z : XBr) (v : XBr) => [cX h qb qt] ++ wB I qb z ++ wB I qt v) (u := z_1) (u1 := (s_X2_pass b mi)) z hx hb hr rfl hlocks hP hK hD hS (by subst hg_1; unfold x_X2_pass; rw [if_neg c_1]) (by subst hg_1; unfold r_X2_pass; rw [if_neg c_1]) (by subst hg_1; unfold s_X2_pass; rw [if_neg c_1]) dX2_pass_48
  · refine xk_throw (wf := fun (z : XBr) (v : XBr) => [cX h qb qt] ++ wB I qb z ++ wB I qt v) (u := b) (u1 := (s_X2_pass b mi)) z (cls := eIA) (text := "minutes is not 1 to 240") (ik := 19) (is := 119) (ic := 23) hx hb hlt hown (by decide +kernel) w_4 w_5 (by decide) (fun w h => hts w (List.mem_cons_of_mem _ (List.mem_append_right _ h))) (by decide +kernel) (by decide +kernel) hXX hP hK hD hS (hl.1.trans hml.symm) dX2_pass_7 dX2_pass_10 dX2_pass_11 dX2_pass_13 dX2_pass_16 hex (Nat.le_of_ble_eq_true rfl) (Nat.le_of_ble_eq_true rfl) (Nat.le_of_ble_eq_true rfl) (Nat.le_of_ble_eq_true rfl) hlocks (Nat.le_of_ble_eq_true rfl) (Nat.le_of_ble_eq_true rfl) ?_ ?_
    · unfold x_X2_pass; rw [if_pos c_1]; decide
    · unfold s_X2_pass; rw [if_pos c_1]

def g1_X2_foresee (b : XBr) (mi : Int32) (wh : Int32) : XBr := s_X0_goOn b mi
def r_X2_foresee (b : XBr) (mi : Int32) (wh : Int32) : Int32 :=
  if (r_X2_isSpan mi) = 0 then
    (0 : Int32)
  else
    if wh < 0 then
      (0 : Int32)
    else
      if wh < (4 : Int32) then
        if wh = (0 : Int32) then
          (((g1_X2_foresee b mi wh).2.2.1 1) - (b.2.2.1 1))
        else
          if wh = (1 : Int32) then
            (((g1_X2_foresee b mi wh).1 5) - (b.1 5))
          else
            if wh = (2 : Int32) then
              ((g1_X2_foresee b mi wh).1 1)
            else
              ((g1_X2_foresee b mi wh).1 3)
      else
        (0 : Int32)
def x_X2_foresee (b : XBr) (mi : Int32) (wh : Int32) : Int32 :=
  if (r_X2_isSpan mi) = 0 then
    (1 : Int32)
  else
    if wh < 0 then
      (2 : Int32)
    else
      if wh < (4 : Int32) then
        if wh = (0 : Int32) then
          (0 : Int32)
        else
          if wh = (1 : Int32) then
            (0 : Int32)
          else
            if wh = (2 : Int32) then
              (0 : Int32)
            else
              (0 : Int32)
      else
        (2 : Int32)
set_option maxHeartbeats 1600000 in
set_option maxRecDepth 100000 in
theorem c_X2_foresee (l : Launch) (hlt : l.stackTraces = false) (D : va_G) (I : ClassId) (h : Nat) (qb qt : Nat → Nat) (sz : Nat) (b z : XBr) (mi : Int32) (wh : Int32) (hn : nOk (b.2.2.1 0)) (hm1 : 0 ≤ (b.1 0).toInt) (hm2 : (b.1 0).toInt < 1000000000) (hz : b.1 8 = 0 ∨ b.1 8 = 1) : xMX l D [(I, .int)] yX2_foresee wsX2_foresee { frames := 6, cells := 1, slots := 6, locals := 108 } [.ref h, .int mi, .int wh] sz ([cX h qb qt] ++ wB I qb b ++ wB I qt z) XBr [(eIA, 1), (eIO, 2)] (r_X2_foresee b mi wh) (x_X2_foresee b mi wh) (fun v : XBr => [cX h qb qt] ++ wB I qb b ++ wB I qt v) 1 6 := by
  refine xk_startX (cc := cX2_foresee) (maxL := 3) (ret := (some .int)) (Qf := fun A => xQiX D [(I, .int)] A XBr (r_X2_foresee b mi wh) (x_X2_foresee b mi wh) (fun v : XBr => [cX h qb qt] ++ wB I qb b ++ wB I qt v)) (XCf := fun A => xXC D [(I, .int)] A XBr [(eIA, 1), (eIO, 2)] (x_X2_foresee b mi wh) (fun v : XBr => [cX h qb qt] ++ wB I qb b ++ wB I qt v)) (by decide) rfl (Nat.le_of_ble_eq_true rfl) ?_
  intro p e s m below meth c A H ls hst hAe hsz hl hex hXX
  obtain ⟨hx, hb, hr, hts, hown, hlocks, hml, hin, hN, hK, hP, hD, hA, hS⟩ := hst
  have hl : lv_has ls 3 [(0, .ref h), (1, .int mi), (2, .int wh)] := hl
  have hP : va_P D vwCl ([cX h qb qt] ++ wB I qb b ++ wB I qt z) H := hP
  have hinX2 : ∀ w ∈ u_ws RX2 TX2 2, w ∈ wsX2_foresee := by decide +kernel
  have hinX0 : ∀ w ∈ u_ws RX0 TX0 11, w ∈ wsX2_foresee := by decide +kernel
  have hinX1 : ∀ w ∈ u_ws RX1 TX1 12, w ∈ wsX2_foresee := by decide +kernel
  have w_1 := hts (.classLink RX2 52 eIO) (by decide +kernel)
  have w_2 := hts (.initialized eIO) (by decide +kernel)
  have w_3 := hts (.fieldLink RX2 16 "BridgeBells" "trial" "LBridgeBells$Bridge;") (by decide +kernel)
  have w_4 := hts (.fieldLink RX2 10 "BridgeBells" "bridge" "LBridgeBells$Bridge;") (by decide +kernel)
  have w_5 := hts (.fieldLink RX2 26 "BridgeBells$Bridge" "travellers" "LBridgeBells$Travellers;") (by decide +kernel)
  have w_6 := hts (.fieldLink RX2 121 "BridgeBells$Travellers" "passed" "I") (by decide +kernel)
  have w_7 := hts (.fieldLink RX2 137 "BridgeBells$Bridge" "waitedInAll" "I") (by decide +kernel)
  have w_8 := hts (.fieldLink RX2 78 "BridgeBells$Bridge" "angle" "I") (by decide +kernel)
  have w_9 := hts (.fieldLink RX2 93 "BridgeBells$Bridge" "ice" "I") (by decide +kernel)
  have w_10 := hts (.classLink RX2 19 eIA) (by decide +kernel)
  have w_11 := hts (.initialized eIA) (by decide +kernel)
  refine lv_iload_n hx hb dX2_foresee_0 rfl (lv_at hl 1 rfl) ?_
  refine xk_calli ([cX h qb qt, cXB qb b.1, cA I (qb 1) 8 b.2.1, cXT qb b.2.2.1, cA I (qb 3) 40 (b.2.2.2 0), cA I (qb 4) 40 (b.2.2.2 1), cA I (qb 5) 40 (b.2.2.2 2), cA I (qb 6) 40 (b.2.2.2 3), cA I (qb 7) 40 (b.2.2.2 4), cA I (qb 8) 40 (b.2.2.2 5), cXB qt z.1, cA I (qt 1) 8 z.2.1, cXT qt z.2.2.1, cA I (qt 3) 40 (z.2.2.2 0), cA I (qt 4) 40 (z.2.2.2 1), cA I (qt 5) 40 (z.2.2.2 2), cA I (qt 6) 40 (z.2.2.2 3), cA I (qt 7) 40 (z.2.2.2 4), cA I (qt 8) 40 (z.2.2.2 5)]) ([cX h qb qt] ++ wB I qb b ++ wB I qt z) [] [0, 1, 2, 3, 4, 5, 6, 7, 8, 9, 10, 11, 12, 13, 14, 15, 16, 17, 18] [0, 1, 2, 3, 4, 5, 6, 7, 8, 9, 10, 11, 12, 13, 14, 15, 16, 17, 18] hP hD hS hA (va_runS (As := [.int mi]) (rest := []) ⟨hx, hb, hml, hown, hts⟩ (c_X2_isSpan l D I  H.size mi ) (va_cwS 1 hts gX2_foresee_X2_isSpan rfl rfl rfl (by decide +kernel) ⟨Nat.le_of_ble_eq_true rfl, Nat.le_of_ble_eq_true rfl⟩) (xk_pre (wc := ([] : va_W)) hN hP hK hD [] rfl rfl) rfl rfl hl.1 rfl (lv_room (Nat.le_of_ble_eq_true rfl)) dX2_foresee_1 ⟨Nat.le_of_ble_eq_true rfl, Nat.le_of_ble_eq_true rfl⟩) rfl rfl rfl (by decide) rfl rfl (fun H locs hP hD hS => ?_)
  refine lv_if_ne (tgt := 17) hx hb dX2_foresee_4 (by decide) (fun c_1 => ?_) (fun c_1 => ?_)
  · refine lv_iload_n hx hb dX2_foresee_17 rfl (lv_at hl 2 rfl) ?_
    refine lv_if_lt (tgt := 26) hx hb dX2_foresee_18 (by decide) (fun c_2 => ?_) (fun c_2 => ?_)
    · refine xk_throw (wf := fun (z : XBr) (v : XBr) => [cX h qb qt] ++ wB I qb z ++ wB I qt v) (u := b) (u1 := b) z (cls := eIO) (text := "what is not 0 to 3") (ik := 52) (is := 135) (ic := 56) hx hb hlt hown (by decide +kernel) w_1 w_2 (by decide) (fun w h => hts w (List.mem_cons_of_mem _ (List.mem_append_right _ h))) (by decide +kernel) (by decide +kernel) hXX hP hK hD hS (hl.1.trans hml.symm) dX2_foresee_26 dX2_foresee_29 dX2_foresee_30 dX2_foresee_32 dX2_foresee_35 hex (Nat.le_of_ble_eq_true rfl) (Nat.le_of_ble_eq_true rfl) (Nat.le_of_ble_eq_true rfl) (Nat.le_of_ble_eq_true rfl) hlocks (Nat.le_of_ble_eq_true rfl) (Nat.le_of_ble_eq_true rfl) ?_ ?_
      · unfold x_X2_foresee; rw [if_neg c_1, if_pos c_2]; decide
      · rfl
    · refine lv_iload_n hx hb dX2_foresee_21 rfl (lv_at hl 2 rfl) ?_
      refine lv_iconst (v := (4 : Int32)) hx hb dX2_foresee_22 (by decide) ?_
      refine lv_icmp_lt (tgt := 36) hx hb dX2_foresee_23 (by decide) (fun c_3 => ?_) (fun c_3 => ?_)
      · refine lv_aload_n hx hb dX2_foresee_36 rfl (lv_at hl 0 rfl) ?_
        refine va_get (D := D) (ci := 2) (v := .ref (qt 0)) (C := RX2) (T := TX2) (N := 2) hx hb hts hinX2 hown hK hP 0 rfl rfl 1 (by decide) w_3 (fun _ h9 => h9) rfl dX2_foresee_37 ?_
        refine lv_aload_n hx hb dX2_foresee_40 rfl (lv_at hl 0 rfl) ?_
        refine va_get (D := D) (ci := 2) (v := .ref (qb 0)) (C := RX2) (T := TX2) (N := 2) hx hb hts hinX2 hown hK hP 0 rfl rfl 0 (by decide) w_4 (fun _ h9 => h9) rfl dX2_foresee_41 ?_
        refine xk_callv ([cX h qb qt]) ([cX h qb qt] ++ wB I qb b ++ wB I qt b) [10, 11, 12, 13, 14, 15, 16, 17, 18, 1, 2, 3, 4, 5, 6, 7, 8, 9] [0] [0, 10, 11, 12, 13, 14, 15, 16, 17, 18, 1, 2, 3, 4, 5, 6, 7, 8, 9] hP hD hS hA (va_runV (As := [.ref (qb 0)]) (rest := []) ⟨hx, hb, hml, hown, hts⟩ (c_X0_copyFrom l D I qt qb H.size z b hz) (cwV 1 hts gX2_foresee_X0_copyFrom rfl rfl rfl (by decide +kernel) ⟨Nat.le_of_ble_eq_true rfl, Nat.le_of_ble_eq_true rfl⟩) (xk_preV (wc := wB I qt z ++ wB I qb b) (q0 := 10) (ci := 0) hN hP hK hD [10, 11, 12, 13, 14, 15, 16, 17, 18, 1, 2, 3, 4, 5, 6, 7, 8, 9] rfl rfl rfl rfl) rfl rfl hl.1 rfl (lv_room (Nat.le_of_ble_eq_true rfl)) dX2_foresee_44 ⟨Nat.le_of_ble_eq_true rfl, Nat.le_of_ble_eq_true rfl⟩) rfl rfl rfl (by decide) rfl rfl (fun H locs hP hD hS => ?_)
        refine lv_aload_n hx hb dX2_foresee_47 rfl (lv_at hl 0 rfl) ?_
        refine va_get (D := D) (ci := 2) (v := .ref (qt 0)) (C := RX2) (T := TX2) (N := 2) hx hb hts hinX2 hown hK hP 0 rfl rfl 1 (by decide) w_3 (fun _ h9 => h9) rfl dX2_foresee_48 ?_
        refine lv_iload_n hx hb dX2_foresee_51 rfl (lv_at hl 1 rfl) ?_
        refine xk_callv ([cX h qb qt, cXB qb b.1, cA I (qb 1) 8 b.2.1, cXT qb b.2.2.1, cA I (qb 3) 40 (b.2.2.2 0), cA I (qb 4) 40 (b.2.2.2 1), cA I (qb 5) 40 (b.2.2.2 2), cA I (qb 6) 40 (b.2.2.2 3), cA I (qb 7) 40 (b.2.2.2 4), cA I (qb 8) 40 (b.2.2.2 5)]) ([cX h qb qt] ++ wB I qb b ++ wB I qt (s_X0_goOn b mi)) [10, 11, 12, 13, 14, 15, 16, 17, 18] [0, 1, 2, 3, 4, 5, 6, 7, 8, 9] [0, 1, 2, 3, 4, 5, 6, 7, 8, 9, 10, 11, 12, 13, 14, 15, 16, 17, 18] hP hD hS hA (va_runV (As := [.int mi]) (rest := []) ⟨hx, hb, hml, hown, hts⟩ (c_X0_goOn l D I qt H.size b mi hn hm1 hm2 (span_b c_1).1 (span_b c_1).2) (cwV 1 hts gX2_foresee_X0_goOn rfl rfl rfl (by decide +kernel) ⟨Nat.le_of_ble_eq_true rfl, Nat.le_of_ble_eq_true rfl⟩) (xk_preV (wc := wB I qt b) (q0 := 10) (ci := 0) hN hP hK hD [10, 11, 12, 13, 14, 15, 16, 17, 18] rfl rfl rfl rfl) rfl rfl hl.1 rfl (lv_room (Nat.le_of_ble_eq_true rfl)) dX2_foresee_52 ⟨Nat.le_of_ble_eq_true rfl, Nat.le_of_ble_eq_true rfl⟩) rfl rfl rfl (by decide) rfl rfl (fun H locs hP hD hS => ?_)
        generalize hz_1 : s_X0_goOn b mi = z_1 at hP hD
        have hg_1 : g1_X2_foresee b mi wh = z_1 := by rw [← hz_1]; rfl
        refine lv_iload_n hx hb dX2_foresee_55 rfl (lv_at hl 2 rfl) ?_
        by_cases c_4 : wh = (0 : Int32)
        · refine lv_tableIn (off := 28) (tgt := 84) hx hb dX2_foresee_56 (by rw [c_4]; decide) (by rw [c_4]; decide) (by rw [c_4]; rfl) (by decide) ?_
          refine lv_aload_n hx hb dX2_foresee_84 rfl (lv_at hl 0 rfl) ?_
          refine va_get (D := D) (ci := 2) (v := .ref (qt 0)) (C := RX2) (T := TX2) (N := 2) hx hb hts hinX2 hown hK hP 0 rfl rfl 1 (by decide) w_3 (fun _ h9 => h9) rfl dX2_foresee_85 ?_
          refine va_get (D := D) (ci := 0) (v := .ref (qt 2)) (C := RX0) (T := TX0) (N := 11) hx hb hts hinX0 hown hK hP 10 rfl rfl 7 (by decide) w_5 (fun _ h9 => h9) rfl dX2_foresee_88 ?_
          refine va_get (D := D) (ci := 1) (v := .int (z_1.2.2.1 1)) (C := RX1) (T := TX1) (N := 12) hx hb hts hinX1 hown hK hP 12 rfl rfl 1 (by decide) w_6 (fun _ h9 => h9) rfl dX2_foresee_91 ?_
          refine lv_aload_n hx hb dX2_foresee_94 rfl (lv_at hl 0 rfl) ?_
          refine va_get (D := D) (ci := 2) (v := .ref (qb 0)) (C := RX2) (T := TX2) (N := 2) hx hb hts hinX2 hown hK hP 0 rfl rfl 0 (by decide) w_4 (fun _ h9 => h9) rfl dX2_foresee_95 ?_
          refine va_get (D := D) (ci := 0) (v := .ref (qb 2)) (C := RX0) (T := TX0) (N := 11) hx hb hts hinX0 hown hK hP 1 rfl rfl 7 (by decide) w_5 (fun _ h9 => h9) rfl dX2_foresee_98 ?_
          refine va_get (D := D) (ci := 1) (v := .int (b.2.2.1 1)) (C := RX1) (T := TX1) (N := 12) hx hb hts hinX1 hown hK hP 3 rfl rfl 1 (by decide) w_6 (fun _ h9 => h9) rfl dX2_foresee_101 ?_
          refine lv_isub hx hb dX2_foresee_104 ?_
          refine W.widen (k := 1) (n := 6) (Nat.le_of_ble_eq_true rfl) (Nat.le_of_ble_eq_true rfl) ?_
          exact xk_iretX (wf := fun (z : XBr) (v : XBr) => [cX h qb qt] ++ wB I qb z ++ wB I qt v) (u := b) (u1 := b) z_1 hx hb hr rfl hlocks hP hK hD hS (by subst hg_1; unfold x_X2_foresee; rw [if_neg c_1, if_neg c_2, if_pos c_3, if_pos c_4]) (by subst hg_1; unfold r_X2_foresee; rw [if_neg c_1, if_neg c_2, if_pos c_3, if_pos c_4]) rfl dX2_foresee_105
        by_cases c_5 : wh = (1 : Int32)
        · refine lv_tableIn (off := 50) (tgt := 106) hx hb dX2_foresee_56 (by rw [c_5]; decide) (by rw [c_5]; decide) (by rw [c_5]; rfl) (by decide) ?_
          refine lv_aload_n hx hb dX2_foresee_106 rfl (lv_at hl 0 rfl) ?_
          refine va_get (D := D) (ci := 2) (v := .ref (qt 0)) (C := RX2) (T := TX2) (N := 2) hx hb hts hinX2 hown hK hP 0 rfl rfl 1 (by decide) w_3 (fun _ h9 => h9) rfl dX2_foresee_107 ?_
          refine va_get (D := D) (ci := 0) (v := .int (z_1.1 5)) (C := RX0) (T := TX0) (N := 11) hx hb hts hinX0 hown hK hP 10 rfl rfl 5 (by decide) w_7 (fun _ h9 => h9) rfl dX2_foresee_110 ?_
          refine lv_aload_n hx hb dX2_foresee_113 rfl (lv_at hl 0 rfl) ?_
          refine va_get (D := D) (ci := 2) (v := .ref (qb 0)) (C := RX2) (T := TX2) (N := 2) hx hb hts hinX2 hown hK hP 0 rfl rfl 0 (by decide) w_4 (fun _ h9 => h9) rfl dX2_foresee_114 ?_
          refine va_get (D := D) (ci := 0) (v := .int (b.1 5)) (C := RX0) (T := TX0) (N := 11) hx hb hts hinX0 hown hK hP 1 rfl rfl 5 (by decide) w_7 (fun _ h9 => h9) rfl dX2_foresee_117 ?_
          refine lv_isub hx hb dX2_foresee_120 ?_
          refine W.widen (k := 1) (n := 6) (Nat.le_of_ble_eq_true rfl) (Nat.le_of_ble_eq_true rfl) ?_
          exact xk_iretX (wf := fun (z : XBr) (v : XBr) => [cX h qb qt] ++ wB I qb z ++ wB I qt v) (u := b) (u1 := b) z_1 hx hb hr rfl hlocks hP hK hD hS (by subst hg_1; unfold x_X2_foresee; rw [if_neg c_1, if_neg c_2, if_pos c_3, if_neg c_4, if_pos c_5]) (by subst hg_1; unfold r_X2_foresee; rw [if_neg c_1, if_neg c_2, if_pos c_3, if_neg c_4, if_pos c_5]) rfl dX2_foresee_121
        by_cases c_6 : wh = (2 : Int32)
        · refine lv_tableIn (off := 66) (tgt := 122) hx hb dX2_foresee_56 (by rw [c_6]; decide) (by rw [c_6]; decide) (by rw [c_6]; rfl) (by decide) ?_
          refine lv_aload_n hx hb dX2_foresee_122 rfl (lv_at hl 0 rfl) ?_
          refine va_get (D := D) (ci := 2) (v := .ref (qt 0)) (C := RX2) (T := TX2) (N := 2) hx hb hts hinX2 hown hK hP 0 rfl rfl 1 (by decide) w_3 (fun _ h9 => h9) rfl dX2_foresee_123 ?_
          refine va_get (D := D) (ci := 0) (v := .int (z_1.1 1)) (C := RX0) (T := TX0) (N := 11) hx hb hts hinX0 hown hK hP 10 rfl rfl 1 (by decide) w_8 (fun _ h9 => h9) rfl dX2_foresee_126 ?_
          refine W.widen (k := 1) (n := 6) (Nat.le_of_ble_eq_true rfl) (Nat.le_of_ble_eq_true rfl) ?_
          exact xk_iretX (wf := fun (z : XBr) (v : XBr) => [cX h qb qt] ++ wB I qb z ++ wB I qt v) (u := b) (u1 := b) z_1 hx hb hr rfl hlocks hP hK hD hS (by subst hg_1; unfold x_X2_foresee; rw [if_neg c_1, if_neg c_2, if_pos c_3, if_neg c_4, if_neg c_5, if_pos c_6]) (by subst hg_1; unfold r_X2_foresee; rw [if_neg c_1, if_neg c_2, if_pos c_3, if_neg c_4, if_neg c_5, if_pos c_6]) rfl dX2_foresee_129
        have t_c_4 : wh.toInt < 0 ∨ 2 < wh.toInt := by
          have g_c_4 := lv_neT c_4 (a := 0) (by decide)
          have g_c_5 := lv_neT c_5 (a := 1) (by decide)
          have g_c_6 := lv_neT c_6 (a := 2) (by decide)
          omega
        refine lv_tableOut (tgt := 130) hx hb dX2_foresee_56 t_c_4 (by decide) ?_
        refine lv_aload_n hx hb dX2_foresee_130 rfl (lv_at hl 0 rfl) ?_
        refine va_get (D := D) (ci := 2) (v := .ref (qt 0)) (C := RX2) (T := TX2) (N := 2) hx hb hts hinX2 hown hK hP 0 rfl rfl 1 (by decide) w_3 (fun _ h9 => h9) rfl dX2_foresee_131 ?_
        refine va_get (D := D) (ci := 0) (v := .int (z_1.1 3)) (C := RX0) (T := TX0) (N := 11) hx hb hts hinX0 hown hK hP 10 rfl rfl 3 (by decide) w_9 (fun _ h9 => h9) rfl dX2_foresee_134 ?_
        refine W.widen (k := 1) (n := 6) (Nat.le_of_ble_eq_true rfl) (Nat.le_of_ble_eq_true rfl) ?_
        exact xk_iretX (wf := fun (z : XBr) (v : XBr) => [cX h qb qt] ++ wB I qb z ++ wB I qt v) (u := b) (u1 := b) z_1 hx hb hr rfl hlocks hP hK hD hS (by subst hg_1; unfold x_X2_foresee; rw [if_neg c_1, if_neg c_2, if_pos c_3, if_neg c_4, if_neg c_5, if_neg c_6]) (by subst hg_1; unfold r_X2_foresee; rw [if_neg c_1, if_neg c_2, if_pos c_3, if_neg c_4, if_neg c_5, if_neg c_6]) rfl dX2_foresee_137
      · refine xk_throw (wf := fun (z : XBr) (v : XBr) => [cX h qb qt] ++ wB I qb z ++ wB I qt v) (u := b) (u1 := b) z (cls := eIO) (text := "what is not 0 to 3") (ik := 52) (is := 135) (ic := 56) hx hb hlt hown (by decide +kernel) w_1 w_2 (by decide) (fun w h => hts w (List.mem_cons_of_mem _ (List.mem_append_right _ h))) (by decide +kernel) (by decide +kernel) hXX hP hK hD hS (hl.1.trans hml.symm) dX2_foresee_26 dX2_foresee_29 dX2_foresee_30 dX2_foresee_32 dX2_foresee_35 hex (Nat.le_of_ble_eq_true rfl) (Nat.le_of_ble_eq_true rfl) (Nat.le_of_ble_eq_true rfl) (Nat.le_of_ble_eq_true rfl) hlocks (Nat.le_of_ble_eq_true rfl) (Nat.le_of_ble_eq_true rfl) ?_ ?_
        · unfold x_X2_foresee; rw [if_neg c_1, if_neg c_2, if_neg c_3]; decide
        · rfl
  · refine xk_throw (wf := fun (z : XBr) (v : XBr) => [cX h qb qt] ++ wB I qb z ++ wB I qt v) (u := b) (u1 := b) z (cls := eIA) (text := "minutes is not 1 to 240") (ik := 19) (is := 119) (ic := 23) hx hb hlt hown (by decide +kernel) w_10 w_11 (by decide) (fun w h => hts w (List.mem_cons_of_mem _ (List.mem_append_left _ (List.mem_append_right _ h)))) (by decide +kernel) (by decide +kernel) hXX hP hK hD hS (hl.1.trans hml.symm) dX2_foresee_7 dX2_foresee_10 dX2_foresee_11 dX2_foresee_13 dX2_foresee_16 hex (Nat.le_of_ble_eq_true rfl) (Nat.le_of_ble_eq_true rfl) (Nat.le_of_ble_eq_true rfl) (Nat.le_of_ble_eq_true rfl) hlocks (Nat.le_of_ble_eq_true rfl) (Nat.le_of_ble_eq_true rfl) ?_ ?_
    · unfold x_X2_foresee; rw [if_pos c_1]; decide
    · rfl

def r_X2_crack (b : XBr) : Int32 :=
  (imx (0 : Int32) ((b.1 3) - (3 : Int32)))
def s_X2_crack (b : XBr) : XBr :=
  (xs b.1 3 (imx (0 : Int32) ((b.1 3) - (3 : Int32))), b.2)
set_option maxHeartbeats 800000 in
set_option maxRecDepth 100000 in
theorem c_X2_crack (l : Launch) (D : va_G) (I : ClassId) (h : Nat) (qb qt : Nat → Nat) (sz : Nat) (b : XBr) (z : XBr)  : xMi l D [(I, .int)] yX2_crack wsX2_crack { frames := 1, cells := 0, slots := 0, locals := 14 } [.ref h] sz ([cX h qb qt] ++ wB I qb b ++ wB I qt z) (r_X2_crack b) ([cX h qb qt] ++ wB I qb (s_X2_crack b) ++ wB I qt z) 0 0 := by
  refine xk_start (cc := cX2_crack) (maxL := 1) (ret := (some .int)) (Qf := fun A => xQi D [(I, .int)] A (r_X2_crack b) ([cX h qb qt] ++ wB I qb (s_X2_crack b) ++ wB I qt z)) (by decide) rfl (Nat.le_of_ble_eq_true rfl) ?_
  intro p e s m below meth c A H ls hst hAe hsz hl
  obtain ⟨hx, hb, hr, hts, hown, hlocks, hml, hin, hN, hK, hP, hD, hA, hS⟩ := hst
  have hl : lv_has ls 1 [(0, .ref h)] := hl
  have hP : va_P D vwCl ([cX h qb qt] ++ wB I qb b ++ wB I qt z) H := hP
  have hinX2 : ∀ w ∈ u_ws RX2 TX2 2, w ∈ wsX2_crack := by decide +kernel
  have hinX0 : ∀ w ∈ u_ws RX0 TX0 11, w ∈ wsX2_crack := by decide +kernel
  have w_1 := hts (.fieldLink RX2 10 "BridgeBells" "bridge" "LBridgeBells$Bridge;") (by decide +kernel)
  have w_2 := hts (.fieldLink RX2 93 "BridgeBells$Bridge" "ice" "I") (by decide +kernel)
  have w_3 := hts (.methodLink RX2 96 Lib.Math.max.name) (by decide +kernel)
  have w_4 := hts (.static Lib.Math.max.name) (by decide +kernel)
  have w_5 := hts (.initialized "java/lang/Math") (by decide +kernel)
  have w_6 := hts (.code Lib.Math.max.name Lib.Math.max.code 2 (some .int)) (by decide +kernel)
  refine lv_aload_n hx hb dX2_crack_0 rfl (lv_at hl 0 rfl) ?_
  refine va_get (D := D) (ci := 2) (v := .ref (qb 0)) (C := RX2) (T := TX2) (N := 2) hx hb hts hinX2 hown hK hP 0 rfl rfl 0 (by decide) w_1 (fun _ h9 => h9) rfl dX2_crack_1 ?_
  refine lv_iconst (v := (0 : Int32)) hx hb dX2_crack_4 (by decide) ?_
  refine lv_aload_n hx hb dX2_crack_5 rfl (lv_at hl 0 rfl) ?_
  refine va_get (D := D) (ci := 2) (v := .ref (qb 0)) (C := RX2) (T := TX2) (N := 2) hx hb hts hinX2 hown hK hP 0 rfl rfl 0 (by decide) w_1 (fun _ h9 => h9) rfl dX2_crack_6 ?_
  refine va_get (D := D) (ci := 0) (v := .int (b.1 3)) (C := RX0) (T := TX0) (N := 11) hx hb hts hinX0 hown hK hP 1 rfl rfl 3 (by decide) w_2 (fun _ h9 => h9) rfl dX2_crack_9 ?_
  refine lv_iconst (v := (3 : Int32)) hx hb dX2_crack_12 (by decide) ?_
  refine lv_isub hx hb dX2_crack_13 ?_
  refine va_mmax hx hb (hml.trans hl.1.symm) hown w_3 w_4 w_5 w_6 (Nat.le_of_ble_eq_true rfl) (Nat.le_of_ble_eq_true rfl) (Nat.le_of_ble_eq_true rfl) (Nat.le_of_ble_eq_true rfl) dX2_crack_14 ?_
  refine W.eq (g2 := F0 m 17 ls [.int (imx (0 : Int32) ((b.1 3) - (3 : Int32))), .ref (qb 0)]) rfl ?_
  refine va_put (D := D) (ci := 0) (v := .int (imx (0 : Int32) ((b.1 3) - (3 : Int32)))) (ty := tyX0 3) (C := RX0) (T := TX0) (N := 11) hx hb hts hinX0 tyX0 tyX0_ok nmX0 hown hK hP hD hS 1 rfl rfl 3 (by decide) w_2 (fun _ h9 => h9) rfl (tyX0_ok 3 (by decide)) rfl rfl (Nat.le_of_ble_eq_true rfl) dX2_crack_17 (fun H locs hP hD hS => ?_)
  have hP : va_P D vwCl ([cX h qb qt] ++ wB I qb (xs b.1 3 (imx (0 : Int32) ((b.1 3) - (3 : Int32))), b.2) ++ wB I qt z) H := hP
  have hD : va_D A ([cX h qb qt] ++ wB I qb (xs b.1 3 (imx (0 : Int32) ((b.1 3) - (3 : Int32))), b.2) ++ wB I qt z) := hD
  refine lv_aload_n hx hb dX2_crack_20 rfl (lv_at hl 0 rfl) ?_
  refine va_get (D := D) (ci := 2) (v := .ref (qb 0)) (C := RX2) (T := TX2) (N := 2) hx hb hts hinX2 hown hK hP 0 rfl rfl 0 (by decide) w_1 (fun _ h9 => h9) rfl dX2_crack_21 ?_
  refine va_get (D := D) (ci := 0) (v := .int (imx (0 : Int32) ((b.1 3) - (3 : Int32)))) (C := RX0) (T := TX0) (N := 11) hx hb hts hinX0 hown hK hP 1 rfl rfl 3 (by decide) w_2 (fun _ h9 => h9) rfl dX2_crack_24 ?_
  exact xk_iret (wf := fun z : XBr × XBr => [cX h qb qt] ++ wB I qb z.1 ++ wB I qt z.2) (u := ((xs b.1 3 (imx (0 : Int32) ((b.1 3) - (3 : Int32))), b.2), z)) (u1 := ((s_X2_crack b), z)) hx hb hr rfl hlocks hP hK hD hS (by unfold r_X2_crack; rfl) (by unfold s_X2_crack; rfl) dX2_crack_27

def r_X2_speed (b : XBr) (up : Int32) : Int32 :=
  (r_X0_speedTowards b up)
set_option maxHeartbeats 800000 in
set_option maxRecDepth 100000 in
theorem c_X2_speed (l : Launch) (D : va_G) (I : ClassId) (h : Nat) (qb qt : Nat → Nat) (sz : Nat) (b : XBr) (z : XBr) (up : Int32)  : xMi l D [(I, .int)] yX2_speed wsX2_speed { frames := 2, cells := 0, slots := 0, locals := 36 } [.ref h, .int up] sz ([cX h qb qt] ++ wB I qb b ++ wB I qt z) (r_X2_speed b up) ([cX h qb qt] ++ wB I qb b ++ wB I qt z) 0 0 := by
  refine xk_start (cc := cX2_speed) (maxL := 2) (ret := (some .int)) (Qf := fun A => xQi D [(I, .int)] A (r_X2_speed b up) ([cX h qb qt] ++ wB I qb b ++ wB I qt z)) (by decide) rfl (Nat.le_of_ble_eq_true rfl) ?_
  intro p e s m below meth c A H ls hst hAe hsz hl
  obtain ⟨hx, hb, hr, hts, hown, hlocks, hml, hin, hN, hK, hP, hD, hA, hS⟩ := hst
  have hl : lv_has ls 2 [(0, .ref h), (1, .int up)] := hl
  have hP : va_P D vwCl ([cX h qb qt] ++ wB I qb b ++ wB I qt z) H := hP
  have hinX2 : ∀ w ∈ u_ws RX2 TX2 2, w ∈ wsX2_speed := by decide +kernel
  have w_1 := hts (.fieldLink RX2 10 "BridgeBells" "bridge" "LBridgeBells$Bridge;") (by decide +kernel)
  refine lv_aload_n hx hb dX2_speed_0 rfl (lv_at hl 0 rfl) ?_
  refine va_get (D := D) (ci := 2) (v := .ref (qb 0)) (C := RX2) (T := TX2) (N := 2) hx hb hts hinX2 hown hK hP 0 rfl rfl 0 (by decide) w_1 (fun _ h9 => h9) rfl dX2_speed_1 ?_
  refine lv_iload_n hx hb dX2_speed_4 rfl (lv_at hl 1 rfl) ?_
  refine xk_calli ([cX h qb qt, cXB qt z.1, cA I (qt 1) 8 z.2.1, cXT qt z.2.2.1, cA I (qt 3) 40 (z.2.2.2 0), cA I (qt 4) 40 (z.2.2.2 1), cA I (qt 5) 40 (z.2.2.2 2), cA I (qt 6) 40 (z.2.2.2 3), cA I (qt 7) 40 (z.2.2.2 4), cA I (qt 8) 40 (z.2.2.2 5)]) ([cX h qb qt] ++ wB I qb b ++ wB I qt z) [1, 2, 3, 4, 5, 6, 7, 8, 9] [0, 10, 11, 12, 13, 14, 15, 16, 17, 18] [0, 10, 11, 12, 13, 14, 15, 16, 17, 18, 1, 2, 3, 4, 5, 6, 7, 8, 9] hP hD hS hA (va_runV (As := [.int up]) (rest := []) ⟨hx, hb, hml, hown, hts⟩ (c_X0_speedTowards l D I qb H.size b up ) (cwV 1 hts gX2_speed_X0_speedTowards rfl rfl rfl (by decide +kernel) ⟨Nat.le_of_ble_eq_true rfl, Nat.le_of_ble_eq_true rfl⟩) (xk_preV (wc := wB I qb b) (q0 := 1) (ci := 0) hN hP hK hD [1, 2, 3, 4, 5, 6, 7, 8, 9] rfl rfl rfl rfl) rfl rfl hl.1 rfl (lv_room (Nat.le_of_ble_eq_true rfl)) dX2_speed_5 ⟨Nat.le_of_ble_eq_true rfl, Nat.le_of_ble_eq_true rfl⟩) rfl rfl rfl (by decide) rfl rfl (fun H locs hP hD hS => ?_)
  exact xk_iret (wf := fun z : XBr × XBr => [cX h qb qt] ++ wB I qb z.1 ++ wB I qt z.2) (u := (b, z)) (u1 := (b, z)) hx hb hr rfl hlocks hP hK hD hS (by unfold r_X2_speed; rfl) rfl dX2_speed_8

def r_X2_mean (b : XBr) : UInt64 :=
  if (b.2.2.1 0) = 0 then
    FP.dconst0
  else
    (FP.ddiv (FP.i2d (b.1 5)) (FP.i2d (b.2.2.1 0)))
set_option maxHeartbeats 800000 in
set_option maxRecDepth 100000 in
theorem c_X2_mean (l : Launch) (D : va_G) (I : ClassId) (h : Nat) (qb qt : Nat → Nat) (sz : Nat) (b : XBr) (z : XBr)  : xMd l D [(I, .int)] yX2_mean wsX2_mean { frames := 0, cells := 0, slots := 0, locals := 0 } [.ref h] sz ([cX h qb qt] ++ wB I qb b ++ wB I qt z) (r_X2_mean b) ([cX h qb qt] ++ wB I qb b ++ wB I qt z) 0 0 := by
  refine xk_start (cc := cX2_mean) (maxL := 2) (ret := (some .double)) (Qf := fun A => xQd D [(I, .int)] A (r_X2_mean b) ([cX h qb qt] ++ wB I qb b ++ wB I qt z)) (by decide) rfl (Nat.le_of_ble_eq_true rfl) ?_
  intro p e s m below meth c A H ls hst hAe hsz hl
  obtain ⟨hx, hb, hr, hts, hown, hlocks, hml, hin, hN, hK, hP, hD, hA, hS⟩ := hst
  have hl : lv_has ls 2 [(0, .ref h)] := hl
  have hP : va_P D vwCl ([cX h qb qt] ++ wB I qb b ++ wB I qt z) H := hP
  have hinX2 : ∀ w ∈ u_ws RX2 TX2 2, w ∈ wsX2_mean := by decide +kernel
  have hinX0 : ∀ w ∈ u_ws RX0 TX0 11, w ∈ wsX2_mean := by decide +kernel
  have hinX1 : ∀ w ∈ u_ws RX1 TX1 12, w ∈ wsX2_mean := by decide +kernel
  have w_1 := hts (.fieldLink RX2 10 "BridgeBells" "bridge" "LBridgeBells$Bridge;") (by decide +kernel)
  have w_2 := hts (.fieldLink RX2 26 "BridgeBells$Bridge" "travellers" "LBridgeBells$Travellers;") (by decide +kernel)
  have w_3 := hts (.fieldLink RX2 30 "BridgeBells$Travellers" "number" "I") (by decide +kernel)
  have w_4 := hts (.fieldLink RX2 137 "BridgeBells$Bridge" "waitedInAll" "I") (by decide +kernel)
  refine lv_aload_n hx hb dX2_mean_0 rfl (lv_at hl 0 rfl) ?_
  refine va_get (D := D) (ci := 2) (v := .ref (qb 0)) (C := RX2) (T := TX2) (N := 2) hx hb hts hinX2 hown hK hP 0 rfl rfl 0 (by decide) w_1 (fun _ h9 => h9) rfl dX2_mean_1 ?_
  refine va_get (D := D) (ci := 0) (v := .ref (qb 2)) (C := RX0) (T := TX0) (N := 11) hx hb hts hinX0 hown hK hP 1 rfl rfl 7 (by decide) w_2 (fun _ h9 => h9) rfl dX2_mean_4 ?_
  refine va_get (D := D) (ci := 1) (v := .int (b.2.2.1 0)) (C := RX1) (T := TX1) (N := 12) hx hb hts hinX1 hown hK hP 3 rfl rfl 0 (by decide) w_3 (fun _ h9 => h9) rfl dX2_mean_7 ?_
  refine lv_istore_n (lv' := [(1, .int (b.2.2.1 0)), (0, .ref h)]) hx hb dX2_mean_10 rfl hl (by decide) rfl (fun ls hl => ?_)
  refine lv_iload_n hx hb dX2_mean_11 rfl (lv_at hl 0 rfl) ?_
  refine lv_if_ne (tgt := 17) hx hb dX2_mean_12 (by decide) (fun c_1 => ?_) (fun c_1 => ?_)
  · refine lv_aload_n hx hb dX2_mean_17 rfl (lv_at hl 1 rfl) ?_
    refine va_get (D := D) (ci := 2) (v := .ref (qb 0)) (C := RX2) (T := TX2) (N := 2) hx hb hts hinX2 hown hK hP 0 rfl rfl 0 (by decide) w_1 (fun _ h9 => h9) rfl dX2_mean_18 ?_
    refine va_get (D := D) (ci := 0) (v := .int (b.1 5)) (C := RX0) (T := TX0) (N := 11) hx hb hts hinX0 hown hK hP 1 rfl rfl 5 (by decide) w_4 (fun _ h9 => h9) rfl dX2_mean_21 ?_
    refine lv_i2d hx hb dX2_mean_24 ?_
    refine lv_iload_n hx hb dX2_mean_25 rfl (lv_at hl 0 rfl) ?_
    refine lv_i2d hx hb dX2_mean_26 ?_
    refine lv_ddiv hx hb dX2_mean_27 (mean_nn _ _ c_1) ?_
    exact xk_dret (wf := fun z : XBr × XBr => [cX h qb qt] ++ wB I qb z.1 ++ wB I qt z.2) (u := (b, z)) (u1 := (b, z)) hx hb hr hlocks hP hK hD hS (by unfold r_X2_mean; rw [if_neg c_1]) rfl dX2_mean_28
  · refine lv_dconst0 hx hb dX2_mean_15 ?_
    exact xk_dret (wf := fun z : XBr × XBr => [cX h qb qt] ++ wB I qb z.1 ++ wB I qt z.2) (u := (b, z)) (u1 := (b, z)) hx hb hr hlocks hP hK hD hS (by unfold r_X2_mean; rw [if_pos c_1]) rfl dX2_mean_16

def g1_X2_waitWith (b : XBr) (cd : Int32) (cp : Int32) (mi : Int32) : XBr := s_X0_goOn (xs (xs b.1 4 cd) 2 cp, b.2) mi
def r_X2_waitWith (b : XBr) (cd : Int32) (cp : Int32) (mi : Int32) : Int32 :=
  (((g1_X2_waitWith b cd cp mi).1 5) - (b.1 5))
set_option maxHeartbeats 800000 in
set_option maxRecDepth 100000 in
theorem c_X2_waitWith (l : Launch) (D : va_G) (I : ClassId) (h : Nat) (qb qt : Nat → Nat) (sz : Nat) (b : XBr) (z : XBr) (cd : Int32) (cp : Int32) (mi : Int32) (hn : nOk (b.2.2.1 0)) (hm1 : 0 ≤ (b.1 0).toInt) (hm2 : (b.1 0).toInt < 1000000000) (hz : b.1 8 = 0 ∨ b.1 8 = 1) (h1 : 0 ≤ mi.toInt) (h2 : mi.toInt ≤ 240) : xMiE l D [(I, .int)] yX2_waitWith wsX2_waitWith { frames := 5, cells := 0, slots := 0, locals := 108 } [.ref h, .int cd, .int cp, .int mi] sz ([cX h qb qt] ++ wB I qb b ++ wB I qt z) XBr (r_X2_waitWith b cd cp mi) (fun v : XBr => [cX h qb qt] ++ wB I qb b ++ wB I qt v) 0 0 := by
  refine xk_start (cc := cX2_waitWith) (maxL := 4) (ret := (some .int)) (Qf := fun A => xQiE D [(I, .int)] A XBr (r_X2_waitWith b cd cp mi) (fun v : XBr => [cX h qb qt] ++ wB I qb b ++ wB I qt v)) (by decide) rfl (Nat.le_of_ble_eq_true rfl) ?_
  intro p e s m below meth c A H ls hst hAe hsz hl
  obtain ⟨hx, hb, hr, hts, hown, hlocks, hml, hin, hN, hK, hP, hD, hA, hS⟩ := hst
  have hl : lv_has ls 4 [(0, .ref h), (1, .int cd), (2, .int cp), (3, .int mi)] := hl
  have hP : va_P D vwCl ([cX h qb qt] ++ wB I qb b ++ wB I qt z) H := hP
  have hinX2 : ∀ w ∈ u_ws RX2 TX2 2, w ∈ wsX2_waitWith := by decide +kernel
  have hinX0 : ∀ w ∈ u_ws RX0 TX0 11, w ∈ wsX2_waitWith := by decide +kernel
  have w_1 := hts (.fieldLink RX2 16 "BridgeBells" "trial" "LBridgeBells$Bridge;") (by decide +kernel)
  have w_2 := hts (.fieldLink RX2 10 "BridgeBells" "bridge" "LBridgeBells$Bridge;") (by decide +kernel)
  have w_3 := hts (.fieldLink RX2 73 "BridgeBells$Bridge" "code" "I") (by decide +kernel)
  have w_4 := hts (.fieldLink RX2 83 "BridgeBells$Bridge" "counterpoise" "I") (by decide +kernel)
  have w_5 := hts (.fieldLink RX2 137 "BridgeBells$Bridge" "waitedInAll" "I") (by decide +kernel)
  refine lv_aload_n hx hb dX2_waitWith_0 rfl (lv_at hl 0 rfl) ?_
  refine va_get (D := D) (ci := 2) (v := .ref (qt 0)) (C := RX2) (T := TX2) (N := 2) hx hb hts hinX2 hown hK hP 0 rfl rfl 1 (by decide) w_1 (fun _ h9 => h9) rfl dX2_waitWith_1 ?_
  refine lv_aload_n hx hb dX2_waitWith_4 rfl (lv_at hl 0 rfl) ?_
  refine va_get (D := D) (ci := 2) (v := .ref (qb 0)) (C := RX2) (T := TX2) (N := 2) hx hb hts hinX2 hown hK hP 0 rfl rfl 0 (by decide) w_2 (fun _ h9 => h9) rfl dX2_waitWith_5 ?_
  refine xk_callv ([cX h qb qt]) ([cX h qb qt] ++ wB I qb b ++ wB I qt b) [10, 11, 12, 13, 14, 15, 16, 17, 18, 1, 2, 3, 4, 5, 6, 7, 8, 9] [0] [0, 10, 11, 12, 13, 14, 15, 16, 17, 18, 1, 2, 3, 4, 5, 6, 7, 8, 9] hP hD hS hA (va_runV (As := [.ref (qb 0)]) (rest := []) ⟨hx, hb, hml, hown, hts⟩ (c_X0_copyFrom l D I qt qb H.size z b hz) (cwV 1 hts gX2_waitWith_X0_copyFrom rfl rfl rfl (by decide +kernel) ⟨Nat.le_of_ble_eq_true rfl, Nat.le_of_ble_eq_true rfl⟩) (xk_preV (wc := wB I qt z ++ wB I qb b) (q0 := 10) (ci := 0) hN hP hK hD [10, 11, 12, 13, 14, 15, 16, 17, 18, 1, 2, 3, 4, 5, 6, 7, 8, 9] rfl rfl rfl rfl) rfl rfl hl.1 rfl (lv_room (Nat.le_of_ble_eq_true rfl)) dX2_waitWith_8 ⟨Nat.le_of_ble_eq_true rfl, Nat.le_of_ble_eq_true rfl⟩) rfl rfl rfl (by decide) rfl rfl (fun H locs hP hD hS => ?_)
  refine lv_aload_n hx hb dX2_waitWith_11 rfl (lv_at hl 0 rfl) ?_
  refine va_get (D := D) (ci := 2) (v := .ref (qt 0)) (C := RX2) (T := TX2) (N := 2) hx hb hts hinX2 hown hK hP 0 rfl rfl 1 (by decide) w_1 (fun _ h9 => h9) rfl dX2_waitWith_12 ?_
  refine lv_iload_n hx hb dX2_waitWith_15 rfl (lv_at hl 1 rfl) ?_
  refine va_put (D := D) (ci := 0) (v := .int cd) (ty := tyX0 4) (C := RX0) (T := TX0) (N := 11) hx hb hts hinX0 tyX0 tyX0_ok nmX0 hown hK hP hD hS 10 rfl rfl 4 (by decide) w_3 (fun _ h9 => h9) rfl (tyX0_ok 4 (by decide)) rfl rfl (Nat.le_of_ble_eq_true rfl) dX2_waitWith_16 (fun H locs hP hD hS => ?_)
  have hP : va_P D vwCl ([cX h qb qt] ++ wB I qb b ++ wB I qt (xs b.1 4 cd, b.2)) H := hP
  have hD : va_D A ([cX h qb qt] ++ wB I qb b ++ wB I qt (xs b.1 4 cd, b.2)) := hD
  refine lv_aload_n hx hb dX2_waitWith_19 rfl (lv_at hl 0 rfl) ?_
  refine va_get (D := D) (ci := 2) (v := .ref (qt 0)) (C := RX2) (T := TX2) (N := 2) hx hb hts hinX2 hown hK hP 0 rfl rfl 1 (by decide) w_1 (fun _ h9 => h9) rfl dX2_waitWith_20 ?_
  refine lv_iload_n hx hb dX2_waitWith_23 rfl (lv_at hl 2 rfl) ?_
  refine va_put (D := D) (ci := 0) (v := .int cp) (ty := tyX0 2) (C := RX0) (T := TX0) (N := 11) hx hb hts hinX0 tyX0 tyX0_ok nmX0 hown hK hP hD hS 10 rfl rfl 2 (by decide) w_4 (fun _ h9 => h9) rfl (tyX0_ok 2 (by decide)) rfl rfl (Nat.le_of_ble_eq_true rfl) dX2_waitWith_24 (fun H locs hP hD hS => ?_)
  have hP : va_P D vwCl ([cX h qb qt] ++ wB I qb b ++ wB I qt (xs (xs b.1 4 cd) 2 cp, b.2)) H := hP
  have hD : va_D A ([cX h qb qt] ++ wB I qb b ++ wB I qt (xs (xs b.1 4 cd) 2 cp, b.2)) := hD
  refine lv_aload_n hx hb dX2_waitWith_27 rfl (lv_at hl 0 rfl) ?_
  refine va_get (D := D) (ci := 2) (v := .ref (qt 0)) (C := RX2) (T := TX2) (N := 2) hx hb hts hinX2 hown hK hP 0 rfl rfl 1 (by decide) w_1 (fun _ h9 => h9) rfl dX2_waitWith_28 ?_
  refine lv_iload_n hx hb dX2_waitWith_31 rfl (lv_at hl 3 rfl) ?_
  refine xk_callv ([cX h qb qt, cXB qb b.1, cA I (qb 1) 8 b.2.1, cXT qb b.2.2.1, cA I (qb 3) 40 (b.2.2.2 0), cA I (qb 4) 40 (b.2.2.2 1), cA I (qb 5) 40 (b.2.2.2 2), cA I (qb 6) 40 (b.2.2.2 3), cA I (qb 7) 40 (b.2.2.2 4), cA I (qb 8) 40 (b.2.2.2 5)]) ([cX h qb qt] ++ wB I qb b ++ wB I qt (s_X0_goOn (xs (xs b.1 4 cd) 2 cp, b.2) mi)) [10, 11, 12, 13, 14, 15, 16, 17, 18] [0, 1, 2, 3, 4, 5, 6, 7, 8, 9] [0, 1, 2, 3, 4, 5, 6, 7, 8, 9, 10, 11, 12, 13, 14, 15, 16, 17, 18] hP hD hS hA (va_runV (As := [.int mi]) (rest := []) ⟨hx, hb, hml, hown, hts⟩ (c_X0_goOn l D I qt H.size (xs (xs b.1 4 cd) 2 cp, b.2) mi hn hm1 hm2 h1 h2) (cwV 1 hts gX2_waitWith_X0_goOn rfl rfl rfl (by decide +kernel) ⟨Nat.le_of_ble_eq_true rfl, Nat.le_of_ble_eq_true rfl⟩) (xk_preV (wc := wB I qt (xs (xs b.1 4 cd) 2 cp, b.2)) (q0 := 10) (ci := 0) hN hP hK hD [10, 11, 12, 13, 14, 15, 16, 17, 18] rfl rfl rfl rfl) rfl rfl hl.1 rfl (lv_room (Nat.le_of_ble_eq_true rfl)) dX2_waitWith_32 ⟨Nat.le_of_ble_eq_true rfl, Nat.le_of_ble_eq_true rfl⟩) rfl rfl rfl (by decide) rfl rfl (fun H locs hP hD hS => ?_)
  generalize hz_1 : s_X0_goOn (xs (xs b.1 4 cd) 2 cp, b.2) mi = z_1 at hP hD
  have hg_1 : g1_X2_waitWith b cd cp mi = z_1 := by rw [← hz_1]; rfl
  refine lv_aload_n hx hb dX2_waitWith_35 rfl (lv_at hl 0 rfl) ?_
  refine va_get (D := D) (ci := 2) (v := .ref (qt 0)) (C := RX2) (T := TX2) (N := 2) hx hb hts hinX2 hown hK hP 0 rfl rfl 1 (by decide) w_1 (fun _ h9 => h9) rfl dX2_waitWith_36 ?_
  refine va_get (D := D) (ci := 0) (v := .int (z_1.1 5)) (C := RX0) (T := TX0) (N := 11) hx hb hts hinX0 hown hK hP 10 rfl rfl 5 (by decide) w_5 (fun _ h9 => h9) rfl dX2_waitWith_39 ?_
  refine lv_aload_n hx hb dX2_waitWith_42 rfl (lv_at hl 0 rfl) ?_
  refine va_get (D := D) (ci := 2) (v := .ref (qb 0)) (C := RX2) (T := TX2) (N := 2) hx hb hts hinX2 hown hK hP 0 rfl rfl 0 (by decide) w_2 (fun _ h9 => h9) rfl dX2_waitWith_43 ?_
  refine va_get (D := D) (ci := 0) (v := .int (b.1 5)) (C := RX0) (T := TX0) (N := 11) hx hb hts hinX0 hown hK hP 1 rfl rfl 5 (by decide) w_5 (fun _ h9 => h9) rfl dX2_waitWith_46 ?_
  refine lv_isub hx hb dX2_waitWith_49 ?_
  exact xk_iretE (wf := fun (z : XBr) (v : XBr) => [cX h qb qt] ++ wB I qb z ++ wB I qt v) (u := b) (u1 := b) z_1 hx hb hr rfl hlocks hP hK hD hS (by subst hg_1; unfold r_X2_waitWith; rfl) rfl dX2_waitWith_50
end
section
theorem le_nI {n : Int32} {k j : Nat} (hn : n.toInt = (k : Int)) (h : k ≤ j) (h2 : j < 2 ^ 31) : n ≤ nI j := by
  rw [Int32.le_iff_toInt_le, nI_toInt h2, hn]; omega
theorem nle_nI {n : Int32} {k j : Nat} (hn : n.toInt = (k : Int)) (h : j < k) (h2 : j < 2 ^ 31) : ¬ n ≤ nI j := by
  rw [Int32.le_iff_toInt_le, nI_toInt h2, hn]; omega
/-- behind how many minutes it has passed -/
def x_whl (k : Int32) : Nat → Nat → XBr → Int32
  | 0, _, _ => -1
  | r + 1, j, z => if z.2.2.2 2 k.toNatClampNeg = 2 then nI j else x_whl k r (j + 1) (s_X0_goOneMinute z)
/-- the best code, from the k-th on -/
def x_bc (b : XBr) (mi : Int32) : Nat → Nat → Int32 → Int32 → Int32
  | 0, _, bs, _ => bs
  | r + 1, k, bs, f => if f ≤ r_X2_waitWith b (nI k) (b.1 2) mi then x_bc b mi r (k + 1) bs f else x_bc b mi r (k + 1) (nI k) (r_X2_waitWith b (nI k) (b.1 2) mi)
def x_bp (b : XBr) (mi : Int32) : Nat → Nat → Int32 → Int32 → Int32
  | 0, _, bs, _ => bs
  | r + 1, k, bs, f => if f ≤ r_X2_waitWith b (b.1 4) (nI k) mi then x_bp b mi r (k + 1) bs f else x_bp b mi r (k + 1) (nI k) (r_X2_waitWith b (b.1 4) (nI k) mi)

def r_X2_when (b : XBr) (k : Int32) : Int32 :=
  if (r_X1_has b.2.2 k) = 0 then
    (0 : Int32)
  else
    x_whl k 401 0 b
def x_X2_when (b : XBr) (k : Int32) : Int32 :=
  if (r_X1_has b.2.2 k) = 0 then
    (1 : Int32)
  else
    (0 : Int32)
set_option maxHeartbeats 1600000 in
set_option maxRecDepth 100000 in
theorem c_X2_when (l : Launch) (hlt : l.stackTraces = false) (D : va_G) (I : ClassId) (h : Nat) (qb qt : Nat → Nat) (sz : Nat) (b z : XBr) (k : Int32) (hn : nOk (b.2.2.1 0)) (hm1 : 0 ≤ (b.1 0).toInt) (hm2 : (b.1 0).toInt < 1000000000) (hz : b.1 8 = 0 ∨ b.1 8 = 1) : xMX l D [(I, .int)] yX2_when wsX2_when { frames := 6, cells := 1, slots := 6, locals := 86 } [.ref h, .int k] sz ([cX h qb qt] ++ wB I qb b ++ wB I qt z) XBr [(eIO, 1)] (r_X2_when b k) (x_X2_when b k) (fun v : XBr => [cX h qb qt] ++ wB I qb b ++ wB I qt v) 1 6 := by
  refine xk_startX (cc := cX2_when) (maxL := 3) (ret := (some .int)) (Qf := fun A => xQiX D [(I, .int)] A XBr (r_X2_when b k) (x_X2_when b k) (fun v : XBr => [cX h qb qt] ++ wB I qb b ++ wB I qt v)) (XCf := fun A => xXC D [(I, .int)] A XBr [(eIO, 1)] (x_X2_when b k) (fun v : XBr => [cX h qb qt] ++ wB I qb b ++ wB I qt v)) (by decide) rfl (Nat.le_of_ble_eq_true rfl) ?_
  intro p e s m below meth c A H ls hst hAe hsz hl hex hXX
  obtain ⟨hx, hb, hr, hts, hown, hlocks, hml, hin, hN, hK, hP, hD, hA, hS⟩ := hst
  have hl : lv_has ls 3 [(0, .ref h), (1, .int k)] := hl
  have hP : va_P D vwCl ([cX h qb qt] ++ wB I qb b ++ wB I qt z) H := hP
  have hinX2 : ∀ w ∈ u_ws RX2 TX2 2, w ∈ wsX2_when := by decide +kernel
  have hinX0 : ∀ w ∈ u_ws RX0 TX0 11, w ∈ wsX2_when := by decide +kernel
  have hinX1 : ∀ w ∈ u_ws RX1 TX1 12, w ∈ wsX2_when := by decide +kernel
  have w_1 := hts (.fieldLink RX2 10 "BridgeBells" "bridge" "LBridgeBells$Bridge;") (by decide +kernel)
  have w_2 := hts (.fieldLink RX2 26 "BridgeBells$Bridge" "travellers" "LBridgeBells$Travellers;") (by decide +kernel)
  have w_3 := hts (.fieldLink RX2 16 "BridgeBells" "trial" "LBridgeBells$Bridge;") (by decide +kernel)
  have w_4 := hts (.fieldLink RX2 57 "BridgeBells$Travellers" "state" "[I") (by decide +kernel)
  have w_5 := hts (.classLink RX2 52 eIO) (by decide +kernel)
  have w_6 := hts (.initialized eIO) (by decide +kernel)
  refine lv_aload_n hx hb dX2_when_0 rfl (lv_at hl 0 rfl) ?_
  refine va_get (D := D) (ci := 2) (v := .ref (qb 0)) (C := RX2) (T := TX2) (N := 2) hx hb hts hinX2 hown hK hP 0 rfl rfl 0 (by decide) w_1 (fun _ h9 => h9) rfl dX2_when_1 ?_
  refine va_get (D := D) (ci := 0) (v := .ref (qb 2)) (C := RX0) (T := TX0) (N := 11) hx hb hts hinX0 hown hK hP 1 rfl rfl 7 (by decide) w_2 (fun _ h9 => h9) rfl dX2_when_4 ?_
  refine lv_iload_n hx hb dX2_when_7 rfl (lv_at hl 1 rfl) ?_
  refine xk_calli ([cX h qb qt, cXB qb b.1, cA I (qb 1) 8 b.2.1, cXB qt z.1, cA I (qt 1) 8 z.2.1, cXT qt z.2.2.1, cA I (qt 3) 40 (z.2.2.2 0), cA I (qt 4) 40 (z.2.2.2 1), cA I (qt 5) 40 (z.2.2.2 2), cA I (qt 6) 40 (z.2.2.2 3), cA I (qt 7) 40 (z.2.2.2 4), cA I (qt 8) 40 (z.2.2.2 5)]) ([cX h qb qt] ++ wB I qb b ++ wB I qt z) [3, 4, 5, 6, 7, 8, 9] [0, 1, 2, 10, 11, 12, 13, 14, 15, 16, 17, 18] [0, 1, 2, 12, 13, 14, 15, 16, 17, 18, 3, 4, 5, 6, 7, 8, 9, 10, 11] hP hD hS hA (va_runV (As := [.int k]) (rest := []) ⟨hx, hb, hml, hown, hts⟩ (c_X1_has l D I qb H.size b.2.2 k ) (cwV 1 hts gX2_when_X1_has rfl rfl rfl (by decide +kernel) ⟨Nat.le_of_ble_eq_true rfl, Nat.le_of_ble_eq_true rfl⟩) (xk_preV (wc := wT I qb b.2.2) (q0 := 3) (ci := 1) hN hP hK hD [3, 4, 5, 6, 7, 8, 9] rfl rfl rfl rfl) rfl rfl hl.1 rfl (lv_room (Nat.le_of_ble_eq_true rfl)) dX2_when_8 ⟨Nat.le_of_ble_eq_true rfl, Nat.le_of_ble_eq_true rfl⟩) rfl rfl rfl (by decide) rfl rfl (fun H locs hP hD hS => ?_)
  refine lv_if_ne (tgt := 24) hx hb dX2_when_11 (by decide) (fun c_1 => ?_) (fun c_1 => ?_)
  · refine lv_aload_n hx hb dX2_when_24 rfl (lv_at hl 0 rfl) ?_
    refine va_get (D := D) (ci := 2) (v := .ref (qt 0)) (C := RX2) (T := TX2) (N := 2) hx hb hts hinX2 hown hK hP 0 rfl rfl 1 (by decide) w_3 (fun _ h9 => h9) rfl dX2_when_25 ?_
    refine lv_aload_n hx hb dX2_when_28 rfl (lv_at hl 0 rfl) ?_
    refine va_get (D := D) (ci := 2) (v := .ref (qb 0)) (C := RX2) (T := TX2) (N := 2) hx hb hts hinX2 hown hK hP 0 rfl rfl 0 (by decide) w_1 (fun _ h9 => h9) rfl dX2_when_29 ?_
    refine xk_callv ([cX h qb qt]) ([cX h qb qt] ++ wB I qb b ++ wB I qt b) [10, 11, 12, 13, 14, 15, 16, 17, 18, 1, 2, 3, 4, 5, 6, 7, 8, 9] [0] [0, 10, 11, 12, 13, 14, 15, 16, 17, 18, 1, 2, 3, 4, 5, 6, 7, 8, 9] hP hD hS hA (va_runV (As := [.ref (qb 0)]) (rest := []) ⟨hx, hb, hml, hown, hts⟩ (c_X0_copyFrom l D I qt qb H.size z b hz) (cwV 1 hts gX2_when_X0_copyFrom rfl rfl rfl (by decide +kernel) ⟨Nat.le_of_ble_eq_true rfl, Nat.le_of_ble_eq_true rfl⟩) (xk_preV (wc := wB I qt z ++ wB I qb b) (q0 := 10) (ci := 0) hN hP hK hD [10, 11, 12, 13, 14, 15, 16, 17, 18, 1, 2, 3, 4, 5, 6, 7, 8, 9] rfl rfl rfl rfl) rfl rfl hl.1 rfl (lv_room (Nat.le_of_ble_eq_true rfl)) dX2_when_32 ⟨Nat.le_of_ble_eq_true rfl, Nat.le_of_ble_eq_true rfl⟩) rfl rfl rfl (by decide) rfl rfl (fun H locs hP hD hS => ?_)
    refine lv_iconst (v := (0 : Int32)) hx hb dX2_when_35 (by decide) ?_
    refine lv_istore_n (lv' := [(2, .int (0 : Int32)), (0, .ref h), (1, .int k)]) hx hb dX2_when_36 rfl hl (by decide) rfl (fun ls hl => ?_)
    have e9 : r_X2_when b k = x_whl k 401 0 b := by unfold r_X2_when; rw [if_neg c_1]
    have ex9 : x_X2_when b k = 0 := by unfold x_X2_when; rw [if_neg c_1]
    rw [e9]
    have hk : vp_in k 40 := (has_v hn c_1)
    have loop : ∀ (r j : Nat) (z : XBr), r + j = 401 → nOk (z.2.2.1 0) → 0 ≤ (z.1 0).toInt → (z.1 0).toInt + r < 2000000000 → ∀ (H : Heap) (locs : List Loc), va_P D vwCl ([cX h qb qt] ++ wB I qb b ++ wB I qt z) H → va_D A ([cX h qb qt] ++ wB I qb b ++ wB I qt z) → va_S A s.heap H locs → ∀ ls, lv_has ls 3 [(2, .int (nI j)), (0, .ref h), (1, .int k)] → W p l e { frames := 6, cells := 1, slots := 6, locals := 86 } s m #[.ref h, .int k] below meth c H locs 0 0 (vx_MQ below (xQiX D [(I, .int)] A XBr (x_whl k r j z) (x_X2_when b k) (fun v : XBr => [cX h qb qt] ++ wB I qb b ++ wB I qt v)) (xXC D [(I, .int)] A XBr [(eIO, 1)] (x_X2_when b k) (fun v : XBr => [cX h qb qt] ++ wB I qb b ++ wB I qt v)) #[.ref h, .int k] s 1 6 A) (F0 m 37 ls []) := by
      intro r
      induction r with
      | zero =>
        intro j z hj hz1 hm3 hm4 H locs hP hD hS ls hl
        refine lv_iload_n hx hb dX2_when_37 rfl (lv_at hl 0 rfl) ?_
        refine lv_sipush (v := (400 : Int32)) hx hb dX2_when_38 (by decide) ?_
        refine lv_icmp_gt (tgt := 75) hx hb dX2_when_41 (by decide) (fun c_2 => ?_) (fun c_2 => ?_)
        · refine lv_iconst (v := (-1 : Int32)) hx hb dX2_when_75 (by decide) ?_
          refine W.widen (k := 1) (n := 6) (Nat.le_of_ble_eq_true rfl) (Nat.le_of_ble_eq_true rfl) ?_
          exact xk_iretX (wf := fun (z : XBr) (v : XBr) => [cX h qb qt] ++ wB I qb z ++ wB I qt v) (u := b) (u1 := b) z hx hb hr rfl hlocks hP hK hD hS ex9 rfl rfl dX2_when_76
        · exact absurd (lt_nI (k := 400) (by decide) (by omega) (by omega)) c_2
      | succ r ih =>
        intro j z hj hz1 hm3 hm4 H locs hP hD hS ls hl
        refine lv_iload_n hx hb dX2_when_37 rfl (lv_at hl 0 rfl) ?_
        refine lv_sipush (v := (400 : Int32)) hx hb dX2_when_38 (by decide) ?_
        refine lv_icmp_gt (tgt := 75) hx hb dX2_when_41 (by decide) (fun c_3 => ?_) (fun c_3 => ?_)
        · exact absurd c_3 (nlt_nI (k := 400) (by decide) (by omega) (by omega))
        · refine lv_aload_n hx hb dX2_when_44 rfl (lv_at hl 1 rfl) ?_
          refine va_get (D := D) (ci := 2) (v := .ref (qt 0)) (C := RX2) (T := TX2) (N := 2) hx hb hts hinX2 hown hK hP 0 rfl rfl 1 (by decide) w_3 (fun _ h9 => h9) rfl dX2_when_45 ?_
          refine va_get (D := D) (ci := 0) (v := .ref (qt 2)) (C := RX0) (T := TX0) (N := 11) hx hb hts hinX0 hown hK hP 10 rfl rfl 7 (by decide) w_2 (fun _ h9 => h9) rfl dX2_when_48 ?_
          refine va_get (D := D) (ci := 1) (v := .ref (qt 5)) (C := RX1) (T := TX1) (N := 12) hx hb hts hinX1 hown hK hP 12 rfl rfl 6 (by decide) w_4 (fun _ h9 => h9) rfl dX2_when_51 ?_
          refine lv_iload_n hx hb dX2_when_54 rfl (lv_at hl 2 rfl) ?_
          refine va_iald (f := (z.2.2.2 2)) hx hb hK hP 15 0 rfl rfl (show vp_in k 40 from hk) dX2_when_55 ?_
          refine lv_iconst (v := (2 : Int32)) hx hb dX2_when_56 (by decide) ?_
          refine lv_icmp_ne (tgt := 62) hx hb dX2_when_57 (by decide) (fun c_4 => ?_) (fun c_4 => ?_)
          · refine lv_aload_n hx hb dX2_when_62 rfl (lv_at hl 1 rfl) ?_
            refine va_get (D := D) (ci := 2) (v := .ref (qt 0)) (C := RX2) (T := TX2) (N := 2) hx hb hts hinX2 hown hK hP 0 rfl rfl 1 (by decide) w_3 (fun _ h9 => h9) rfl dX2_when_63 ?_
            refine xk_callv ([cX h qb qt, cXB qb b.1, cA I (qb 1) 8 b.2.1, cXT qb b.2.2.1, cA I (qb 3) 40 (b.2.2.2 0), cA I (qb 4) 40 (b.2.2.2 1), cA I (qb 5) 40 (b.2.2.2 2), cA I (qb 6) 40 (b.2.2.2 3), cA I (qb 7) 40 (b.2.2.2 4), cA I (qb 8) 40 (b.2.2.2 5)]) ([cX h qb qt] ++ wB I qb b ++ wB I qt (s_X0_goOneMinute z)) [10, 11, 12, 13, 14, 15, 16, 17, 18] [0, 1, 2, 3, 4, 5, 6, 7, 8, 9] [0, 1, 2, 3, 4, 5, 6, 7, 8, 9, 10, 11, 12, 13, 14, 15, 16, 17, 18] hP hD hS hA (va_runV (As := []) (rest := []) ⟨hx, hb, hml, hown, hts⟩ (c_X0_goOneMinute l D I qt H.size z hz1 ⟨hm3, by omega⟩) (cwV 0 hts gX2_when_X0_goOneMinute rfl rfl rfl (by decide +kernel) ⟨Nat.le_of_ble_eq_true rfl, Nat.le_of_ble_eq_true rfl⟩) (xk_preV (wc := wB I qt z) (q0 := 10) (ci := 0) hN hP hK hD [10, 11, 12, 13, 14, 15, 16, 17, 18] rfl rfl rfl rfl) rfl rfl hl.1 rfl (lv_room (Nat.le_of_ble_eq_true rfl)) dX2_when_66 ⟨Nat.le_of_ble_eq_true rfl, Nat.le_of_ble_eq_true rfl⟩) rfl rfl rfl (by decide) rfl rfl (fun H locs hP hD hS => ?_)
            generalize hz_1 : s_X0_goOneMinute z = z_1 at hP hD
            refine lv_iinc (v := (nI (j + 1))) (lv' := [(2, .int (nI (j + 1))), (0, .ref h), (1, .int k)]) hx hb dX2_when_69 hl (k := 0) rfl (nI_succ j).symm (by decide) rfl (fun ls hl => ?_)
            refine lv_goto (tgt := 37) hx hb dX2_when_72 (by decide) ?_
            have e7 : x_whl k (r + 1) j z = x_whl k r (j + 1) (s_X0_goOneMinute z) := by rw [x_whl, if_neg c_4]
            rw [e7]
            subst hz_1
            exact ih (j + 1) (s_X0_goOneMinute z) (by omega) (by rw [gom_n]; exact hz1) (by rw [gom_m]; exact (p1_m hm3 (by omega)).1) (by rw [gom_m, (p1_m hm3 (by omega)).2]; omega) _ _ hP hD hS ls hl
          · refine lv_iload_n hx hb dX2_when_60 rfl (lv_at hl 0 rfl) ?_
            refine W.widen (k := 1) (n := 6) (Nat.le_of_ble_eq_true rfl) (Nat.le_of_ble_eq_true rfl) ?_
            exact xk_iretX (wf := fun (z : XBr) (v : XBr) => [cX h qb qt] ++ wB I qb z ++ wB I qt v) (u := b) (u1 := b) z hx hb hr rfl hlocks hP hK hD hS ex9 (by rw [x_whl, if_pos c_4]) rfl dX2_when_61
    exact loop 401 0 b (by omega) hn hm1 (by omega) _ _ hP hD hS ls (lv_sub hl [0, 1, 2] rfl)
  · refine xk_throw (wf := fun (z : XBr) (v : XBr) => [cX h qb qt] ++ wB I qb z ++ wB I qt v) (u := b) (u1 := b) z (cls := eIO) (text := "there is no such traveller") (ik := 52) (is := 54) (ic := 56) hx hb hlt hown (by decide +kernel) w_5 w_6 (by decide) (fun w h => hts w (List.mem_cons_of_mem _ (List.mem_append_right _ h))) (by decide +kernel) (by decide +kernel) hXX hP hK hD hS (hl.1.trans hml.symm) dX2_when_14 dX2_when_17 dX2_when_18 dX2_when_20 dX2_when_23 hex (Nat.le_of_ble_eq_true rfl) (Nat.le_of_ble_eq_true rfl) (Nat.le_of_ble_eq_true rfl) (Nat.le_of_ble_eq_true rfl) hlocks (Nat.le_of_ble_eq_true rfl) (Nat.le_of_ble_eq_true rfl) ?_ ?_
    · unfold x_X2_when; rw [if_pos c_1]; decide
    · rfl

def r_X2_bestCode (b : XBr) (mi : Int32) : Int32 :=
  if (r_X2_isSpan mi) = 0 then
    (0 : Int32)
  else
    x_bc b mi 3 1 (0 : Int32) (r_X2_waitWith b (0 : Int32) (b.1 2) mi)
def x_X2_bestCode (b : XBr) (mi : Int32) : Int32 :=
  if (r_X2_isSpan mi) = 0 then
    (1 : Int32)
  else
    (0 : Int32)
set_option maxHeartbeats 1600000 in
set_option maxRecDepth 100000 in
theorem c_X2_bestCode (l : Launch) (hlt : l.stackTraces = false) (D : va_G) (I : ClassId) (h : Nat) (qb qt : Nat → Nat) (sz : Nat) (b z : XBr) (mi : Int32) (hn : nOk (b.2.2.1 0)) (hm1 : 0 ≤ (b.1 0).toInt) (hm2 : (b.1 0).toInt < 1000000000) (hz : b.1 8 = 0 ∨ b.1 8 = 1) : xMX l D [(I, .int)] yX2_bestCode wsX2_bestCode { frames := 6, cells := 1, slots := 6, locals := 131 } [.ref h, .int mi] sz ([cX h qb qt] ++ wB I qb b ++ wB I qt z) XBr [(eIA, 1)] (r_X2_bestCode b mi) (x_X2_bestCode b mi) (fun v : XBr => [cX h qb qt] ++ wB I qb b ++ wB I qt v) 1 6 := by
  refine xk_startX (cc := cX2_bestCode) (maxL := 6) (ret := (some .int)) (Qf := fun A => xQiX D [(I, .int)] A XBr (r_X2_bestCode b mi) (x_X2_bestCode b mi) (fun v : XBr => [cX h qb qt] ++ wB I qb b ++ wB I qt v)) (XCf := fun A => xXC D [(I, .int)] A XBr [(eIA, 1)] (x_X2_bestCode b mi) (fun v : XBr => [cX h qb qt] ++ wB I qb b ++ wB I qt v)) (by decide) rfl (Nat.le_of_ble_eq_true rfl) ?_
  intro p e s m below meth c A H ls hst hAe hsz hl hex hXX
  obtain ⟨hx, hb, hr, hts, hown, hlocks, hml, hin, hN, hK, hP, hD, hA, hS⟩ := hst
  have hl : lv_has ls 6 [(0, .ref h), (1, .int mi)] := hl
  have hP : va_P D vwCl ([cX h qb qt] ++ wB I qb b ++ wB I qt z) H := hP
  have hinX2 : ∀ w ∈ u_ws RX2 TX2 2, w ∈ wsX2_bestCode := by decide +kernel
  have hinX0 : ∀ w ∈ u_ws RX0 TX0 11, w ∈ wsX2_bestCode := by decide +kernel
  have w_1 := hts (.fieldLink RX2 10 "BridgeBells" "bridge" "LBridgeBells$Bridge;") (by decide +kernel)
  have w_2 := hts (.fieldLink RX2 83 "BridgeBells$Bridge" "counterpoise" "I") (by decide +kernel)
  have w_3 := hts (.classLink RX2 19 eIA) (by decide +kernel)
  have w_4 := hts (.initialized eIA) (by decide +kernel)
  refine lv_iload_n hx hb dX2_bestCode_0 rfl (lv_at hl 1 rfl) ?_
  refine xk_calli ([cX h qb qt, cXB qb b.1, cA I (qb 1) 8 b.2.1, cXT qb b.2.2.1, cA I (qb 3) 40 (b.2.2.2 0), cA I (qb 4) 40 (b.2.2.2 1), cA I (qb 5) 40 (b.2.2.2 2), cA I (qb 6) 40 (b.2.2.2 3), cA I (qb 7) 40 (b.2.2.2 4), cA I (qb 8) 40 (b.2.2.2 5), cXB qt z.1, cA I (qt 1) 8 z.2.1, cXT qt z.2.2.1, cA I (qt 3) 40 (z.2.2.2 0), cA I (qt 4) 40 (z.2.2.2 1), cA I (qt 5) 40 (z.2.2.2 2), cA I (qt 6) 40 (z.2.2.2 3), cA I (qt 7) 40 (z.2.2.2 4), cA I (qt 8) 40 (z.2.2.2 5)]) ([cX h qb qt] ++ wB I qb b ++ wB I qt z) [] [0, 1, 2, 3, 4, 5, 6, 7, 8, 9, 10, 11, 12, 13, 14, 15, 16, 17, 18] [0, 1, 2, 3, 4, 5, 6, 7, 8, 9, 10, 11, 12, 13, 14, 15, 16, 17, 18] hP hD hS hA (va_runS (As := [.int mi]) (rest := []) ⟨hx, hb, hml, hown, hts⟩ (c_X2_isSpan l D I  H.size mi ) (va_cwS 1 hts gX2_bestCode_X2_isSpan rfl rfl rfl (by decide +kernel) ⟨Nat.le_of_ble_eq_true rfl, Nat.le_of_ble_eq_true rfl⟩) (xk_pre (wc := ([] : va_W)) hN hP hK hD [] rfl rfl) rfl rfl hl.1 rfl (lv_room (Nat.le_of_ble_eq_true rfl)) dX2_bestCode_1 ⟨Nat.le_of_ble_eq_true rfl, Nat.le_of_ble_eq_true rfl⟩) rfl rfl rfl (by decide) rfl rfl (fun H locs hP hD hS => ?_)
  refine lv_if_ne (tgt := 17) hx hb dX2_bestCode_4 (by decide) (fun c_1 => ?_) (fun c_1 => ?_)
  · refine lv_iconst (v := (0 : Int32)) hx hb dX2_bestCode_17 (by decide) ?_
    refine lv_istore_n (lv' := [(2, .int (0 : Int32)), (0, .ref h), (1, .int mi)]) hx hb dX2_bestCode_18 rfl hl (by decide) rfl (fun ls hl => ?_)
    refine lv_aload_n hx hb dX2_bestCode_19 rfl (lv_at hl 1 rfl) ?_
    refine lv_iload_n hx hb dX2_bestCode_20 rfl (lv_at hl 0 rfl) ?_
    refine lv_aload_n hx hb dX2_bestCode_21 rfl (lv_at hl 1 rfl) ?_
    refine va_get (D := D) (ci := 2) (v := .ref (qb 0)) (C := RX2) (T := TX2) (N := 2) hx hb hts hinX2 hown hK hP 0 rfl rfl 0 (by decide) w_1 (fun _ h9 => h9) rfl dX2_bestCode_22 ?_
    refine va_get (D := D) (ci := 0) (v := .int (b.1 2)) (C := RX0) (T := TX0) (N := 11) hx hb hts hinX0 hown hK hP 1 rfl rfl 2 (by decide) w_2 (fun _ h9 => h9) rfl dX2_bestCode_25 ?_
    refine lv_iload_n hx hb dX2_bestCode_28 rfl (lv_at hl 2 rfl) ?_
    refine xk_calliE ([]) (fun v : XBr => [cX h qb qt] ++ wB I qb b ++ wB I qt v) [0, 1, 2, 3, 4, 5, 6, 7, 8, 9, 10, 11, 12, 13, 14, 15, 16, 17, 18] [] [0, 1, 2, 3, 4, 5, 6, 7, 8, 9, 10, 11, 12, 13, 14, 15, 16, 17, 18] hP hD hS hA (va_runV (As := [.int (0 : Int32), .int (b.1 2), .int mi]) (rest := []) ⟨hx, hb, hml, hown, hts⟩ (c_X2_waitWith l D I h qb qt H.size b z (0 : Int32) (b.1 2) mi hn hm1 hm2 hz (span_b c_1).1 (span_b c_1).2) (cwV 3 hts gX2_bestCode_X2_waitWith rfl rfl rfl (by decide +kernel) ⟨Nat.le_of_ble_eq_true rfl, Nat.le_of_ble_eq_true rfl⟩) (xk_preV (wc := [cX h qb qt] ++ wB I qb b ++ wB I qt z) (q0 := 0) (ci := 2) hN hP hK hD [0, 1, 2, 3, 4, 5, 6, 7, 8, 9, 10, 11, 12, 13, 14, 15, 16, 17, 18] rfl rfl rfl rfl) rfl rfl hl.1 rfl (lv_room (Nat.le_of_ble_eq_true rfl)) dX2_bestCode_29 ⟨Nat.le_of_ble_eq_true rfl, Nat.le_of_ble_eq_true rfl⟩) rfl rfl rfl (by decide) rfl (fun _ => rfl) (fun z_1 H locs hP hD hS => ?_)
    have hP : va_P D vwCl ([cX h qb qt] ++ wB I qb b ++ wB I qt z_1) H := hP
    have hD : va_D A ([cX h qb qt] ++ wB I qb b ++ wB I qt z_1) := hD
    refine lv_istore_n (lv' := [(3, .int (r_X2_waitWith b (0 : Int32) (b.1 2) mi)), (2, .int (0 : Int32)), (0, .ref h), (1, .int mi)]) hx hb dX2_bestCode_32 rfl hl (by decide) rfl (fun ls hl => ?_)
    refine lv_iload_n hx hb dX2_bestCode_33 rfl (lv_at hl 1 rfl) ?_
    refine lv_iconst (v := (1 : Int32)) hx hb dX2_bestCode_34 (by decide) ?_
    refine lv_iadd hx hb dX2_bestCode_35 ?_
    refine W.eq (g2 := F0 m 36 ls [.int (1 : Int32)]) (by rfl) ?_
    refine lv_istore (lv' := [(4, .int (1 : Int32)), (3, .int (r_X2_waitWith b (0 : Int32) (b.1 2) mi)), (2, .int (0 : Int32)), (0, .ref h), (1, .int mi)]) hx hb dX2_bestCode_36 hl (by decide) rfl (fun ls hl => ?_)
    have e9 : r_X2_bestCode b mi = x_bc b mi 3 1 (0 : Int32) (r_X2_waitWith b (0 : Int32) (b.1 2) mi) := by unfold r_X2_bestCode; rw [if_neg c_1]
    have ex9 : x_X2_bestCode b mi = 0 := by unfold x_X2_bestCode; rw [if_neg c_1]
    rw [e9]
    have hs1 := (span_b c_1).1
    have hs2 := (span_b c_1).2
    have loop : ∀ (r k : Nat) (bs f : Int32) (z : XBr), r + k = 4 → ∀ (H : Heap) (locs : List Loc), va_P D vwCl ([cX h qb qt] ++ wB I qb b ++ wB I qt z) H → va_D A ([cX h qb qt] ++ wB I qb b ++ wB I qt z) → va_S A s.heap H locs → ∀ ls, lv_has ls 6 [(4, .int (nI k)), (3, .int f), (2, .int bs), (0, .ref h), (1, .int mi)] → W p l e { frames := 6, cells := 1, slots := 6, locals := 131 } s m #[.ref h, .int mi] below meth c H locs 0 0 (vx_MQ below (xQiX D [(I, .int)] A XBr (x_bc b mi r k bs f) (x_X2_bestCode b mi) (fun v : XBr => [cX h qb qt] ++ wB I qb b ++ wB I qt v)) (xXC D [(I, .int)] A XBr [(eIA, 1)] (x_X2_bestCode b mi) (fun v : XBr => [cX h qb qt] ++ wB I qb b ++ wB I qt v)) #[.ref h, .int mi] s 1 6 A) (F0 m 38 ls []) := by
      intro r
      induction r with
      | zero =>
        intro k bs f z hk H locs hP hD hS ls hl
        refine lv_iload hx hb dX2_bestCode_38 (lv_at hl 0 rfl) ?_
        refine lv_iconst (v := (3 : Int32)) hx hb dX2_bestCode_40 (by decide) ?_
        refine lv_icmp_gt (tgt := 78) hx hb dX2_bestCode_41 (by decide) (fun c_2 => ?_) (fun c_2 => ?_)
        · refine lv_iload_n hx hb dX2_bestCode_78 rfl (lv_at hl 2 rfl) ?_
          refine W.widen (k := 1) (n := 6) (Nat.le_of_ble_eq_true rfl) (Nat.le_of_ble_eq_true rfl) ?_
          exact xk_iretX (wf := fun (z : XBr) (v : XBr) => [cX h qb qt] ++ wB I qb z ++ wB I qt v) (u := b) (u1 := b) z hx hb hr rfl hlocks hP hK hD hS ex9 rfl rfl dX2_bestCode_79
        · exact absurd (lt_nI (k := 3) (by decide) (by omega) (by omega)) c_2
      | succ r ih =>
        intro k bs f z hk H locs hP hD hS ls hl
        refine lv_iload hx hb dX2_bestCode_38 (lv_at hl 0 rfl) ?_
        refine lv_iconst (v := (3 : Int32)) hx hb dX2_bestCode_40 (by decide) ?_
        refine lv_icmp_gt (tgt := 78) hx hb dX2_bestCode_41 (by decide) (fun c_3 => ?_) (fun c_3 => ?_)
        · exact absurd c_3 (nlt_nI (k := 3) (by decide) (by omega) (by omega))
        · refine lv_aload_n hx hb dX2_bestCode_44 rfl (lv_at hl 3 rfl) ?_
          refine lv_iload hx hb dX2_bestCode_45 (lv_at hl 0 rfl) ?_
          refine lv_aload_n hx hb dX2_bestCode_47 rfl (lv_at hl 3 rfl) ?_
          refine va_get (D := D) (ci := 2) (v := .ref (qb 0)) (C := RX2) (T := TX2) (N := 2) hx hb hts hinX2 hown hK hP 0 rfl rfl 0 (by decide) w_1 (fun _ h9 => h9) rfl dX2_bestCode_48 ?_
          refine va_get (D := D) (ci := 0) (v := .int (b.1 2)) (C := RX0) (T := TX0) (N := 11) hx hb hts hinX0 hown hK hP 1 rfl rfl 2 (by decide) w_2 (fun _ h9 => h9) rfl dX2_bestCode_51 ?_
          refine lv_iload_n hx hb dX2_bestCode_54 rfl (lv_at hl 4 rfl) ?_
          refine xk_calliE ([]) (fun v : XBr => [cX h qb qt] ++ wB I qb b ++ wB I qt v) [0, 1, 2, 3, 4, 5, 6, 7, 8, 9, 10, 11, 12, 13, 14, 15, 16, 17, 18] [] [0, 1, 2, 3, 4, 5, 6, 7, 8, 9, 10, 11, 12, 13, 14, 15, 16, 17, 18] hP hD hS hA (va_runV (As := [.int (nI k), .int (b.1 2), .int mi]) (rest := []) ⟨hx, hb, hml, hown, hts⟩ (c_X2_waitWith l D I h qb qt H.size b z (nI k) (b.1 2) mi hn hm1 hm2 hz hs1 hs2) (cwV 3 hts gX2_bestCode_X2_waitWith rfl rfl rfl (by decide +kernel) ⟨Nat.le_of_ble_eq_true rfl, Nat.le_of_ble_eq_true rfl⟩) (xk_preV (wc := [cX h qb qt] ++ wB I qb b ++ wB I qt z) (q0 := 0) (ci := 2) hN hP hK hD [0, 1, 2, 3, 4, 5, 6, 7, 8, 9, 10, 11, 12, 13, 14, 15, 16, 17, 18] rfl rfl rfl rfl) rfl rfl hl.1 rfl (lv_room (Nat.le_of_ble_eq_true rfl)) dX2_bestCode_55 ⟨Nat.le_of_ble_eq_true rfl, Nat.le_of_ble_eq_true rfl⟩) rfl rfl rfl (by decide) rfl (fun _ => rfl) (fun z_2 H locs hP hD hS => ?_)
          have hP : va_P D vwCl ([cX h qb qt] ++ wB I qb b ++ wB I qt z_2) H := hP
          have hD : va_D A ([cX h qb qt] ++ wB I qb b ++ wB I qt z_2) := hD
          refine lv_istore (lv' := [(5, .int (r_X2_waitWith b (nI k) (b.1 2) mi)), (4, .int (nI k)), (3, .int f), (2, .int bs), (0, .ref h), (1, .int mi)]) hx hb dX2_bestCode_58 hl (by decide) rfl (fun ls hl => ?_)
          refine lv_iload hx hb dX2_bestCode_60 (lv_at hl 0 rfl) ?_
          refine lv_iload_n hx hb dX2_bestCode_62 rfl (lv_at hl 2 rfl) ?_
          refine lv_icmp_ge (tgt := 72) hx hb dX2_bestCode_63 (by decide) (fun c_4 => ?_) (fun c_4 => ?_)
          · refine lv_iinc (v := (nI (k + 1))) (lv' := [(4, .int (nI (k + 1))), (5, .int (r_X2_waitWith b (nI k) (b.1 2) mi)), (3, .int f), (2, .int bs), (0, .ref h), (1, .int mi)]) hx hb dX2_bestCode_72 hl (k := 1) rfl (nI_succ k).symm (by decide) rfl (fun ls hl => ?_)
            refine lv_goto (tgt := 38) hx hb dX2_bestCode_75 (by decide) ?_
            have e7 : x_bc b mi (r + 1) k bs f = x_bc b mi r (k + 1) bs f := by rw [x_bc, if_pos c_4]
            rw [e7]
            exact ih (k + 1) _ _ _ (by omega) _ _ hP hD hS ls (lv_sub hl [0, 2, 3, 4, 5] rfl)
          · refine lv_iload hx hb dX2_bestCode_66 (lv_at hl 0 rfl) ?_
            refine lv_istore_n (lv' := [(3, .int (r_X2_waitWith b (nI k) (b.1 2) mi)), (5, .int (r_X2_waitWith b (nI k) (b.1 2) mi)), (4, .int (nI k)), (2, .int bs), (0, .ref h), (1, .int mi)]) hx hb dX2_bestCode_68 rfl hl (by decide) rfl (fun ls hl => ?_)
            refine lv_iload hx hb dX2_bestCode_69 (lv_at hl 2 rfl) ?_
            refine lv_istore_n (lv' := [(2, .int (nI k)), (3, .int (r_X2_waitWith b (nI k) (b.1 2) mi)), (5, .int (r_X2_waitWith b (nI k) (b.1 2) mi)), (4, .int (nI k)), (0, .ref h), (1, .int mi)]) hx hb dX2_bestCode_71 rfl hl (by decide) rfl (fun ls hl => ?_)
            refine lv_iinc (v := (nI (k + 1))) (lv' := [(4, .int (nI (k + 1))), (2, .int (nI k)), (3, .int (r_X2_waitWith b (nI k) (b.1 2) mi)), (5, .int (r_X2_waitWith b (nI k) (b.1 2) mi)), (0, .ref h), (1, .int mi)]) hx hb dX2_bestCode_72 hl (k := 3) rfl (nI_succ k).symm (by decide) rfl (fun ls hl => ?_)
            refine lv_goto (tgt := 38) hx hb dX2_bestCode_75 (by decide) ?_
            have e7 : x_bc b mi (r + 1) k bs f = x_bc b mi r (k + 1) (nI k) (r_X2_waitWith b (nI k) (b.1 2) mi) := by rw [x_bc, if_neg c_4]
            rw [e7]
            exact ih (k + 1) _ _ _ (by omega) _ _ hP hD hS ls (lv_sub hl [0, 2, 1, 4, 5] rfl)
    exact loop 3 1 _ _ z_1 (by omega) _ _ hP hD hS ls (lv_sub hl [0, 1, 2, 3, 4] rfl)
  · refine xk_throw (wf := fun (z : XBr) (v : XBr) => [cX h qb qt] ++ wB I qb z ++ wB I qt v) (u := b) (u1 := b) z (cls := eIA) (text := "minutes is not 1 to 240") (ik := 19) (is := 119) (ic := 23) hx hb hlt hown (by decide +kernel) w_3 w_4 (by decide) (fun w h => hts w (List.mem_cons_of_mem _ (List.mem_append_right _ h))) (by decide +kernel) (by decide +kernel) hXX hP hK hD hS (hl.1.trans hml.symm) dX2_bestCode_7 dX2_bestCode_10 dX2_bestCode_11 dX2_bestCode_13 dX2_bestCode_16 hex (Nat.le_of_ble_eq_true rfl) (Nat.le_of_ble_eq_true rfl) (Nat.le_of_ble_eq_true rfl) (Nat.le_of_ble_eq_true rfl) hlocks (Nat.le_of_ble_eq_true rfl) (Nat.le_of_ble_eq_true rfl) ?_ ?_
    · unfold x_X2_bestCode; rw [if_pos c_1]; decide
    · rfl

def r_X2_bestPoise (b : XBr) (mi : Int32) : Int32 :=
  if (r_X2_isSpan mi) = 0 then
    (0 : Int32)
  else
    x_bp b mi 30 1 (0 : Int32) (r_X2_waitWith b (b.1 4) (0 : Int32) mi)
def x_X2_bestPoise (b : XBr) (mi : Int32) : Int32 :=
  if (r_X2_isSpan mi) = 0 then
    (1 : Int32)
  else
    (0 : Int32)
set_option maxHeartbeats 1600000 in
set_option maxRecDepth 100000 in
theorem c_X2_bestPoise (l : Launch) (hlt : l.stackTraces = false) (D : va_G) (I : ClassId) (h : Nat) (qb qt : Nat → Nat) (sz : Nat) (b z : XBr) (mi : Int32) (hn : nOk (b.2.2.1 0)) (hm1 : 0 ≤ (b.1 0).toInt) (hm2 : (b.1 0).toInt < 1000000000) (hz : b.1 8 = 0 ∨ b.1 8 = 1) : xMX l D [(I, .int)] yX2_bestPoise wsX2_bestPoise { frames := 6, cells := 1, slots := 6, locals := 131 } [.ref h, .int mi] sz ([cX h qb qt] ++ wB I qb b ++ wB I qt z) XBr [(eIA, 1)] (r_X2_bestPoise b mi) (x_X2_bestPoise b mi) (fun v : XBr => [cX h qb qt] ++ wB I qb b ++ wB I qt v) 1 6 := by
  refine xk_startX (cc := cX2_bestPoise) (maxL := 6) (ret := (some .int)) (Qf := fun A => xQiX D [(I, .int)] A XBr (r_X2_bestPoise b mi) (x_X2_bestPoise b mi) (fun v : XBr => [cX h qb qt] ++ wB I qb b ++ wB I qt v)) (XCf := fun A => xXC D [(I, .int)] A XBr [(eIA, 1)] (x_X2_bestPoise b mi) (fun v : XBr => [cX h qb qt] ++ wB I qb b ++ wB I qt v)) (by decide) rfl (Nat.le_of_ble_eq_true rfl) ?_
  intro p e s m below meth c A H ls hst hAe hsz hl hex hXX
  obtain ⟨hx, hb, hr, hts, hown, hlocks, hml, hin, hN, hK, hP, hD, hA, hS⟩ := hst
  have hl : lv_has ls 6 [(0, .ref h), (1, .int mi)] := hl
  have hP : va_P D vwCl ([cX h qb qt] ++ wB I qb b ++ wB I qt z) H := hP
  have hinX2 : ∀ w ∈ u_ws RX2 TX2 2, w ∈ wsX2_bestPoise := by decide +kernel
  have hinX0 : ∀ w ∈ u_ws RX0 TX0 11, w ∈ wsX2_bestPoise := by decide +kernel
  have w_1 := hts (.fieldLink RX2 10 "BridgeBells" "bridge" "LBridgeBells$Bridge;") (by decide +kernel)
  have w_2 := hts (.fieldLink RX2 73 "BridgeBells$Bridge" "code" "I") (by decide +kernel)
  have w_3 := hts (.classLink RX2 19 eIA) (by decide +kernel)
  have w_4 := hts (.initialized eIA) (by decide +kernel)
  refine lv_iload_n hx hb dX2_bestPoise_0 rfl (lv_at hl 1 rfl) ?_
  refine xk_calli ([cX h qb qt, cXB qb b.1, cA I (qb 1) 8 b.2.1, cXT qb b.2.2.1, cA I (qb 3) 40 (b.2.2.2 0), cA I (qb 4) 40 (b.2.2.2 1), cA I (qb 5) 40 (b.2.2.2 2), cA I (qb 6) 40 (b.2.2.2 3), cA I (qb 7) 40 (b.2.2.2 4), cA I (qb 8) 40 (b.2.2.2 5), cXB qt z.1, cA I (qt 1) 8 z.2.1, cXT qt z.2.2.1, cA I (qt 3) 40 (z.2.2.2 0), cA I (qt 4) 40 (z.2.2.2 1), cA I (qt 5) 40 (z.2.2.2 2), cA I (qt 6) 40 (z.2.2.2 3), cA I (qt 7) 40 (z.2.2.2 4), cA I (qt 8) 40 (z.2.2.2 5)]) ([cX h qb qt] ++ wB I qb b ++ wB I qt z) [] [0, 1, 2, 3, 4, 5, 6, 7, 8, 9, 10, 11, 12, 13, 14, 15, 16, 17, 18] [0, 1, 2, 3, 4, 5, 6, 7, 8, 9, 10, 11, 12, 13, 14, 15, 16, 17, 18] hP hD hS hA (va_runS (As := [.int mi]) (rest := []) ⟨hx, hb, hml, hown, hts⟩ (c_X2_isSpan l D I  H.size mi ) (va_cwS 1 hts gX2_bestPoise_X2_isSpan rfl rfl rfl (by decide +kernel) ⟨Nat.le_of_ble_eq_true rfl, Nat.le_of_ble_eq_true rfl⟩) (xk_pre (wc := ([] : va_W)) hN hP hK hD [] rfl rfl) rfl rfl hl.1 rfl (lv_room (Nat.le_of_ble_eq_true rfl)) dX2_bestPoise_1 ⟨Nat.le_of_ble_eq_true rfl, Nat.le_of_ble_eq_true rfl⟩) rfl rfl rfl (by decide) rfl rfl (fun H locs hP hD hS => ?_)
  refine lv_if_ne (tgt := 17) hx hb dX2_bestPoise_4 (by decide) (fun c_1 => ?_) (fun c_1 => ?_)
  · refine lv_iconst (v := (0 : Int32)) hx hb dX2_bestPoise_17 (by decide) ?_
    refine lv_istore_n (lv' := [(2, .int (0 : Int32)), (0, .ref h), (1, .int mi)]) hx hb dX2_bestPoise_18 rfl hl (by decide) rfl (fun ls hl => ?_)
    refine lv_aload_n hx hb dX2_bestPoise_19 rfl (lv_at hl 1 rfl) ?_
    refine lv_aload_n hx hb dX2_bestPoise_20 rfl (lv_at hl 1 rfl) ?_
    refine va_get (D := D) (ci := 2) (v := .ref (qb 0)) (C := RX2) (T := TX2) (N := 2) hx hb hts hinX2 hown hK hP 0 rfl rfl 0 (by decide) w_1 (fun _ h9 => h9) rfl dX2_bestPoise_21 ?_
    refine va_get (D := D) (ci := 0) (v := .int (b.1 4)) (C := RX0) (T := TX0) (N := 11) hx hb hts hinX0 hown hK hP 1 rfl rfl 4 (by decide) w_2 (fun _ h9 => h9) rfl dX2_bestPoise_24 ?_
    refine lv_iload_n hx hb dX2_bestPoise_27 rfl (lv_at hl 0 rfl) ?_
    refine lv_iload_n hx hb dX2_bestPoise_28 rfl (lv_at hl 2 rfl) ?_
    refine xk_calliE ([]) (fun v : XBr => [cX h qb qt] ++ wB I qb b ++ wB I qt v) [0, 1, 2, 3, 4, 5, 6, 7, 8, 9, 10, 11, 12, 13, 14, 15, 16, 17, 18] [] [0, 1, 2, 3, 4, 5, 6, 7, 8, 9, 10, 11, 12, 13, 14, 15, 16, 17, 18] hP hD hS hA (va_runV (As := [.int (b.1 4), .int (0 : Int32), .int mi]) (rest := []) ⟨hx, hb, hml, hown, hts⟩ (c_X2_waitWith l D I h qb qt H.size b z (b.1 4) (0 : Int32) mi hn hm1 hm2 hz (span_b c_1).1 (span_b c_1).2) (cwV 3 hts gX2_bestPoise_X2_waitWith rfl rfl rfl (by decide +kernel) ⟨Nat.le_of_ble_eq_true rfl, Nat.le_of_ble_eq_true rfl⟩) (xk_preV (wc := [cX h qb qt] ++ wB I qb b ++ wB I qt z) (q0 := 0) (ci := 2) hN hP hK hD [0, 1, 2, 3, 4, 5, 6, 7, 8, 9, 10, 11, 12, 13, 14, 15, 16, 17, 18] rfl rfl rfl rfl) rfl rfl hl.1 rfl (lv_room (Nat.le_of_ble_eq_true rfl)) dX2_bestPoise_29 ⟨Nat.le_of_ble_eq_true rfl, Nat.le_of_ble_eq_true rfl⟩) rfl rfl rfl (by decide) rfl (fun _ => rfl) (fun z_1 H locs hP hD hS => ?_)
    have hP : va_P D vwCl ([cX h qb qt] ++ wB I qb b ++ wB I qt z_1) H := hP
    have hD : va_D A ([cX h qb qt] ++ wB I qb b ++ wB I qt z_1) := hD
    refine lv_istore_n (lv' := [(3, .int (r_X2_waitWith b (b.1 4) (0 : Int32) mi)), (2, .int (0 : Int32)), (0, .ref h), (1, .int mi)]) hx hb dX2_bestPoise_32 rfl hl (by decide) rfl (fun ls hl => ?_)
    refine lv_iload_n hx hb dX2_bestPoise_33 rfl (lv_at hl 1 rfl) ?_
    refine lv_iconst (v := (1 : Int32)) hx hb dX2_bestPoise_34 (by decide) ?_
    refine lv_iadd hx hb dX2_bestPoise_35 ?_
    refine W.eq (g2 := F0 m 36 ls [.int (1 : Int32)]) (by rfl) ?_
    refine lv_istore (lv' := [(4, .int (1 : Int32)), (3, .int (r_X2_waitWith b (b.1 4) (0 : Int32) mi)), (2, .int (0 : Int32)), (0, .ref h), (1, .int mi)]) hx hb dX2_bestPoise_36 hl (by decide) rfl (fun ls hl => ?_)
    have e9 : r_X2_bestPoise b mi = x_bp b mi 30 1 (0 : Int32) (r_X2_waitWith b (b.1 4) (0 : Int32) mi) := by unfold r_X2_bestPoise; rw [if_neg c_1]
    have ex9 : x_X2_bestPoise b mi = 0 := by unfold x_X2_bestPoise; rw [if_neg c_1]
    rw [e9]
    have hs1 := (span_b c_1).1
    have hs2 := (span_b c_1).2
    have loop : ∀ (r k : Nat) (bs f : Int32) (z : XBr), r + k = 31 → ∀ (H : Heap) (locs : List Loc), va_P D vwCl ([cX h qb qt] ++ wB I qb b ++ wB I qt z) H → va_D A ([cX h qb qt] ++ wB I qb b ++ wB I qt z) → va_S A s.heap H locs → ∀ ls, lv_has ls 6 [(4, .int (nI k)), (3, .int f), (2, .int bs), (0, .ref h), (1, .int mi)] → W p l e { frames := 6, cells := 1, slots := 6, locals := 131 } s m #[.ref h, .int mi] below meth c H locs 0 0 (vx_MQ below (xQiX D [(I, .int)] A XBr (x_bp b mi r k bs f) (x_X2_bestPoise b mi) (fun v : XBr => [cX h qb qt] ++ wB I qb b ++ wB I qt v)) (xXC D [(I, .int)] A XBr [(eIA, 1)] (x_X2_bestPoise b mi) (fun v : XBr => [cX h qb qt] ++ wB I qb b ++ wB I qt v)) #[.ref h, .int mi] s 1 6 A) (F0 m 38 ls []) := by
      intro r
      induction r with
      | zero =>
        intro k bs f z hk H locs hP hD hS ls hl
        refine lv_iload hx hb dX2_bestPoise_38 (lv_at hl 0 rfl) ?_
        refine lv_bipush (v := (30 : Int32)) hx hb dX2_bestPoise_40 (by decide) ?_
        refine lv_icmp_gt (tgt := 79) hx hb dX2_bestPoise_42 (by decide) (fun c_2 => ?_) (fun c_2 => ?_)
        · refine lv_iload_n hx hb dX2_bestPoise_79 rfl (lv_at hl 2 rfl) ?_
          refine W.widen (k := 1) (n := 6) (Nat.le_of_ble_eq_true rfl) (Nat.le_of_ble_eq_true rfl) ?_
          exact xk_iretX (wf := fun (z : XBr) (v : XBr) => [cX h qb qt] ++ wB I qb z ++ wB I qt v) (u := b) (u1 := b) z hx hb hr rfl hlocks hP hK hD hS ex9 rfl rfl dX2_bestPoise_80
        · exact absurd (lt_nI (k := 30) (by decide) (by omega) (by omega)) c_2
      | succ r ih =>
        intro k bs f z hk H locs hP hD hS ls hl
        refine lv_iload hx hb dX2_bestPoise_38 (lv_at hl 0 rfl) ?_
        refine lv_bipush (v := (30 : Int32)) hx hb dX2_bestPoise_40 (by decide) ?_
        refine lv_icmp_gt (tgt := 79) hx hb dX2_bestPoise_42 (by decide) (fun c_3 => ?_) (fun c_3 => ?_)
        · exact absurd c_3 (nlt_nI (k := 30) (by decide) (by omega) (by omega))
        · refine lv_aload_n hx hb dX2_bestPoise_45 rfl (lv_at hl 3 rfl) ?_
          refine lv_aload_n hx hb dX2_bestPoise_46 rfl (lv_at hl 3 rfl) ?_
          refine va_get (D := D) (ci := 2) (v := .ref (qb 0)) (C := RX2) (T := TX2) (N := 2) hx hb hts hinX2 hown hK hP 0 rfl rfl 0 (by decide) w_1 (fun _ h9 => h9) rfl dX2_bestPoise_47 ?_
          refine va_get (D := D) (ci := 0) (v := .int (b.1 4)) (C := RX0) (T := TX0) (N := 11) hx hb hts hinX0 hown hK hP 1 rfl rfl 4 (by decide) w_2 (fun _ h9 => h9) rfl dX2_bestPoise_50 ?_
          refine lv_iload hx hb dX2_bestPoise_53 (lv_at hl 0 rfl) ?_
          refine lv_iload_n hx hb dX2_bestPoise_55 rfl (lv_at hl 4 rfl) ?_
          refine xk_calliE ([]) (fun v : XBr => [cX h qb qt] ++ wB I qb b ++ wB I qt v) [0, 1, 2, 3, 4, 5, 6, 7, 8, 9, 10, 11, 12, 13, 14, 15, 16, 17, 18] [] [0, 1, 2, 3, 4, 5, 6, 7, 8, 9, 10, 11, 12, 13, 14, 15, 16, 17, 18] hP hD hS hA (va_runV (As := [.int (b.1 4), .int (nI k), .int mi]) (rest := []) ⟨hx, hb, hml, hown, hts⟩ (c_X2_waitWith l D I h qb qt H.size b z (b.1 4) (nI k) mi hn hm1 hm2 hz hs1 hs2) (cwV 3 hts gX2_bestPoise_X2_waitWith rfl rfl rfl (by decide +kernel) ⟨Nat.le_of_ble_eq_true rfl, Nat.le_of_ble_eq_true rfl⟩) (xk_preV (wc := [cX h qb qt] ++ wB I qb b ++ wB I qt z) (q0 := 0) (ci := 2) hN hP hK hD [0, 1, 2, 3, 4, 5, 6, 7, 8, 9, 10, 11, 12, 13, 14, 15, 16, 17, 18] rfl rfl rfl rfl) rfl rfl hl.1 rfl (lv_room (Nat.le_of_ble_eq_true rfl)) dX2_bestPoise_56 ⟨Nat.le_of_ble_eq_true rfl, Nat.le_of_ble_eq_true rfl⟩) rfl rfl rfl (by decide) rfl (fun _ => rfl) (fun z_2 H locs hP hD hS => ?_)
          have hP : va_P D vwCl ([cX h qb qt] ++ wB I qb b ++ wB I qt z_2) H := hP
          have hD : va_D A ([cX h qb qt] ++ wB I qb b ++ wB I qt z_2) := hD
          refine lv_istore (lv' := [(5, .int (r_X2_waitWith b (b.1 4) (nI k) mi)), (4, .int (nI k)), (3, .int f), (2, .int bs), (0, .ref h), (1, .int mi)]) hx hb dX2_bestPoise_59 hl (by decide) rfl (fun ls hl => ?_)
          refine lv_iload hx hb dX2_bestPoise_61 (lv_at hl 0 rfl) ?_
          refine lv_iload_n hx hb dX2_bestPoise_63 rfl (lv_at hl 2 rfl) ?_
          refine lv_icmp_ge (tgt := 73) hx hb dX2_bestPoise_64 (by decide) (fun c_4 => ?_) (fun c_4 => ?_)
          · refine lv_iinc (v := (nI (k + 1))) (lv' := [(4, .int (nI (k + 1))), (5, .int (r_X2_waitWith b (b.1 4) (nI k) mi)), (3, .int f), (2, .int bs), (0, .ref h), (1, .int mi)]) hx hb dX2_bestPoise_73 hl (k := 1) rfl (nI_succ k).symm (by decide) rfl (fun ls hl => ?_)
            refine lv_goto (tgt := 38) hx hb dX2_bestPoise_76 (by decide) ?_
            have e7 : x_bp b mi (r + 1) k bs f = x_bp b mi r (k + 1) bs f := by rw [x_bp, if_pos c_4]
            rw [e7]
            exact ih (k + 1) _ _ _ (by omega) _ _ hP hD hS ls (lv_sub hl [0, 2, 3, 4, 5] rfl)
          · refine lv_iload hx hb dX2_bestPoise_67 (lv_at hl 0 rfl) ?_
            refine lv_istore_n (lv' := [(3, .int (r_X2_waitWith b (b.1 4) (nI k) mi)), (5, .int (r_X2_waitWith b (b.1 4) (nI k) mi)), (4, .int (nI k)), (2, .int bs), (0, .ref h), (1, .int mi)]) hx hb dX2_bestPoise_69 rfl hl (by decide) rfl (fun ls hl => ?_)
            refine lv_iload hx hb dX2_bestPoise_70 (lv_at hl 2 rfl) ?_
            refine lv_istore_n (lv' := [(2, .int (nI k)), (3, .int (r_X2_waitWith b (b.1 4) (nI k) mi)), (5, .int (r_X2_waitWith b (b.1 4) (nI k) mi)), (4, .int (nI k)), (0, .ref h), (1, .int mi)]) hx hb dX2_bestPoise_72 rfl hl (by decide) rfl (fun ls hl => ?_)
            refine lv_iinc (v := (nI (k + 1))) (lv' := [(4, .int (nI (k + 1))), (2, .int (nI k)), (3, .int (r_X2_waitWith b (b.1 4) (nI k) mi)), (5, .int (r_X2_waitWith b (b.1 4) (nI k) mi)), (0, .ref h), (1, .int mi)]) hx hb dX2_bestPoise_73 hl (k := 3) rfl (nI_succ k).symm (by decide) rfl (fun ls hl => ?_)
            refine lv_goto (tgt := 38) hx hb dX2_bestPoise_76 (by decide) ?_
            have e7 : x_bp b mi (r + 1) k bs f = x_bp b mi r (k + 1) (nI k) (r_X2_waitWith b (b.1 4) (nI k) mi) := by rw [x_bp, if_neg c_4]
            rw [e7]
            exact ih (k + 1) _ _ _ (by omega) _ _ hP hD hS ls (lv_sub hl [0, 2, 1, 4, 5] rfl)
    exact loop 30 1 _ _ z_1 (by omega) _ _ hP hD hS ls (lv_sub hl [0, 1, 2, 3, 4] rfl)
  · refine xk_throw (wf := fun (z : XBr) (v : XBr) => [cX h qb qt] ++ wB I qb z ++ wB I qt v) (u := b) (u1 := b) z (cls := eIA) (text := "minutes is not 1 to 240") (ik := 19) (is := 119) (ic := 23) hx hb hlt hown (by decide +kernel) w_3 w_4 (by decide) (fun w h => hts w (List.mem_cons_of_mem _ (List.mem_append_right _ h))) (by decide +kernel) (by decide +kernel) hXX hP hK hD hS (hl.1.trans hml.symm) dX2_bestPoise_7 dX2_bestPoise_10 dX2_bestPoise_11 dX2_bestPoise_13 dX2_bestPoise_16 hex (Nat.le_of_ble_eq_true rfl) (Nat.le_of_ble_eq_true rfl) (Nat.le_of_ble_eq_true rfl) (Nat.le_of_ble_eq_true rfl) hlocks (Nat.le_of_ble_eq_true rfl) (Nat.le_of_ble_eq_true rfl) ?_ ?_
    · unfold x_X2_bestPoise; rw [if_pos c_1]; decide
    · rfl

def x_d1 (b : XBr) : Nat → Int64
  | 0 => 1021
  | k + 1 => x_d1 b k * 31 + (r_X0_total b (nI k)).toInt64
def x_d3i (b : XBr) (k : Nat) (d : Int64) : Nat → Int64
  | 0 => d
  | j + 1 => x_d3i b k d j * 31 + (r_X0_factOf b (nI k) (nI j)).toInt64
def x_d3 (b : XBr) (d : Int64) : Nat → Int64
  | 0 => d
  | k + 1 => x_d3i b k (x_d3 b d k) 7
def r_X2_digest (b : XBr) : Int64 := x_d3 b (m_d2 b.2.1 (x_d1 b 12) 8) (b.2.2.1 0).toNatClampNeg

set_option maxHeartbeats 800000 in
set_option maxRecDepth 100000 in
theorem c_X2_digest (l : Launch) (D : va_G) (I : ClassId) (h : Nat) (qb qt : Nat → Nat) (sz : Nat) (b : XBr) (z : XBr) (hn : nOk (b.2.2.1 0)) : xMl l D [(I, .int)] yX2_digest wsX2_digest { frames := 4, cells := 0, slots := 0, locals := 74 } [.ref h] sz ([cX h qb qt] ++ wB I qb b ++ wB I qt z) (r_X2_digest b) ([cX h qb qt] ++ wB I qb b ++ wB I qt z) 0 0 := by
  refine xk_start (cc := cX2_digest) (maxL := 5) (ret := (some .long)) (Qf := fun A => xQl D [(I, .int)] A (r_X2_digest b) ([cX h qb qt] ++ wB I qb b ++ wB I qt z)) (by decide) rfl (Nat.le_of_ble_eq_true rfl) ?_
  intro p e s m below meth c A H ls hst hAe hsz hl
  obtain ⟨hx, hb, hr, hts, hown, hlocks, hml, hin, hN, hK, hP, hD, hA, hS⟩ := hst
  have hl : lv_has ls 5 [(0, .ref h)] := hl
  have hP : va_P D vwCl ([cX h qb qt] ++ wB I qb b ++ wB I qt z) H := hP
  have hinX2 : ∀ w ∈ u_ws RX2 TX2 2, w ∈ wsX2_digest := by decide +kernel
  have hinX0 : ∀ w ∈ u_ws RX0 TX0 11, w ∈ wsX2_digest := by decide +kernel
  have hinX1 : ∀ w ∈ u_ws RX1 TX1 12, w ∈ wsX2_digest := by decide +kernel
  have w_1 := hts (.constantLong RX2 144 (1021)) (by decide +kernel)
  have w_2 := hts (.fieldLink RX2 10 "BridgeBells" "bridge" "LBridgeBells$Bridge;") (by decide +kernel)
  have w_3 := hts (.fieldLink RX2 26 "BridgeBells$Bridge" "travellers" "LBridgeBells$Travellers;") (by decide +kernel)
  have w_4 := hts (.fieldLink RX2 30 "BridgeBells$Travellers" "number" "I") (by decide +kernel)
  have w_5 := hts (.constantLong RX2 146 (31)) (by decide +kernel)
  have w_6 := hts (.fieldLink RX2 90 "BridgeBells$Bridge" "cold" "[I") (by decide +kernel)
  have hN1 : b.2.2.1 0 = nI (b.2.2.1 0).toNatClampNeg := nOk_nI hn
  have hN40 : (b.2.2.1 0).toNatClampNeg ≤ 40 := nOk_le hn
  refine lv_ldc2 (v := (1021 : Int64)) hx hb hown w_1 dX2_digest_0 ?_
  refine lv_lstore_n (lv' := [(1, .long (1021 : Int64)), (0, .ref h)]) hx hb dX2_digest_3 rfl hl (by decide) rfl (fun ls hl => ?_)
  refine lv_iconst (v := (0 : Int32)) hx hb dX2_digest_4 (by decide) ?_
  refine lv_istore_n (lv' := [(3, .int (0 : Int32)), (1, .long (1021 : Int64)), (0, .ref h)]) hx hb dX2_digest_5 rfl hl (by decide) rfl (fun ls hl => ?_)
  have loop3 : ∀ (r k : Nat), r + k = (b.2.2.1 0).toNatClampNeg → ∀ (H : Heap) (locs : List Loc), va_P D vwCl ([cX h qb qt] ++ wB I qb b ++ wB I qt z) H → va_D A ([cX h qb qt] ++ wB I qb b ++ wB I qt z) → va_S A s.heap H locs → ∀ ls, lv_has ls 5 [(3, .int (nI k)), (1, .long (x_d3 b (m_d2 b.2.1 (x_d1 b 12) 8) k)), (0, .ref h)] → W p l e { frames := 4, cells := 0, slots := 0, locals := 74 } s m #[.ref h] below meth c H locs 0 0 (MQ below (xQl D [(I, .int)] A (r_X2_digest b) ([cX h qb qt] ++ wB I qb b ++ wB I qt z)) #[.ref h] s 0 0 A) (F0 m 67 ls []) := by
    intro r
    induction r with
    | zero =>
      intro k hk H locs hP hD hS ls hl
      refine lv_iload_n hx hb dX2_digest_67 rfl (lv_at hl 0 rfl) ?_
      refine lv_aload_n hx hb dX2_digest_68 rfl (lv_at hl 2 rfl) ?_
      refine va_get (D := D) (ci := 2) (v := .ref (qb 0)) (C := RX2) (T := TX2) (N := 2) hx hb hts hinX2 hown hK hP 0 rfl rfl 0 (by decide) w_2 (fun _ h9 => h9) rfl dX2_digest_69 ?_
      refine va_get (D := D) (ci := 0) (v := .ref (qb 2)) (C := RX0) (T := TX0) (N := 11) hx hb hts hinX0 hown hK hP 1 rfl rfl 7 (by decide) w_3 (fun _ h9 => h9) rfl dX2_digest_72 ?_
      refine va_get (D := D) (ci := 1) (v := .int (b.2.2.1 0)) (C := RX1) (T := TX1) (N := 12) hx hb hts hinX1 hown hK hP 3 rfl rfl 0 (by decide) w_4 (fun _ h9 => h9) rfl dX2_digest_75 ?_
      refine lv_icmp_ge (tgt := 121) hx hb dX2_digest_78 (by decide) (fun c_1 => ?_) (fun c_1 => ?_)
      · refine lv_lload_n hx hb dX2_digest_121 rfl (lv_at hl 1 rfl) ?_
        exact xk_lret (wf := fun z : XBr × XBr => [cX h qb qt] ++ wB I qb z.1 ++ wB I qt z.2) (u := (b, z)) (u1 := (b, z)) hx hb hr hlocks hP hK hD hS (by show _ = x_d3 b (m_d2 b.2.1 (x_d1 b 12) 8) (b.2.2.1 0).toNatClampNeg; rw [show k = (b.2.2.1 0).toNatClampNeg by omega]) rfl dX2_digest_122
      · exact absurd (by rw [hN1]; exact nI_le (by omega) (by omega)) c_1
    | succ r ih =>
      intro k hk H locs hP hD hS ls hl
      refine lv_iload_n hx hb dX2_digest_67 rfl (lv_at hl 0 rfl) ?_
      refine lv_aload_n hx hb dX2_digest_68 rfl (lv_at hl 2 rfl) ?_
      refine va_get (D := D) (ci := 2) (v := .ref (qb 0)) (C := RX2) (T := TX2) (N := 2) hx hb hts hinX2 hown hK hP 0 rfl rfl 0 (by decide) w_2 (fun _ h9 => h9) rfl dX2_digest_69 ?_
      refine va_get (D := D) (ci := 0) (v := .ref (qb 2)) (C := RX0) (T := TX0) (N := 11) hx hb hts hinX0 hown hK hP 1 rfl rfl 7 (by decide) w_3 (fun _ h9 => h9) rfl dX2_digest_72 ?_
      refine va_get (D := D) (ci := 1) (v := .int (b.2.2.1 0)) (C := RX1) (T := TX1) (N := 12) hx hb hts hinX1 hown hK hP 3 rfl rfl 0 (by decide) w_4 (fun _ h9 => h9) rfl dX2_digest_75 ?_
      refine lv_icmp_ge (tgt := 121) hx hb dX2_digest_78 (by decide) (fun c_2 => ?_) (fun c_2 => ?_)
      · exact absurd c_2 (by rw [hN1]; exact nI_ge (by omega) (by omega))
      · refine lv_iconst (v := (0 : Int32)) hx hb dX2_digest_81 (by decide) ?_
        refine lv_istore (lv' := [(4, .int (0 : Int32)), (3, .int (nI k)), (1, .long (x_d3 b (m_d2 b.2.1 (x_d1 b 12) 8) k)), (0, .ref h)]) hx hb dX2_digest_82 hl (by decide) rfl (fun ls hl => ?_)
        have inner : ∀ (r2 j : Nat), r2 + j = 7 → ∀ (H : Heap) (locs : List Loc), va_P D vwCl ([cX h qb qt] ++ wB I qb b ++ wB I qt z) H → va_D A ([cX h qb qt] ++ wB I qb b ++ wB I qt z) → va_S A s.heap H locs → ∀ ls, lv_has ls 5 [(4, .int (nI j)), (1, .long (x_d3i b k (x_d3 b (m_d2 b.2.1 (x_d1 b 12) 8) k) j)), (3, .int (nI k)), (0, .ref h)] → W p l e { frames := 4, cells := 0, slots := 0, locals := 74 } s m #[.ref h] below meth c H locs 0 0 (MQ below (xQl D [(I, .int)] A (r_X2_digest b) ([cX h qb qt] ++ wB I qb b ++ wB I qt z)) #[.ref h] s 0 0 A) (F0 m 84 ls []) := by
          intro r2
          induction r2 with
          | zero =>
            intro j hj H locs hP hD hS ls hl
            have hj7 : j = 7 := by omega
            subst hj7
            refine lv_iload hx hb dX2_digest_84 (lv_at hl 0 rfl) ?_
            refine lv_bipush (v := (7 : Int32)) hx hb dX2_digest_86 (by decide) ?_
            refine lv_icmp_ge (tgt := 115) hx hb dX2_digest_88 (by decide) (fun c_3 => ?_) (fun c_3 => ?_)
            · refine lv_iinc (v := (nI (k + 1))) (lv' := [(3, .int (nI (k + 1))), (4, .int (nI 7)), (1, .long (x_d3i b k (x_d3 b (m_d2 b.2.1 (x_d1 b 12) 8) k) 7)), (0, .ref h)]) hx hb dX2_digest_115 hl (k := 2) rfl (nI_succ k).symm (by decide) rfl (fun ls hl => ?_)
              refine lv_goto (tgt := 67) hx hb dX2_digest_118 (by decide) ?_
              exact ih (k + 1) (by omega) _ _ hP hD hS ls (lv_sub hl [0, 2, 3] rfl)
            · exact absurd (le_nI (n := 7) (k := 7) (j := 7) (by decide) (by omega) (by omega)) c_3
          | succ r2 ih2 =>
            intro j hj H locs hP hD hS ls hl
            refine lv_iload hx hb dX2_digest_84 (lv_at hl 0 rfl) ?_
            refine lv_bipush (v := (7 : Int32)) hx hb dX2_digest_86 (by decide) ?_
            refine lv_icmp_ge (tgt := 115) hx hb dX2_digest_88 (by decide) (fun c_4 => ?_) (fun c_4 => ?_)
            · exact absurd c_4 (nle_nI (n := 7) (k := 7) (j := j) (by decide) (by omega) (by omega))
            · refine lv_lload_n hx hb dX2_digest_91 rfl (lv_at hl 1 rfl) ?_
              refine lv_ldc2 (v := (31 : Int64)) hx hb hown w_5 dX2_digest_92 ?_
              refine lv_lmul hx hb dX2_digest_95 ?_
              refine lv_aload_n hx hb dX2_digest_96 rfl (lv_at hl 3 rfl) ?_
              refine va_get (D := D) (ci := 2) (v := .ref (qb 0)) (C := RX2) (T := TX2) (N := 2) hx hb hts hinX2 hown hK hP 0 rfl rfl 0 (by decide) w_2 (fun _ h9 => h9) rfl dX2_digest_97 ?_
              refine lv_iload_n hx hb dX2_digest_100 rfl (lv_at hl 2 rfl) ?_
              refine lv_iload hx hb dX2_digest_101 (lv_at hl 0 rfl) ?_
              refine xk_calli ([cX h qb qt, cXB qt z.1, cA I (qt 1) 8 z.2.1, cXT qt z.2.2.1, cA I (qt 3) 40 (z.2.2.2 0), cA I (qt 4) 40 (z.2.2.2 1), cA I (qt 5) 40 (z.2.2.2 2), cA I (qt 6) 40 (z.2.2.2 3), cA I (qt 7) 40 (z.2.2.2 4), cA I (qt 8) 40 (z.2.2.2 5)]) ([cX h qb qt] ++ wB I qb b ++ wB I qt z) [1, 2, 3, 4, 5, 6, 7, 8, 9] [0, 10, 11, 12, 13, 14, 15, 16, 17, 18] [0, 10, 11, 12, 13, 14, 15, 16, 17, 18, 1, 2, 3, 4, 5, 6, 7, 8, 9] hP hD hS hA (va_runV (As := [.int (nI k), .int (nI j)]) (rest := [.long ((x_d3i b k (x_d3 b (m_d2 b.2.1 (x_d1 b 12) 8) k) j) * (31 : Int64))]) ⟨hx, hb, hml, hown, hts⟩ (c_X0_factOf l D I qb H.size b (nI k) (nI j) (in_nI (k := k) (by omega) hN40)) (cwV 2 hts gX2_digest_X0_factOf rfl rfl rfl (by decide +kernel) ⟨Nat.le_of_ble_eq_true rfl, Nat.le_of_ble_eq_true rfl⟩) (xk_preV (wc := wB I qb b) (q0 := 1) (ci := 0) hN hP hK hD [1, 2, 3, 4, 5, 6, 7, 8, 9] rfl rfl rfl rfl) rfl rfl hl.1 rfl (lv_room (Nat.le_of_ble_eq_true rfl)) dX2_digest_103 ⟨Nat.le_of_ble_eq_true rfl, Nat.le_of_ble_eq_true rfl⟩) rfl rfl rfl (by decide) rfl rfl (fun H locs hP hD hS => ?_)
              refine lv_i2l (v := (r_X0_factOf b (nI k) (nI j)).toInt64) hx hb dX2_digest_106 rfl ?_
              refine lv_ladd hx hb dX2_digest_107 ?_
              refine lv_lstore_n (lv' := [(1, .long (((x_d3i b k (x_d3 b (m_d2 b.2.1 (x_d1 b 12) 8) k) j) * (31 : Int64)) + (r_X0_factOf b (nI k) (nI j)).toInt64)), (4, .int (nI j)), (3, .int (nI k)), (0, .ref h)]) hx hb dX2_digest_108 rfl hl (by decide) rfl (fun ls hl => ?_)
              refine lv_iinc (v := (nI (j + 1))) (lv' := [(4, .int (nI (j + 1))), (1, .long (((x_d3i b k (x_d3 b (m_d2 b.2.1 (x_d1 b 12) 8) k) j) * (31 : Int64)) + (r_X0_factOf b (nI k) (nI j)).toInt64)), (3, .int (nI k)), (0, .ref h)]) hx hb dX2_digest_109 hl (k := 1) rfl (nI_succ j).symm (by decide) rfl (fun ls hl => ?_)
              refine lv_goto (tgt := 84) hx hb dX2_digest_112 (by decide) ?_
              exact ih2 (j + 1) (by omega) _ _ hP hD hS ls (lv_sub hl [0, 1, 2, 3] rfl)
        exact inner 7 0 (by omega) _ _ hP hD hS ls (lv_sub hl [0, 2, 1, 3] rfl)
  have loop2 : ∀ (r k : Nat), r + k = 8 → ∀ (H : Heap) (locs : List Loc), va_P D vwCl ([cX h qb qt] ++ wB I qb b ++ wB I qt z) H → va_D A ([cX h qb qt] ++ wB I qb b ++ wB I qt z) → va_S A s.heap H locs → ∀ ls, lv_has ls 5 [(3, .int (nI k)), (1, .long (m_d2 b.2.1 (x_d1 b 12) k)), (0, .ref h)] → W p l e { frames := 4, cells := 0, slots := 0, locals := 74 } s m #[.ref h] below meth c H locs 0 0 (MQ below (xQl D [(I, .int)] A (r_X2_digest b) ([cX h qb qt] ++ wB I qb b ++ wB I qt z)) #[.ref h] s 0 0 A) (F0 m 36 ls []) := by
    intro r
    induction r with
    | zero =>
      intro k hk H locs hP hD hS ls hl
      have hk8 : k = 8 := by omega
      subst hk8
      refine lv_iload_n hx hb dX2_digest_36 rfl (lv_at hl 0 rfl) ?_
      refine lv_bipush (v := (8 : Int32)) hx hb dX2_digest_37 (by decide) ?_
      refine lv_icmp_ge (tgt := 65) hx hb dX2_digest_39 (by decide) (fun c_5 => ?_) (fun c_5 => ?_)
      · refine lv_iconst (v := (0 : Int32)) hx hb dX2_digest_65 (by decide) ?_
        refine lv_istore_n (lv' := [(3, .int (0 : Int32)), (1, .long (m_d2 b.2.1 (x_d1 b 12) 8)), (0, .ref h)]) hx hb dX2_digest_66 rfl hl (by decide) rfl (fun ls hl => ?_)
        exact loop3 (b.2.2.1 0).toNatClampNeg 0 (by omega) _ _ hP hD hS ls (lv_sub hl [0, 1, 2] rfl)
      · exact absurd (le_nI (n := 8) (k := 8) (j := 8) (by decide) (by omega) (by omega)) c_5
    | succ r ih =>
      intro k hk H locs hP hD hS ls hl
      refine lv_iload_n hx hb dX2_digest_36 rfl (lv_at hl 0 rfl) ?_
      refine lv_bipush (v := (8 : Int32)) hx hb dX2_digest_37 (by decide) ?_
      refine lv_icmp_ge (tgt := 65) hx hb dX2_digest_39 (by decide) (fun c_6 => ?_) (fun c_6 => ?_)
      · exact absurd c_6 (nle_nI (n := 8) (k := 8) (j := k) (by decide) (by omega) (by omega))
      · refine lv_lload_n hx hb dX2_digest_42 rfl (lv_at hl 1 rfl) ?_
        refine lv_ldc2 (v := (31 : Int64)) hx hb hown w_5 dX2_digest_43 ?_
        refine lv_lmul hx hb dX2_digest_46 ?_
        refine lv_aload_n hx hb dX2_digest_47 rfl (lv_at hl 2 rfl) ?_
        refine va_get (D := D) (ci := 2) (v := .ref (qb 0)) (C := RX2) (T := TX2) (N := 2) hx hb hts hinX2 hown hK hP 0 rfl rfl 0 (by decide) w_2 (fun _ h9 => h9) rfl dX2_digest_48 ?_
        refine va_get (D := D) (ci := 0) (v := .ref (qb 1)) (C := RX0) (T := TX0) (N := 11) hx hb hts hinX0 hown hK hP 1 rfl rfl 6 (by decide) w_6 (fun _ h9 => h9) rfl dX2_digest_51 ?_
        refine lv_iload_n hx hb dX2_digest_54 rfl (lv_at hl 0 rfl) ?_
        refine va_iald (f := b.2.1) hx hb hK hP 2 0 rfl rfl (show vp_in (nI k) 8 from (vp_in_nI (n := k) (by omega) (by omega))) dX2_digest_55 ?_
        refine W.eq (congrArg (fun z => F0 m 56 ls (.int (b.2.1 z) :: [.long ((m_d2 b.2.1 (x_d1 b 12) k) * (31 : Int64))])) (nI_clamp (n := k) (by omega))) ?_
        refine lv_i2l (v := (b.2.1 k).toInt64) hx hb dX2_digest_56 rfl ?_
        refine lv_ladd hx hb dX2_digest_57 ?_
        refine lv_lstore_n (lv' := [(1, .long (((m_d2 b.2.1 (x_d1 b 12) k) * (31 : Int64)) + (b.2.1 k).toInt64)), (3, .int (nI k)), (0, .ref h)]) hx hb dX2_digest_58 rfl hl (by decide) rfl (fun ls hl => ?_)
        refine lv_iinc (v := (nI (k + 1))) (lv' := [(3, .int (nI (k + 1))), (1, .long (((m_d2 b.2.1 (x_d1 b 12) k) * (31 : Int64)) + (b.2.1 k).toInt64)), (0, .ref h)]) hx hb dX2_digest_59 hl (k := 1) rfl (nI_succ k).symm (by decide) rfl (fun ls hl => ?_)
        refine lv_goto (tgt := 36) hx hb dX2_digest_62 (by decide) ?_
        exact ih (k + 1) (by omega) _ _ hP hD hS ls (lv_sub hl [0, 1, 2] rfl)
  have loop1 : ∀ (r k : Nat), r + k = 12 → ∀ (H : Heap) (locs : List Loc), va_P D vwCl ([cX h qb qt] ++ wB I qb b ++ wB I qt z) H → va_D A ([cX h qb qt] ++ wB I qb b ++ wB I qt z) → va_S A s.heap H locs → ∀ ls, lv_has ls 5 [(3, .int (nI k)), (1, .long (x_d1 b k)), (0, .ref h)] → W p l e { frames := 4, cells := 0, slots := 0, locals := 74 } s m #[.ref h] below meth c H locs 0 0 (MQ below (xQl D [(I, .int)] A (r_X2_digest b) ([cX h qb qt] ++ wB I qb b ++ wB I qt z)) #[.ref h] s 0 0 A) (F0 m 6 ls []) := by
    intro r
    induction r with
    | zero =>
      intro k hk H locs hP hD hS ls hl
      have hk8 : k = 12 := by omega
      subst hk8
      refine lv_iload_n hx hb dX2_digest_6 rfl (lv_at hl 0 rfl) ?_
      refine lv_bipush (v := (12 : Int32)) hx hb dX2_digest_7 (by decide) ?_
      refine lv_icmp_ge (tgt := 34) hx hb dX2_digest_9 (by decide) (fun c_7 => ?_) (fun c_7 => ?_)
      · refine lv_iconst (v := (0 : Int32)) hx hb dX2_digest_34 (by decide) ?_
        refine lv_istore_n (lv' := [(3, .int (0 : Int32)), (1, .long (x_d1 b 12)), (0, .ref h)]) hx hb dX2_digest_35 rfl hl (by decide) rfl (fun ls hl => ?_)
        exact loop2 8 0 (by omega) _ _ hP hD hS ls (lv_sub hl [0, 1, 2] rfl)
      · exact absurd (le_nI (n := 12) (k := 12) (j := 12) (by decide) (by omega) (by omega)) c_7
    | succ r ih =>
      intro k hk H locs hP hD hS ls hl
      refine lv_iload_n hx hb dX2_digest_6 rfl (lv_at hl 0 rfl) ?_
      refine lv_bipush (v := (12 : Int32)) hx hb dX2_digest_7 (by decide) ?_
      refine lv_icmp_ge (tgt := 34) hx hb dX2_digest_9 (by decide) (fun c_8 => ?_) (fun c_8 => ?_)
      · exact absurd c_8 (nle_nI (n := 12) (k := 12) (j := k) (by decide) (by omega) (by omega))
      · refine lv_lload_n hx hb dX2_digest_12 rfl (lv_at hl 1 rfl) ?_
        refine lv_ldc2 (v := (31 : Int64)) hx hb hown w_5 dX2_digest_13 ?_
        refine lv_lmul hx hb dX2_digest_16 ?_
        refine lv_aload_n hx hb dX2_digest_17 rfl (lv_at hl 2 rfl) ?_
        refine va_get (D := D) (ci := 2) (v := .ref (qb 0)) (C := RX2) (T := TX2) (N := 2) hx hb hts hinX2 hown hK hP 0 rfl rfl 0 (by decide) w_2 (fun _ h9 => h9) rfl dX2_digest_18 ?_
        refine lv_iload_n hx hb dX2_digest_21 rfl (lv_at hl 0 rfl) ?_
        refine xk_calli ([cX h qb qt, cXB qt z.1, cA I (qt 1) 8 z.2.1, cXT qt z.2.2.1, cA I (qt 3) 40 (z.2.2.2 0), cA I (qt 4) 40 (z.2.2.2 1), cA I (qt 5) 40 (z.2.2.2 2), cA I (qt 6) 40 (z.2.2.2 3), cA I (qt 7) 40 (z.2.2.2 4), cA I (qt 8) 40 (z.2.2.2 5)]) ([cX h qb qt] ++ wB I qb b ++ wB I qt z) [1, 2, 3, 4, 5, 6, 7, 8, 9] [0, 10, 11, 12, 13, 14, 15, 16, 17, 18] [0, 10, 11, 12, 13, 14, 15, 16, 17, 18, 1, 2, 3, 4, 5, 6, 7, 8, 9] hP hD hS hA (va_runV (As := [.int (nI k)]) (rest := [.long ((x_d1 b k) * (31 : Int64))]) ⟨hx, hb, hml, hown, hts⟩ (c_X0_total l D I qb H.size b (nI k) ) (cwV 1 hts gX2_digest_X0_total rfl rfl rfl (by decide +kernel) ⟨Nat.le_of_ble_eq_true rfl, Nat.le_of_ble_eq_true rfl⟩) (xk_preV (wc := wB I qb b) (q0 := 1) (ci := 0) hN hP hK hD [1, 2, 3, 4, 5, 6, 7, 8, 9] rfl rfl rfl rfl) rfl rfl hl.1 rfl (lv_room (Nat.le_of_ble_eq_true rfl)) dX2_digest_22 ⟨Nat.le_of_ble_eq_true rfl, Nat.le_of_ble_eq_true rfl⟩) rfl rfl rfl (by decide) rfl rfl (fun H locs hP hD hS => ?_)
        refine lv_i2l (v := (r_X0_total b (nI k)).toInt64) hx hb dX2_digest_25 rfl ?_
        refine lv_ladd hx hb dX2_digest_26 ?_
        refine lv_lstore_n (lv' := [(1, .long (((x_d1 b k) * (31 : Int64)) + (r_X0_total b (nI k)).toInt64)), (3, .int (nI k)), (0, .ref h)]) hx hb dX2_digest_27 rfl hl (by decide) rfl (fun ls hl => ?_)
        refine lv_iinc (v := (nI (k + 1))) (lv' := [(3, .int (nI (k + 1))), (1, .long (((x_d1 b k) * (31 : Int64)) + (r_X0_total b (nI k)).toInt64)), (0, .ref h)]) hx hb dX2_digest_28 hl (k := 1) rfl (nI_succ k).symm (by decide) rfl (fun ls hl => ?_)
        refine lv_goto (tgt := 6) hx hb dX2_digest_31 (by decide) ?_
        exact ih (k + 1) (by omega) _ _ hP hD hS ls (lv_sub hl [0, 1, 2] rfl)
  exact loop1 12 0 (by omega) _ _ hP hD hS ls (lv_sub hl [0, 1, 2] rfl)
end
section
section XK4
abbrev xMvE (l : Launch) (D : va_G) (tys : List (ClassId × FieldType)) (y : MethodName) (ws : List Cond) (rm : Room) (av : List Value) (sz : Nat) (wc : va_W) (V : Type) (wf : V → va_W) (mc ms : Nat) := Met l y ws rm (xPc D tys av sz wc) (va_Qv (fun _ : V => True) (fun v => xB D tys (va_A wc sz) (wf v)) (va_A wc sz)) mc ms (va_A wc sz)
variable {p : Program} {l : Launch} {e : Env} {R : Room} {s : State} {m : MethodId} {args : Array Value} {below : List Frame} {meth : Method} {c : Code} {H : Heap} {locs : List Loc} {cells slots : Nat} {Q : State → Prop}
variable {cc : ByteArray} {pc : Nat} {ls : Array Slot} {rest st0 : List Value} {D : va_G} {tys : List (ClassId × FieldType)} {A : Nat → Prop} {H0 : Heap}
theorem xk_vretE {V : Type} {wf : V → va_W} (v0 : V) (hx : p.tables.exec = Jvm.exec) (hb : c.code = cc) (hr : meth.sig.returnType = none) (hlocks : meth.locks = false) (hP : va_P D vwCl (wf v0) H) (hK : va_K D vwCl tys s) (hD : va_D A (wf v0)) (hS : va_S A s.heap H locs) (hdg : decode cc pc = .ok (.return_, 1)) :
    W p l e R s m args below meth c H locs cells slots (MQ below (va_Qv (fun _ : V => True) (fun v => xB D tys A (wf v)) A) args s cells slots A) (F0 m pc ls []) :=
  W.vret hx hb hr (fun t ht hW => ⟨⟨v0, rfl, trivial, by rw [ht]; exact hP, va_K.moved hW.alike hK, hD⟩, hS.F ht⟩) hS.2.2 hdg hlocks
theorem xk_callvE {V : Type} {mc ms : Nat} {a9 : Array Value} {wsA wc : va_W} {w1 : V → va_W} (wr : va_W) (isC isR : List Nat) (hP : va_P D vwCl wsA H) (hD : va_D A wsA) (hS : va_S A H0 H locs) (hA : ∀ q, H0.size ≤ q → A q)
    (hr : va_Run p l e R s m args below meth c H locs cells slots mc ms (F0 m pc ls st0) rest (va_Qv (fun _ : V => True) (fun v => xB D tys (va_A wc H.size) (w1 v)) (va_A wc H.size) a9) (va_A wc H.size))
    (hC : isC.map (fun i => wsA[i]?) = wc.map some) (hR : isR.map (fun i => wsA[i]?) = wr.map some) (hn : va_nd isR = true) (hdis : ∀ i ∈ isR, i ∉ isC)
    (kk : ∀ (v : V) (H1 : Heap) (locs1 : List Loc), va_P D vwCl (wr ++ w1 v) H1 → va_D A (wr ++ w1 v) → va_S A H0 H1 locs1 → W p l e R s m args below meth c H1 locs1 (cells + mc) (slots + ms) Q (F0 m (pc + 3) ls rest)) : W p l e R s m args below meth c H locs cells slots Q (F0 m pc ls st0) := by
  have hF := va_free (wc := wc) hD hS hA isC hC
  refine va_callv hr hS (fun q _ h => hF q h) hF (fun u t H1 locs1 ht hvm hw hB hz1 hk1 hS1 => ?_)
  obtain ⟨hP1, hK1, hD1⟩ := hB
  rw [ht] at hP1
  obtain ⟨h1, h2⟩ := va_join (wr := wr) (w1 := w1 u) hP hD isC isR hC hR hn hdis hk1 hF hP1 hD1
  exact kk u H1 locs1 h1 h2 hS1
end XK4
/-! what stands behind the constructors -/
abbrev qT (h : Nat) (v : Nat → Nat) : Nat → Nat := fun j => if j = 2 then h else v j
abbrev qB (h : Nat) (v : Nat → Nat) : Nat → Nat := fun j => if j = 0 then h else v j
def T0 : XT := (fun j => if j = 4 then -1 else if j = 5 then -1 else 0, fun _ _ => 0)
def B0 : XBr := (fun j => if j = 2 then 15 else if j = 6 then -1 else 0, fun _ => 0, T0)
def S0 : MS := (fun j => if j = 2 then 15 else if j = 5 then -1 else 0, fun _ _ => 0)
def O0 : MO := (fun _ => 0, fun _ _ => 0)

set_option maxHeartbeats 1600000 in
set_option maxRecDepth 100000 in
theorem c_X1_init (l : Launch) (D : va_G) (I : ClassId) (h : Nat) (sz : Nat) : xMvE l D [(I, .int)] yX1_init wsX1_init { frames := 1, cells := 6, slots := 240, locals := 12 } [.ref h] sz ([(h, .inr (1, [.int (0 : Int32), .int (0 : Int32), .int (0 : Int32), .int (0 : Int32), .null, .null, .null, .null, .null, .null, .int (0 : Int32), .int (0 : Int32)]))]) (Nat → Nat) (fun v : Nat → Nat => wT I (qT h v) T0) 6 240 := by
  refine xk_start (cc := cX1_init) (maxL := 1) (ret := none) (Qf := fun A => va_Qv (fun _ : Nat → Nat => True) (fun v => xB D [(I, .int)] A ((fun v : Nat → Nat => wT I (qT h v) T0) v)) A) (by decide) rfl (Nat.le_of_ble_eq_true rfl) ?_
  intro p e s m below meth c A H ls hst hAe hsz hl
  obtain ⟨hx, hb, hr, hts, hown, hlocks, hml, hin, hN, hK, hP, hD, hA, hS⟩ := hst
  have hl : lv_has ls 1 [(0, .ref h)] := hl
  have hP : va_P D vwCl ([(h, .inr (1, [.int (0 : Int32), .int (0 : Int32), .int (0 : Int32), .int (0 : Int32), .null, .null, .null, .null, .null, .null, .int (0 : Int32), .int (0 : Int32)]))]) H := hP
  have hinX1 : ∀ w ∈ u_ws RX1 TX1 12, w ∈ wsX1_init := by decide +kernel
  have w_1 := hts (.methodLink RX1 3 objectInit) (by decide +kernel)
  have w_2 := hts (.instanceMethod objectInit) (by decide +kernel)
  have w_3 := hts (.code objectInit ⟨#[0xb1]⟩ 1 none) (by decide +kernel)
  have w_4 := hts (.fieldLink RX1 9 "BridgeBells$Travellers" "number" "I") (by decide +kernel)
  have w_5 := hts (.fieldLink RX1 15 "BridgeBells$Travellers" "passed" "I") (by decide +kernel)
  have w_6 := hts (.fieldLink RX1 18 "BridgeBells$Travellers" "bargesWaiting" "I") (by decide +kernel)
  have w_7 := hts (.fieldLink RX1 21 "BridgeBells$Travellers" "cartsWaiting" "I") (by decide +kernel)
  have w_8 := hts (.arrayClass .int) (by decide +kernel)
  have w_9 := hts (.fieldLink RX1 24 "BridgeBells$Travellers" "barge" "[I") (by decide +kernel)
  have w_10 := hts (.fieldLink RX1 28 "BridgeBells$Travellers" "needs" "[I") (by decide +kernel)
  have w_11 := hts (.fieldLink RX1 31 "BridgeBells$Travellers" "state" "[I") (by decide +kernel)
  have w_12 := hts (.fieldLink RX1 34 "BridgeBells$Travellers" "came" "[I") (by decide +kernel)
  have w_13 := hts (.fieldLink RX1 37 "BridgeBells$Travellers" "passedIn" "[I") (by decide +kernel)
  have w_14 := hts (.fieldLink RX1 40 "BridgeBells$Travellers" "waitEnd" "[I") (by decide +kernel)
  have w_15 := hts (.fieldLink RX1 43 "BridgeBells$Travellers" "firstBarge" "I") (by decide +kernel)
  have w_16 := hts (.fieldLink RX1 46 "BridgeBells$Travellers" "firstCart" "I") (by decide +kernel)
  refine lv_aload_n hx hb dX1_init_0 rfl (lv_at hl 0 rfl) ?_
  refine W.objInit hx hb hown w_1 w_2 w_3 rfl (by rw [hml]; exact hl.1) rfl dX1_init_1 (Nat.le_of_ble_eq_true rfl) (Nat.le_of_ble_eq_true rfl) ?_
  refine W.eq (g2 := F0 m 4 ls []) rfl ?_
  refine lv_aload_n hx hb dX1_init_4 rfl (lv_at hl 0 rfl) ?_
  refine lv_iconst (v := (0 : Int32)) hx hb dX1_init_5 (by decide) ?_
  refine va_put (D := D) (ci := 1) (v := .int (0 : Int32)) (ty := tyX1 0) (C := RX1) (T := TX1) (N := 12) hx hb hts hinX1 tyX1 tyX1_ok nmX1 hown hK hP hD hS 0 rfl rfl 0 (by decide) w_4 (fun _ h9 => h9) rfl (tyX1_ok 0 (by decide)) rfl rfl (Nat.le_of_ble_eq_true rfl) dX1_init_6 (fun H locs hP hD hS => ?_)
  have hP : va_P D vwCl ([(h, .inr (1, [.int (0 : Int32), .int (0 : Int32), .int (0 : Int32), .int (0 : Int32), .null, .null, .null, .null, .null, .null, .int (0 : Int32), .int (0 : Int32)]))]) H := hP
  have hD : va_D A ([(h, .inr (1, [.int (0 : Int32), .int (0 : Int32), .int (0 : Int32), .int (0 : Int32), .null, .null, .null, .null, .null, .null, .int (0 : Int32), .int (0 : Int32)]))]) := hD
  refine lv_aload_n hx hb dX1_init_9 rfl (lv_at hl 0 rfl) ?_
  refine lv_iconst (v := (0 : Int32)) hx hb dX1_init_10 (by decide) ?_
  refine va_put (D := D) (ci := 1) (v := .int (0 : Int32)) (ty := tyX1 1) (C := RX1) (T := TX1) (N := 12) hx hb hts hinX1 tyX1 tyX1_ok nmX1 hown hK hP hD hS 0 rfl rfl 1 (by decide) w_5 (fun _ h9 => h9) rfl (tyX1_ok 1 (by decide)) rfl rfl (Nat.le_of_ble_eq_true rfl) dX1_init_11 (fun H locs hP hD hS => ?_)
  have hP : va_P D vwCl ([(h, .inr (1, [.int (0 : Int32), .int (0 : Int32), .int (0 : Int32), .int (0 : Int32), .null, .null, .null, .null, .null, .null, .int (0 : Int32), .int (0 : Int32)]))]) H := hP
  have hD : va_D A ([(h, .inr (1, [.int (0 : Int32), .int (0 : Int32), .int (0 : Int32), .int (0 : Int32), .null, .null, .null, .null, .null, .null, .int (0 : Int32), .int (0 : Int32)]))]) := hD
  refine lv_aload_n hx hb dX1_init_14 rfl (lv_at hl 0 rfl) ?_
  refine lv_iconst (v := (0 : Int32)) hx hb dX1_init_15 (by decide) ?_
  refine va_put (D := D) (ci := 1) (v := .int (0 : Int32)) (ty := tyX1 2) (C := RX1) (T := TX1) (N := 12) hx hb hts hinX1 tyX1 tyX1_ok nmX1 hown hK hP hD hS 0 rfl rfl 2 (by decide) w_6 (fun _ h9 => h9) rfl (tyX1_ok 2 (by decide)) rfl rfl (Nat.le_of_ble_eq_true rfl) dX1_init_16 (fun H locs hP hD hS => ?_)
  have hP : va_P D vwCl ([(h, .inr (1, [.int (0 : Int32), .int (0 : Int32), .int (0 : Int32), .int (0 : Int32), .null, .null, .null, .null, .null, .null, .int (0 : Int32), .int (0 : Int32)]))]) H := hP
  have hD : va_D A ([(h, .inr (1, [.int (0 : Int32), .int (0 : Int32), .int (0 : Int32), .int (0 : Int32), .null, .null, .null, .null, .null, .null, .int (0 : Int32), .int (0 : Int32)]))]) := hD
  refine lv_aload_n hx hb dX1_init_19 rfl (lv_at hl 0 rfl) ?_
  refine lv_iconst (v := (0 : Int32)) hx hb dX1_init_20 (by decide) ?_
  refine va_put (D := D) (ci := 1) (v := .int (0 : Int32)) (ty := tyX1 3) (C := RX1) (T := TX1) (N := 12) hx hb hts hinX1 tyX1 tyX1_ok nmX1 hown hK hP hD hS 0 rfl rfl 3 (by decide) w_7 (fun _ h9 => h9) rfl (tyX1_ok 3 (by decide)) rfl rfl (Nat.le_of_ble_eq_true rfl) dX1_init_21 (fun H locs hP hD hS => ?_)
  have hP : va_P D vwCl ([(h, .inr (1, [.int (0 : Int32), .int (0 : Int32), .int (0 : Int32), .int (0 : Int32), .null, .null, .null, .null, .null, .null, .int (0 : Int32), .int (0 : Int32)]))]) H := hP
  have hD : va_D A ([(h, .inr (1, [.int (0 : Int32), .int (0 : Int32), .int (0 : Int32), .int (0 : Int32), .null, .null, .null, .null, .null, .null, .int (0 : Int32), .int (0 : Int32)]))]) := hD
  refine lv_aload_n hx hb dX1_init_24 rfl (lv_at hl 0 rfl) ?_
  refine lv_bipush (v := (40 : Int32)) hx hb dX1_init_25 (by decide) ?_
  refine va_newa (atype := .int) (ty := .int) (a0 := (40, .inl (fun _ => 0))) hx hb w_8 rfl hK hP hD hS hA (fun _ => rfl) (by decide) (by decide) (by decide) (Nat.le_of_ble_eq_true rfl) (Nat.le_of_ble_eq_true rfl) dX1_init_27 (fun q_1 cN H hK9 hP hD hS => ?_)
  have eI := (xk_cA hK9).symm
  subst eI
  have hP : va_P D vwCl ([(h, .inr (1, [.int (0 : Int32), .int (0 : Int32), .int (0 : Int32), .int (0 : Int32), .null, .null, .null, .null, .null, .null, .int (0 : Int32), .int (0 : Int32)]))] ++ [cA I q_1 40 (fun _ => (0 : Int32))]) H := hP
  have hD : va_D A ([(h, .inr (1, [.int (0 : Int32), .int (0 : Int32), .int (0 : Int32), .int (0 : Int32), .null, .null, .null, .null, .null, .null, .int (0 : Int32), .int (0 : Int32)]))] ++ [cA I q_1 40 (fun _ => (0 : Int32))]) := hD
  refine va_putF (D := D) (ci := 1) (v := .ref q_1) (ty := tyX1 4) (C := RX1) (T := TX1) (N := 12) hx hb hts hinX1 tyX1 tyX1_ok nmX1 hown hK hP hD hS 0 rfl rfl 4 (by decide) w_9 (fun _ h9 => h9) rfl hin rfl (tyX1_ok 4 (by decide)) rfl rfl (Nat.le_of_ble_eq_true rfl) dX1_init_29 (fun H locs hP hD hS => ?_)
  have hP : va_P D vwCl ([(h, .inr (1, [.int (0 : Int32), .int (0 : Int32), .int (0 : Int32), .int (0 : Int32), .ref q_1, .null, .null, .null, .null, .null, .int (0 : Int32), .int (0 : Int32)]))] ++ [cA I q_1 40 (fun _ => (0 : Int32))]) H := hP
  have hD : va_D A ([(h, .inr (1, [.int (0 : Int32), .int (0 : Int32), .int (0 : Int32), .int (0 : Int32), .ref q_1, .null, .null, .null, .null, .null, .int (0 : Int32), .int (0 : Int32)]))] ++ [cA I q_1 40 (fun _ => (0 : Int32))]) := hD
  refine lv_aload_n hx hb dX1_init_32 rfl (lv_at hl 0 rfl) ?_
  refine lv_bipush (v := (40 : Int32)) hx hb dX1_init_33 (by decide) ?_
  refine va_newa (atype := .int) (ty := .int) (a0 := (40, .inl (fun _ => 0))) hx hb w_8 rfl hK hP hD hS hA (fun _ => rfl) (by decide) (by decide) (by decide) (Nat.le_of_ble_eq_true rfl) (Nat.le_of_ble_eq_true rfl) dX1_init_35 (fun q_2 cN H hK9 hP hD hS => ?_)
  have eI := (xk_cA hK9).symm
  subst eI
  have hP : va_P D vwCl ([(h, .inr (1, [.int (0 : Int32), .int (0 : Int32), .int (0 : Int32), .int (0 : Int32), .ref q_1, .null, .null, .null, .null, .null, .int (0 : Int32), .int (0 : Int32)]))] ++ [cA I q_1 40 (fun _ => (0 : Int32))] ++ [cA I q_2 40 (fun _ => (0 : Int32))]) H := hP
  have hD : va_D A ([(h, .inr (1, [.int (0 : Int32), .int (0 : Int32), .int (0 : Int32), .int (0 : Int32), .ref q_1, .null, .null, .null, .null, .null, .int (0 : Int32), .int (0 : Int32)]))] ++ [cA I q_1 40 (fun _ => (0 : Int32))] ++ [cA I q_2 40 (fun _ => (0 : Int32))]) := hD
  refine va_putF (D := D) (ci := 1) (v := .ref q_2) (ty := tyX1 5) (C := RX1) (T := TX1) (N := 12) hx hb hts hinX1 tyX1 tyX1_ok nmX1 hown hK hP hD hS 0 rfl rfl 5 (by decide) w_10 (fun _ h9 => h9) rfl hin rfl (tyX1_ok 5 (by decide)) rfl rfl (Nat.le_of_ble_eq_true rfl) dX1_init_37 (fun H locs hP hD hS => ?_)
  have hP : va_P D vwCl ([(h, .inr (1, [.int (0 : Int32), .int (0 : Int32), .int (0 : Int32), .int (0 : Int32), .ref q_1, .ref q_2, .null, .null, .null, .null, .int (0 : Int32), .int (0 : Int32)]))] ++ [cA I q_1 40 (fun _ => (0 : Int32))] ++ [cA I q_2 40 (fun _ => (0 : Int32))]) H := hP
  have hD : va_D A ([(h, .inr (1, [.int (0 : Int32), .int (0 : Int32), .int (0 : Int32), .int (0 : Int32), .ref q_1, .ref q_2, .null, .null, .null, .null, .int (0 : Int32), .int (0 : Int32)]))] ++ [cA I q_1 40 (fun _ => (0 : Int32))] ++ [cA I q_2 40 (fun _ => (0 : Int32))]) := hD
  refine lv_aload_n hx hb dX1_init_40 rfl (lv_at hl 0 rfl) ?_
  refine lv_bipush (v := (40 : Int32)) hx hb dX1_init_41 (by decide) ?_
  refine va_newa (atype := .int) (ty := .int) (a0 := (40, .inl (fun _ => 0))) hx hb w_8 rfl hK hP hD hS hA (fun _ => rfl) (by decide) (by decide) (by decide) (Nat.le_of_ble_eq_true rfl) (Nat.le_of_ble_eq_true rfl) dX1_init_43 (fun q_3 cN H hK9 hP hD hS => ?_)
  have eI := (xk_cA hK9).symm
  subst eI
  have hP : va_P D vwCl ([(h, .inr (1, [.int (0 : Int32), .int (0 : Int32), .int (0 : Int32), .int (0 : Int32), .ref q_1, .ref q_2, .null, .null, .null, .null, .int (0 : Int32), .int (0 : Int32)]))] ++ [cA I q_1 40 (fun _ => (0 : Int32))] ++ [cA I q_2 40 (fun _ => (0 : Int32))] ++ [cA I q_3 40 (fun _ => (0 : Int32))]) H := hP
  have hD : va_D A ([(h, .inr (1, [.int (0 : Int32), .int (0 : Int32), .int (0 : Int32), .int (0 : Int32), .ref q_1, .ref q_2, .null, .null, .null, .null, .int (0 : Int32), .int (0 : Int32)]))] ++ [cA I q_1 40 (fun _ => (0 : Int32))] ++ [cA I q_2 40 (fun _ => (0 : Int32))] ++ [cA I q_3 40 (fun _ => (0 : Int32))]) := hD
  refine va_putF (D := D) (ci := 1) (v := .ref q_3) (ty := tyX1 6) (C := RX1) (T := TX1) (N := 12) hx hb hts hinX1 tyX1 tyX1_ok nmX1 hown hK hP hD hS 0 rfl rfl 6 (by decide) w_11 (fun _ h9 => h9) rfl hin rfl (tyX1_ok 6 (by decide)) rfl rfl (Nat.le_of_ble_eq_true rfl) dX1_init_45 (fun H locs hP hD hS => ?_)
  have hP : va_P D vwCl ([(h, .inr (1, [.int (0 : Int32), .int (0 : Int32), .int (0 : Int32), .int (0 : Int32), .ref q_1, .ref q_2, .ref q_3, .null, .null, .null, .int (0 : Int32), .int (0 : Int32)]))] ++ [cA I q_1 40 (fun _ => (0 : Int32))] ++ [cA I q_2 40 (fun _ => (0 : Int32))] ++ [cA I q_3 40 (fun _ => (0 : Int32))]) H := hP
  have hD : va_D A ([(h, .inr (1, [.int (0 : Int32), .int (0 : Int32), .int (0 : Int32), .int (0 : Int32), .ref q_1, .ref q_2, .ref q_3, .null, .null, .null, .int (0 : Int32), .int (0 : Int32)]))] ++ [cA I q_1 40 (fun _ => (0 : Int32))] ++ [cA I q_2 40 (fun _ => (0 : Int32))] ++ [cA I q_3 40 (fun _ => (0 : Int32))]) := hD
  refine lv_aload_n hx hb dX1_init_48 rfl (lv_at hl 0 rfl) ?_
  refine lv_bipush (v := (40 : Int32)) hx hb dX1_init_49 (by decide) ?_
  refine va_newa (atype := .int) (ty := .int) (a0 := (40, .inl (fun _ => 0))) hx hb w_8 rfl hK hP hD hS hA (fun _ => rfl) (by decide) (by decide) (by decide) (Nat.le_of_ble_eq_true rfl) (Nat.le_of_ble_eq_true rfl) dX1_init_51 (fun q_4 cN H hK9 hP hD hS => ?_)
  have eI := (xk_cA hK9).symm
  subst eI
  have hP : va_P D vwCl ([(h, .inr (1, [.int (0 : Int32), .int (0 : Int32), .int (0 : Int32), .int (0 : Int32), .ref q_1, .ref q_2, .ref q_3, .null, .null, .null, .int (0 : Int32), .int (0 : Int32)]))] ++ [cA I q_1 40 (fun _ => (0 : Int32))] ++ [cA I q_2 40 (fun _ => (0 : Int32))] ++ [cA I q_3 40 (fun _ => (0 : Int32))] ++ [cA I q_4 40 (fun _ => (0 : Int32))]) H := hP
  have hD : va_D A ([(h, .inr (1, [.int (0 : Int32), .int (0 : Int32), .int (0 : Int32), .int (0 : Int32), .ref q_1, .ref q_2, .ref q_3, .null, .null, .null, .int (0 : Int32), .int (0 : Int32)]))] ++ [cA I q_1 40 (fun _ => (0 : Int32))] ++ [cA I q_2 40 (fun _ => (0 : Int32))] ++ [cA I q_3 40 (fun _ => (0 : Int32))] ++ [cA I q_4 40 (fun _ => (0 : Int32))]) := hD
  refine va_putF (D := D) (ci := 1) (v := .ref q_4) (ty := tyX1 7) (C := RX1) (T := TX1) (N := 12) hx hb hts hinX1 tyX1 tyX1_ok nmX1 hown hK hP hD hS 0 rfl rfl 7 (by decide) w_12 (fun _ h9 => h9) rfl hin rfl (tyX1_ok 7 (by decide)) rfl rfl (Nat.le_of_ble_eq_true rfl) dX1_init_53 (fun H locs hP hD hS => ?_)
  have hP : va_P D vwCl ([(h, .inr (1, [.int (0 : Int32), .int (0 : Int32), .int (0 : Int32), .int (0 : Int32), .ref q_1, .ref q_2, .ref q_3, .ref q_4, .null, .null, .int (0 : Int32), .int (0 : Int32)]))] ++ [cA I q_1 40 (fun _ => (0 : Int32))] ++ [cA I q_2 40 (fun _ => (0 : Int32))] ++ [cA I q_3 40 (fun _ => (0 : Int32))] ++ [cA I q_4 40 (fun _ => (0 : Int32))]) H := hP
  have hD : va_D A ([(h, .inr (1, [.int (0 : Int32), .int (0 : Int32), .int (0 : Int32), .int (0 : Int32), .ref q_1, .ref q_2, .ref q_3, .ref q_4, .null, .null, .int (0 : Int32), .int (0 : Int32)]))] ++ [cA I q_1 40 (fun _ => (0 : Int32))] ++ [cA I q_2 40 (fun _ => (0 : Int32))] ++ [cA I q_3 40 (fun _ => (0 : Int32))] ++ [cA I q_4 40 (fun _ => (0 : Int32))]) := hD
  refine lv_aload_n hx hb dX1_init_56 rfl (lv_at hl 0 rfl) ?_
  refine lv_bipush (v := (40 : Int32)) hx hb dX1_init_57 (by decide) ?_
  refine va_newa (atype := .int) (ty := .int) (a0 := (40, .inl (fun _ => 0))) hx hb w_8 rfl hK hP hD hS hA (fun _ => rfl) (by decide) (by decide) (by decide) (Nat.le_of_ble_eq_true rfl) (Nat.le_of_ble_eq_true rfl) dX1_init_59 (fun q_5 cN H hK9 hP hD hS => ?_)
  have eI := (xk_cA hK9).symm
  subst eI
  have hP : va_P D vwCl ([(h, .inr (1, [.int (0 : Int32), .int (0 : Int32), .int (0 : Int32), .int (0 : Int32), .ref q_1, .ref q_2, .ref q_3, .ref q_4, .null, .null, .int (0 : Int32), .int (0 : Int32)]))] ++ [cA I q_1 40 (fun _ => (0 : Int32))] ++ [cA I q_2 40 (fun _ => (0 : Int32))] ++ [cA I q_3 40 (fun _ => (0 : Int32))] ++ [cA I q_4 40 (fun _ => (0 : Int32))] ++ [cA I q_5 40 (fun _ => (0 : Int32))]) H := hP
  have hD : va_D A ([(h, .inr (1, [.int (0 : Int32), .int (0 : Int32), .int (0 : Int32), .int (0 : Int32), .ref q_1, .ref q_2, .ref q_3, .ref q_4, .null, .null, .int (0 : Int32), .int (0 : Int32)]))] ++ [cA I q_1 40 (fun _ => (0 : Int32))] ++ [cA I q_2 40 (fun _ => (0 : Int32))] ++ [cA I q_3 40 (fun _ => (0 : Int32))] ++ [cA I q_4 40 (fun _ => (0 : Int32))] ++ [cA I q_5 40 (fun _ => (0 : Int32))]) := hD
  refine va_putF (D := D) (ci := 1) (v := .ref q_5) (ty := tyX1 8) (C := RX1) (T := TX1) (N := 12) hx hb hts hinX1 tyX1 tyX1_ok nmX1 hown hK hP hD hS 0 rfl rfl 8 (by decide) w_13 (fun _ h9 => h9) rfl hin rfl (tyX1_ok 8 (by decide)) rfl rfl (Nat.le_of_ble_eq_true rfl) dX1_init_61 (fun H locs hP hD hS => ?_)
  have hP : va_P D vwCl ([(h, .inr (1, [.int (0 : Int32), .int (0 : Int32), .int (0 : Int32), .int (0 : Int32), .ref q_1, .ref q_2, .ref q_3, .ref q_4, .ref q_5, .null, .int (0 : Int32), .int (0 : Int32)]))] ++ [cA I q_1 40 (fun _ => (0 : Int32))] ++ [cA I q_2 40 (fun _ => (0 : Int32))] ++ [cA I q_3 40 (fun _ => (0 : Int32))] ++ [cA I q_4 40 (fun _ => (0 : Int32))] ++ [cA I q_5 40 (fun _ => (0 : Int32))]) H := hP
  have hD : va_D A ([(h, .inr (1, [.int (0 : Int32), .int (0 : Int32), .int (0 : Int32), .int (0 : Int32), .ref q_1, .ref q_2, .ref q_3, .ref q_4, .ref q_5, .null, .int (0 : Int32), .int (0 : Int32)]))] ++ [cA I q_1 40 (fun _ => (0 : Int32))] ++ [cA I q_2 40 (fun _ => (0 : Int32))] ++ [cA I q_3 40 (fun _ => (0 : Int32))] ++ [cA I q_4 40 (fun _ => (0 : Int32))] ++ [cA I q_5 40 (fun _ => (0 : Int32))]) := hD
  refine lv_aload_n hx hb dX1_init_64 rfl (lv_at hl 0 rfl) ?_
  refine lv_bipush (v := (40 : Int32)) hx hb dX1_init_65 (by decide) ?_
  refine va_newa (atype := .int) (ty := .int) (a0 := (40, .inl (fun _ => 0))) hx hb w_8 rfl hK hP hD hS hA (fun _ => rfl) (by decide) (by decide) (by decide) (Nat.le_of_ble_eq_true rfl) (Nat.le_of_ble_eq_true rfl) dX1_init_67 (fun q_6 cN H hK9 hP hD hS => ?_)
  have eI := (xk_cA hK9).symm
  subst eI
  have hP : va_P D vwCl ([(h, .inr (1, [.int (0 : Int32), .int (0 : Int32), .int (0 : Int32), .int (0 : Int32), .ref q_1, .ref q_2, .ref q_3, .ref q_4, .ref q_5, .null, .int (0 : Int32), .int (0 : Int32)]))] ++ [cA I q_1 40 (fun _ => (0 : Int32))] ++ [cA I q_2 40 (fun _ => (0 : Int32))] ++ [cA I q_3 40 (fun _ => (0 : Int32))] ++ [cA I q_4 40 (fun _ => (0 : Int32))] ++ [cA I q_5 40 (fun _ => (0 : Int32))] ++ [cA I q_6 40 (fun _ => (0 : Int32))]) H := hP
  have hD : va_D A ([(h, .inr (1, [.int (0 : Int32), .int (0 : Int32), .int (0 : Int32), .int (0 : Int32), .ref q_1, .ref q_2, .ref q_3, .ref q_4, .ref q_5, .null, .int (0 : Int32), .int (0 : Int32)]))] ++ [cA I q_1 40 (fun _ => (0 : Int32))] ++ [cA I q_2 40 (fun _ => (0 : Int32))] ++ [cA I q_3 40 (fun _ => (0 : Int32))] ++ [cA I q_4 40 (fun _ => (0 : Int32))] ++ [cA I q_5 40 (fun _ => (0 : Int32))] ++ [cA I q_6 40 (fun _ => (0 : Int32))]) := hD
  refine va_putF (D := D) (ci := 1) (v := .ref q_6) (ty := tyX1 9) (C := RX1) (T := TX1) (N := 12) hx hb hts hinX1 tyX1 tyX1_ok nmX1 hown hK hP hD hS 0 rfl rfl 9 (by decide) w_14 (fun _ h9 => h9) rfl hin rfl (tyX1_ok 9 (by decide)) rfl rfl (Nat.le_of_ble_eq_true rfl) dX1_init_69 (fun H locs hP hD hS => ?_)
  have hP : va_P D vwCl ([(h, .inr (1, [.int (0 : Int32), .int (0 : Int32), .int (0 : Int32), .int (0 : Int32), .ref q_1, .ref q_2, .ref q_3, .ref q_4, .ref q_5, .ref q_6, .int (0 : Int32), .int (0 : Int32)]))] ++ [cA I q_1 40 (fun _ => (0 : Int32))] ++ [cA I q_2 40 (fun _ => (0 : Int32))] ++ [cA I q_3 40 (fun _ => (0 : Int32))] ++ [cA I q_4 40 (fun _ => (0 : Int32))] ++ [cA I q_5 40 (fun _ => (0 : Int32))] ++ [cA I q_6 40 (fun _ => (0 : Int32))]) H := hP
  have hD : va_D A ([(h, .inr (1, [.int (0 : Int32), .int (0 : Int32), .int (0 : Int32), .int (0 : Int32), .ref q_1, .ref q_2, .ref q_3, .ref q_4, .ref q_5, .ref q_6, .int (0 : Int32), .int (0 : Int32)]))] ++ [cA I q_1 40 (fun _ => (0 : Int32))] ++ [cA I q_2 40 (fun _ => (0 : Int32))] ++ [cA I q_3 40 (fun _ => (0 : Int32))] ++ [cA I q_4 40 (fun _ => (0 : Int32))] ++ [cA I q_5 40 (fun _ => (0 : Int32))] ++ [cA I q_6 40 (fun _ => (0 : Int32))]) := hD
  refine lv_aload_n hx hb dX1_init_72 rfl (lv_at hl 0 rfl) ?_
  refine lv_iconst (v := (-1 : Int32)) hx hb dX1_init_73 (by decide) ?_
  refine va_put (D := D) (ci := 1) (v := .int (-1 : Int32)) (ty := tyX1 10) (C := RX1) (T := TX1) (N := 12) hx hb hts hinX1 tyX1 tyX1_ok nmX1 hown hK hP hD hS 0 rfl rfl 10 (by decide) w_15 (fun _ h9 => h9) rfl (tyX1_ok 10 (by decide)) rfl rfl (Nat.le_of_ble_eq_true rfl) dX1_init_74 (fun H locs hP hD hS => ?_)
  have hP : va_P D vwCl ([(h, .inr (1, [.int (0 : Int32), .int (0 : Int32), .int (0 : Int32), .int (0 : Int32), .ref q_1, .ref q_2, .ref q_3, .ref q_4, .ref q_5, .ref q_6, .int (-1 : Int32), .int (0 : Int32)]))] ++ [cA I q_1 40 (fun _ => (0 : Int32))] ++ [cA I q_2 40 (fun _ => (0 : Int32))] ++ [cA I q_3 40 (fun _ => (0 : Int32))] ++ [cA I q_4 40 (fun _ => (0 : Int32))] ++ [cA I q_5 40 (fun _ => (0 : Int32))] ++ [cA I q_6 40 (fun _ => (0 : Int32))]) H := hP
  have hD : va_D A ([(h, .inr (1, [.int (0 : Int32), .int (0 : Int32), .int (0 : Int32), .int (0 : Int32), .ref q_1, .ref q_2, .ref q_3, .ref q_4, .ref q_5, .ref q_6, .int (-1 : Int32), .int (0 : Int32)]))] ++ [cA I q_1 40 (fun _ => (0 : Int32))] ++ [cA I q_2 40 (fun _ => (0 : Int32))] ++ [cA I q_3 40 (fun _ => (0 : Int32))] ++ [cA I q_4 40 (fun _ => (0 : Int32))] ++ [cA I q_5 40 (fun _ => (0 : Int32))] ++ [cA I q_6 40 (fun _ => (0 : Int32))]) := hD
  refine lv_aload_n hx hb dX1_init_77 rfl (lv_at hl 0 rfl) ?_
  refine lv_iconst (v := (-1 : Int32)) hx hb dX1_init_78 (by decide) ?_
  refine va_put (D := D) (ci := 1) (v := .int (-1 : Int32)) (ty := tyX1 11) (C := RX1) (T := TX1) (N := 12) hx hb hts hinX1 tyX1 tyX1_ok nmX1 hown hK hP hD hS 0 rfl rfl 11 (by decide) w_16 (fun _ h9 => h9) rfl (tyX1_ok 11 (by decide)) rfl rfl (Nat.le_of_ble_eq_true rfl) dX1_init_79 (fun H locs hP hD hS => ?_)
  have hP : va_P D vwCl ([(h, .inr (1, [.int (0 : Int32), .int (0 : Int32), .int (0 : Int32), .int (0 : Int32), .ref q_1, .ref q_2, .ref q_3, .ref q_4, .ref q_5, .ref q_6, .int (-1 : Int32), .int (-1 : Int32)]))] ++ [cA I q_1 40 (fun _ => (0 : Int32))] ++ [cA I q_2 40 (fun _ => (0 : Int32))] ++ [cA I q_3 40 (fun _ => (0 : Int32))] ++ [cA I q_4 40 (fun _ => (0 : Int32))] ++ [cA I q_5 40 (fun _ => (0 : Int32))] ++ [cA I q_6 40 (fun _ => (0 : Int32))]) H := hP
  have hD : va_D A ([(h, .inr (1, [.int (0 : Int32), .int (0 : Int32), .int (0 : Int32), .int (0 : Int32), .ref q_1, .ref q_2, .ref q_3, .ref q_4, .ref q_5, .ref q_6, .int (-1 : Int32), .int (-1 : Int32)]))] ++ [cA I q_1 40 (fun _ => (0 : Int32))] ++ [cA I q_2 40 (fun _ => (0 : Int32))] ++ [cA I q_3 40 (fun _ => (0 : Int32))] ++ [cA I q_4 40 (fun _ => (0 : Int32))] ++ [cA I q_5 40 (fun _ => (0 : Int32))] ++ [cA I q_6 40 (fun _ => (0 : Int32))]) := hD
  refine W.widen (k := 6) (n := 240) (Nat.le_of_ble_eq_true rfl) (Nat.le_of_ble_eq_true rfl) ?_
  exact xk_vretE (wf := fun v : Nat → Nat => wT I (qT h v) T0) (fun j : Nat => if j = 3 then q_1 else if j = 4 then q_2 else if j = 5 then q_3 else if j = 6 then q_4 else if j = 7 then q_5 else if j = 8 then q_6 else 0) hx hb hr hlocks hP hK hD hS dX1_init_82

set_option maxHeartbeats 1600000 in
set_option maxRecDepth 100000 in
theorem c_X0_init (l : Launch) (D : va_G) (I : ClassId) (h : Nat) (sz : Nat) : xMvE l D [(I, .int)] yX0_init wsX0_init { frames := 2, cells := 8, slots := 260, locals := 32 } [.ref h] sz ([(h, .inr (0, [.int (0 : Int32), .int (0 : Int32), .int (0 : Int32), .int (0 : Int32), .int (0 : Int32), .int (0 : Int32), .null, .null, .int (0 : Int32), .int (0 : Int32), .int (0 : Int32)]))]) (Nat → Nat) (fun v : Nat → Nat => wB I (qB h v) B0) 8 260 := by
  refine xk_start (cc := cX0_init) (maxL := 1) (ret := none) (Qf := fun A => va_Qv (fun _ : Nat → Nat => True) (fun v => xB D [(I, .int)] A ((fun v : Nat → Nat => wB I (qB h v) B0) v)) A) (by decide) rfl (Nat.le_of_ble_eq_true rfl) ?_
  intro p e s m below meth c A H ls hst hAe hsz hl
  obtain ⟨hx, hb, hr, hts, hown, hlocks, hml, hin, hN, hK, hP, hD, hA, hS⟩ := hst
  have hl : lv_has ls 1 [(0, .ref h)] := hl
  have hP : va_P D vwCl ([(h, .inr (0, [.int (0 : Int32), .int (0 : Int32), .int (0 : Int32), .int (0 : Int32), .int (0 : Int32), .int (0 : Int32), .null, .null, .int (0 : Int32), .int (0 : Int32), .int (0 : Int32)]))]) H := hP
  have hinX0 : ∀ w ∈ u_ws RX0 TX0 11, w ∈ wsX0_init := by decide +kernel
  have hinX1 : ∀ w ∈ u_ws RX1 TX1 12, w ∈ wsX0_init := by decide +kernel
  have w_1 := hts (.methodLink RX0 3 objectInit) (by decide +kernel)
  have w_2 := hts (.instanceMethod objectInit) (by decide +kernel)
  have w_3 := hts (.code objectInit ⟨#[0xb1]⟩ 1 none) (by decide +kernel)
  have w_4 := hts (.fieldLink RX0 9 "BridgeBells$Bridge" "minute" "I") (by decide +kernel)
  have w_5 := hts (.fieldLink RX0 15 "BridgeBells$Bridge" "angle" "I") (by decide +kernel)
  have w_6 := hts (.fieldLink RX0 18 "BridgeBells$Bridge" "counterpoise" "I") (by decide +kernel)
  have w_7 := hts (.fieldLink RX0 21 "BridgeBells$Bridge" "ice" "I") (by decide +kernel)
  have w_8 := hts (.fieldLink RX0 24 "BridgeBells$Bridge" "code" "I") (by decide +kernel)
  have w_9 := hts (.fieldLink RX0 27 "BridgeBells$Bridge" "waitedInAll" "I") (by decide +kernel)
  have w_10 := hts (.arrayClass .int) (by decide +kernel)
  have w_11 := hts (.fieldLink RX0 30 "BridgeBells$Bridge" "cold" "[I") (by decide +kernel)
  have w_12 := hts (.classLink RX0 34 RX1) (by decide +kernel)
  have w_13 := hts (.instantiable RX1 12) (by decide +kernel)
  have w_14 := hts (.initialized RX1) (by decide +kernel)
  have w_15 := hts (.instanceMethod yX1_init) (by decide +kernel)
  have w_16 := hts (.fieldLink RX0 37 "BridgeBells$Bridge" "travellers" "LBridgeBells$Travellers;") (by decide +kernel)
  have w_17 := hts (.fieldLink RX0 41 "BridgeBells$Bridge" "passing" "I") (by decide +kernel)
  have w_18 := hts (.fieldLink RX0 44 "BridgeBells$Bridge" "toGo" "I") (by decide +kernel)
  have w_19 := hts (.fieldLink RX0 47 "BridgeBells$Bridge" "latestWasBarge" "Z") (by decide +kernel)
  refine lv_aload_n hx hb dX0_init_0 rfl (lv_at hl 0 rfl) ?_
  refine W.objInit hx hb hown w_1 w_2 w_3 rfl (by rw [hml]; exact hl.1) rfl dX0_init_1 (Nat.le_of_ble_eq_true rfl) (Nat.le_of_ble_eq_true rfl) ?_
  refine W.eq (g2 := F0 m 4 ls []) rfl ?_
  refine lv_aload_n hx hb dX0_init_4 rfl (lv_at hl 0 rfl) ?_
  refine lv_iconst (v := (0 : Int32)) hx hb dX0_init_5 (by decide) ?_
  refine va_put (D := D) (ci := 0) (v := .int (0 : Int32)) (ty := tyX0 0) (C := RX0) (T := TX0) (N := 11) hx hb hts hinX0 tyX0 tyX0_ok nmX0 hown hK hP hD hS 0 rfl rfl 0 (by decide) w_4 (fun _ h9 => h9) rfl (tyX0_ok 0 (by decide)) rfl rfl (Nat.le_of_ble_eq_true rfl) dX0_init_6 (fun H locs hP hD hS => ?_)
  have hP : va_P D vwCl ([(h, .inr (0, [.int (0 : Int32), .int (0 : Int32), .int (0 : Int32), .int (0 : Int32), .int (0 : Int32), .int (0 : Int32), .null, .null, .int (0 : Int32), .int (0 : Int32), .int (0 : Int32)]))]) H := hP
  have hD : va_D A ([(h, .inr (0, [.int (0 : Int32), .int (0 : Int32), .int (0 : Int32), .int (0 : Int32), .int (0 : Int32), .int (0 : Int32), .null, .null, .int (0 : Int32), .int (0 : Int32), .int (0 : Int32)]))]) := hD
  refine lv_aload_n hx hb dX0_init_9 rfl (lv_at hl 0 rfl) ?_
  refine lv_iconst (v := (0 : Int32)) hx hb dX0_init_10 (by decide) ?_
  refine va_put (D := D) (ci := 0) (v := .int (0 : Int32)) (ty := tyX0 1) (C := RX0) (T := TX0) (N := 11) hx hb hts hinX0 tyX0 tyX0_ok nmX0 hown hK hP hD hS 0 rfl rfl 1 (by decide) w_5 (fun _ h9 => h9) rfl (tyX0_ok 1 (by decide)) rfl rfl (Nat.le_of_ble_eq_true rfl) dX0_init_11 (fun H locs hP hD hS => ?_)
  have hP : va_P D vwCl ([(h, .inr (0, [.int (0 : Int32), .int (0 : Int32), .int (0 : Int32), .int (0 : Int32), .int (0 : Int32), .int (0 : Int32), .null, .null, .int (0 : Int32), .int (0 : Int32), .int (0 : Int32)]))]) H := hP
  have hD : va_D A ([(h, .inr (0, [.int (0 : Int32), .int (0 : Int32), .int (0 : Int32), .int (0 : Int32), .int (0 : Int32), .int (0 : Int32), .null, .null, .int (0 : Int32), .int (0 : Int32), .int (0 : Int32)]))]) := hD
  refine lv_aload_n hx hb dX0_init_14 rfl (lv_at hl 0 rfl) ?_
  refine lv_bipush (v := (15 : Int32)) hx hb dX0_init_15 (by decide) ?_
  refine va_put (D := D) (ci := 0) (v := .int (15 : Int32)) (ty := tyX0 2) (C := RX0) (T := TX0) (N := 11) hx hb hts hinX0 tyX0 tyX0_ok nmX0 hown hK hP hD hS 0 rfl rfl 2 (by decide) w_6 (fun _ h9 => h9) rfl (tyX0_ok 2 (by decide)) rfl rfl (Nat.le_of_ble_eq_true rfl) dX0_init_17 (fun H locs hP hD hS => ?_)
  have hP : va_P D vwCl ([(h, .inr (0, [.int (0 : Int32), .int (0 : Int32), .int (15 : Int32), .int (0 : Int32), .int (0 : Int32), .int (0 : Int32), .null, .null, .int (0 : Int32), .int (0 : Int32), .int (0 : Int32)]))]) H := hP
  have hD : va_D A ([(h, .inr (0, [.int (0 : Int32), .int (0 : Int32), .int (15 : Int32), .int (0 : Int32), .int (0 : Int32), .int (0 : Int32), .null, .null, .int (0 : Int32), .int (0 : Int32), .int (0 : Int32)]))]) := hD
  refine lv_aload_n hx hb dX0_init_20 rfl (lv_at hl 0 rfl) ?_
  refine lv_iconst (v := (0 : Int32)) hx hb dX0_init_21 (by decide) ?_
  refine va_put (D := D) (ci := 0) (v := .int (0 : Int32)) (ty := tyX0 3) (C := RX0) (T := TX0) (N := 11) hx hb hts hinX0 tyX0 tyX0_ok nmX0 hown hK hP hD hS 0 rfl rfl 3 (by decide) w_7 (fun _ h9 => h9) rfl (tyX0_ok 3 (by decide)) rfl rfl (Nat.le_of_ble_eq_true rfl) dX0_init_22 (fun H locs hP hD hS => ?_)
  have hP : va_P D vwCl ([(h, .inr (0, [.int (0 : Int32), .int (0 : Int32), .int (15 : Int32), .int (0 : Int32), .int (0 : Int32), .int (0 : Int32), .null, .null, .int (0 : Int32), .int (0 : Int32), .int (0 : Int32)]))]) H := hP
  have hD : va_D A ([(h, .inr (0, [.int (0 : Int32), .int (0 : Int32), .int (15 : Int32), .int (0 : Int32), .int (0 : Int32), .int (0 : Int32), .null, .null, .int (0 : Int32), .int (0 : Int32), .int (0 : Int32)]))]) := hD
  refine lv_aload_n hx hb dX0_init_25 rfl (lv_at hl 0 rfl) ?_
  refine lv_iconst (v := (0 : Int32)) hx hb dX0_init_26 (by decide) ?_
  refine va_put (D := D) (ci := 0) (v := .int (0 : Int32)) (ty := tyX0 4) (C := RX0) (T := TX0) (N := 11) hx hb hts hinX0 tyX0 tyX0_ok nmX0 hown hK hP hD hS 0 rfl rfl 4 (by decide) w_8 (fun _ h9 => h9) rfl (tyX0_ok 4 (by decide)) rfl rfl (Nat.le_of_ble_eq_true rfl) dX0_init_27 (fun H locs hP hD hS => ?_)
  have hP : va_P D vwCl ([(h, .inr (0, [.int (0 : Int32), .int (0 : Int32), .int (15 : Int32), .int (0 : Int32), .int (0 : Int32), .int (0 : Int32), .null, .null, .int (0 : Int32), .int (0 : Int32), .int (0 : Int32)]))]) H := hP
  have hD : va_D A ([(h, .inr (0, [.int (0 : Int32), .int (0 : Int32), .int (15 : Int32), .int (0 : Int32), .int (0 : Int32), .int (0 : Int32), .null, .null, .int (0 : Int32), .int (0 : Int32), .int (0 : Int32)]))]) := hD
  refine lv_aload_n hx hb dX0_init_30 rfl (lv_at hl 0 rfl) ?_
  refine lv_iconst (v := (0 : Int32)) hx hb dX0_init_31 (by decide) ?_
  refine va_put (D := D) (ci := 0) (v := .int (0 : Int32)) (ty := tyX0 5) (C := RX0) (T := TX0) (N := 11) hx hb hts hinX0 tyX0 tyX0_ok nmX0 hown hK hP hD hS 0 rfl rfl 5 (by decide) w_9 (fun _ h9 => h9) rfl (tyX0_ok 5 (by decide)) rfl rfl (Nat.le_of_ble_eq_true rfl) dX0_init_32 (fun H locs hP hD hS => ?_)
  have hP : va_P D vwCl ([(h, .inr (0, [.int (0 : Int32), .int (0 : Int32), .int (15 : Int32), .int (0 : Int32), .int (0 : Int32), .int (0 : Int32), .null, .null, .int (0 : Int32), .int (0 : Int32), .int (0 : Int32)]))]) H := hP
  have hD : va_D A ([(h, .inr (0, [.int (0 : Int32), .int (0 : Int32), .int (15 : Int32), .int (0 : Int32), .int (0 : Int32), .int (0 : Int32), .null, .null, .int (0 : Int32), .int (0 : Int32), .int (0 : Int32)]))]) := hD
  refine lv_aload_n hx hb dX0_init_35 rfl (lv_at hl 0 rfl) ?_
  refine lv_bipush (v := (8 : Int32)) hx hb dX0_init_36 (by decide) ?_
  refine va_newa (atype := .int) (ty := .int) (a0 := (8, .inl (fun _ => 0))) hx hb w_10 rfl hK hP hD hS hA (fun _ => rfl) (by decide) (by decide) (by decide) (Nat.le_of_ble_eq_true rfl) (Nat.le_of_ble_eq_true rfl) dX0_init_38 (fun q_1 cN H hK9 hP hD hS => ?_)
  have eI := (xk_cA hK9).symm
  subst eI
  have hP : va_P D vwCl ([(h, .inr (0, [.int (0 : Int32), .int (0 : Int32), .int (15 : Int32), .int (0 : Int32), .int (0 : Int32), .int (0 : Int32), .null, .null, .int (0 : Int32), .int (0 : Int32), .int (0 : Int32)]))] ++ [cA I q_1 8 (fun _ => (0 : Int32))]) H := hP
  have hD : va_D A ([(h, .inr (0, [.int (0 : Int32), .int (0 : Int32), .int (15 : Int32), .int (0 : Int32), .int (0 : Int32), .int (0 : Int32), .null, .null, .int (0 : Int32), .int (0 : Int32), .int (0 : Int32)]))] ++ [cA I q_1 8 (fun _ => (0 : Int32))]) := hD
  refine va_putF (D := D) (ci := 0) (v := .ref q_1) (ty := tyX0 6) (C := RX0) (T := TX0) (N := 11) hx hb hts hinX0 tyX0 tyX0_ok nmX0 hown hK hP hD hS 0 rfl rfl 6 (by decide) w_11 (fun _ h9 => h9) rfl hin rfl (tyX0_ok 6 (by decide)) rfl rfl (Nat.le_of_ble_eq_true rfl) dX0_init_40 (fun H locs hP hD hS => ?_)
  have hP : va_P D vwCl ([(h, .inr (0, [.int (0 : Int32), .int (0 : Int32), .int (15 : Int32), .int (0 : Int32), .int (0 : Int32), .int (0 : Int32), .ref q_1, .null, .int (0 : Int32), .int (0 : Int32), .int (0 : Int32)]))] ++ [cA I q_1 8 (fun _ => (0 : Int32))]) H := hP
  have hD : va_D A ([(h, .inr (0, [.int (0 : Int32), .int (0 : Int32), .int (15 : Int32), .int (0 : Int32), .int (0 : Int32), .int (0 : Int32), .ref q_1, .null, .int (0 : Int32), .int (0 : Int32), .int (0 : Int32)]))] ++ [cA I q_1 8 (fun _ => (0 : Int32))]) := hD
  refine lv_aload_n hx hb dX0_init_43 rfl (lv_at hl 0 rfl) ?_
  refine va_new (ci := 1) (fs := [.int (0 : Int32), .int (0 : Int32), .int (0 : Int32), .int (0 : Int32), .null, .null, .null, .null, .null, .null, .int (0 : Int32), .int (0 : Int32)]) (C := RX1) (T := TX1) (N := 12) hx hb hts hinX1 tyX1 tyX1_ok hown w_12 w_13 w_14 hK hP hD hS hA rfl (fun j hj => by rcases (show j = 0 ∨ j = 1 ∨ j = 2 ∨ j = 3 ∨ j = 4 ∨ j = 5 ∨ j = 6 ∨ j = 7 ∨ j = 8 ∨ j = 9 ∨ j = 10 ∨ j = 11 by omega) with rfl | rfl | rfl | rfl | rfl | rfl | rfl | rfl | rfl | rfl | rfl | rfl <;> rfl) (Nat.le_of_ble_eq_true rfl) (Nat.le_of_ble_eq_true rfl) dX0_init_44 (fun q_2 H hP hD hS => ?_)
  have hP : va_P D vwCl ([(h, .inr (0, [.int (0 : Int32), .int (0 : Int32), .int (15 : Int32), .int (0 : Int32), .int (0 : Int32), .int (0 : Int32), .ref q_1, .null, .int (0 : Int32), .int (0 : Int32), .int (0 : Int32)]))] ++ [cA I q_1 8 (fun _ => (0 : Int32))] ++ [(q_2, .inr (1, [.int (0 : Int32), .int (0 : Int32), .int (0 : Int32), .int (0 : Int32), .null, .null, .null, .null, .null, .null, .int (0 : Int32), .int (0 : Int32)]))]) H := hP
  have hD : va_D A ([(h, .inr (0, [.int (0 : Int32), .int (0 : Int32), .int (15 : Int32), .int (0 : Int32), .int (0 : Int32), .int (0 : Int32), .ref q_1, .null, .int (0 : Int32), .int (0 : Int32), .int (0 : Int32)]))] ++ [cA I q_1 8 (fun _ => (0 : Int32))] ++ [(q_2, .inr (1, [.int (0 : Int32), .int (0 : Int32), .int (0 : Int32), .int (0 : Int32), .null, .null, .null, .null, .null, .null, .int (0 : Int32), .int (0 : Int32)]))]) := hD
  refine lv_dup hx hb dX0_init_47 rfl ?_
  refine xk_callvE ([(h, .inr (0, [.int (0 : Int32), .int (0 : Int32), .int (15 : Int32), .int (0 : Int32), .int (0 : Int32), .int (0 : Int32), .ref q_1, .null, .int (0 : Int32), .int (0 : Int32), .int (0 : Int32)])), cA I q_1 8 (fun _ => (0 : Int32))]) [2] [0, 1] hP hD hS hA (va_runIN (host := "BridgeBells") (As := []) (rest := [.ref q_2, .ref h]) ⟨hx, hb, hml, hown, hts⟩ (c_X1_init l D I q_2 H.size) ⟨va_cnB 0 hts gX0_init_X1_init_n36 rfl rfl rfl (hN.at 1 rfl) w_14 (by decide +kernel) ⟨Nat.le_of_ble_eq_true rfl, Nat.le_of_ble_eq_true rfl⟩, rfl, w_15⟩ (xk_pre (wc := [(q_2, .inr (1, [.int (0 : Int32), .int (0 : Int32), .int (0 : Int32), .int (0 : Int32), .null, .null, .null, .null, .null, .null, .int (0 : Int32), .int (0 : Int32)]))]) hN hP hK hD [2] rfl rfl) rfl rfl hl.1 rfl (lv_room (Nat.le_of_ble_eq_true rfl)) dX0_init_48 ⟨Nat.le_of_ble_eq_true rfl, Nat.le_of_ble_eq_true rfl⟩) rfl rfl rfl (by decide) (fun v_3 H locs hP hD hS => ?_)
  have hP : va_P D vwCl ([(h, .inr (0, [.int (0 : Int32), .int (0 : Int32), .int (15 : Int32), .int (0 : Int32), .int (0 : Int32), .int (0 : Int32), .ref q_1, .null, .int (0 : Int32), .int (0 : Int32), .int (0 : Int32)]))] ++ [cA I q_1 8 (fun _ => (0 : Int32))] ++ wT I (qT q_2 v_3) T0) H := hP
  have hD : va_D A ([(h, .inr (0, [.int (0 : Int32), .int (0 : Int32), .int (15 : Int32), .int (0 : Int32), .int (0 : Int32), .int (0 : Int32), .ref q_1, .null, .int (0 : Int32), .int (0 : Int32), .int (0 : Int32)]))] ++ [cA I q_1 8 (fun _ => (0 : Int32))] ++ wT I (qT q_2 v_3) T0) := hD
  refine va_putF (D := D) (ci := 0) (v := .ref q_2) (ty := tyX0 7) (C := RX0) (T := TX0) (N := 11) hx hb hts hinX0 tyX0 tyX0_ok nmX0 hown hK hP hD hS 0 rfl rfl 7 (by decide) w_16 (fun _ h9 => h9) rfl hin rfl (tyX0_ok 7 (by decide)) rfl rfl (Nat.le_of_ble_eq_true rfl) dX0_init_51 (fun H locs hP hD hS => ?_)
  have hP : va_P D vwCl ([(h, .inr (0, [.int (0 : Int32), .int (0 : Int32), .int (15 : Int32), .int (0 : Int32), .int (0 : Int32), .int (0 : Int32), .ref q_1, .ref q_2, .int (0 : Int32), .int (0 : Int32), .int (0 : Int32)]))] ++ [cA I q_1 8 (fun _ => (0 : Int32))] ++ wT I (qT q_2 v_3) T0) H := hP
  have hD : va_D A ([(h, .inr (0, [.int (0 : Int32), .int (0 : Int32), .int (15 : Int32), .int (0 : Int32), .int (0 : Int32), .int (0 : Int32), .ref q_1, .ref q_2, .int (0 : Int32), .int (0 : Int32), .int (0 : Int32)]))] ++ [cA I q_1 8 (fun _ => (0 : Int32))] ++ wT I (qT q_2 v_3) T0) := hD
  refine lv_aload_n hx hb dX0_init_54 rfl (lv_at hl 0 rfl) ?_
  refine lv_iconst (v := (-1 : Int32)) hx hb dX0_init_55 (by decide) ?_
  refine va_put (D := D) (ci := 0) (v := .int (-1 : Int32)) (ty := tyX0 8) (C := RX0) (T := TX0) (N := 11) hx hb hts hinX0 tyX0 tyX0_ok nmX0 hown hK hP hD hS 0 rfl rfl 8 (by decide) w_17 (fun _ h9 => h9) rfl (tyX0_ok 8 (by decide)) rfl rfl (Nat.le_of_ble_eq_true rfl) dX0_init_56 (fun H locs hP hD hS => ?_)
  have hP : va_P D vwCl ([(h, .inr (0, [.int (0 : Int32), .int (0 : Int32), .int (15 : Int32), .int (0 : Int32), .int (0 : Int32), .int (0 : Int32), .ref q_1, .ref q_2, .int (-1 : Int32), .int (0 : Int32), .int (0 : Int32)]))] ++ [cA I q_1 8 (fun _ => (0 : Int32))] ++ wT I (qT q_2 v_3) T0) H := hP
  have hD : va_D A ([(h, .inr (0, [.int (0 : Int32), .int (0 : Int32), .int (15 : Int32), .int (0 : Int32), .int (0 : Int32), .int (0 : Int32), .ref q_1, .ref q_2, .int (-1 : Int32), .int (0 : Int32), .int (0 : Int32)]))] ++ [cA I q_1 8 (fun _ => (0 : Int32))] ++ wT I (qT q_2 v_3) T0) := hD
  refine lv_aload_n hx hb dX0_init_59 rfl (lv_at hl 0 rfl) ?_
  refine lv_iconst (v := (0 : Int32)) hx hb dX0_init_60 (by decide) ?_
  refine va_put (D := D) (ci := 0) (v := .int (0 : Int32)) (ty := tyX0 9) (C := RX0) (T := TX0) (N := 11) hx hb hts hinX0 tyX0 tyX0_ok nmX0 hown hK hP hD hS 0 rfl rfl 9 (by decide) w_18 (fun _ h9 => h9) rfl (tyX0_ok 9 (by decide)) rfl rfl (Nat.le_of_ble_eq_true rfl) dX0_init_61 (fun H locs hP hD hS => ?_)
  have hP : va_P D vwCl ([(h, .inr (0, [.int (0 : Int32), .int (0 : Int32), .int (15 : Int32), .int (0 : Int32), .int (0 : Int32), .int (0 : Int32), .ref q_1, .ref q_2, .int (-1 : Int32), .int (0 : Int32), .int (0 : Int32)]))] ++ [cA I q_1 8 (fun _ => (0 : Int32))] ++ wT I (qT q_2 v_3) T0) H := hP
  have hD : va_D A ([(h, .inr (0, [.int (0 : Int32), .int (0 : Int32), .int (15 : Int32), .int (0 : Int32), .int (0 : Int32), .int (0 : Int32), .ref q_1, .ref q_2, .int (-1 : Int32), .int (0 : Int32), .int (0 : Int32)]))] ++ [cA I q_1 8 (fun _ => (0 : Int32))] ++ wT I (qT q_2 v_3) T0) := hD
  refine lv_aload_n hx hb dX0_init_64 rfl (lv_at hl 0 rfl) ?_
  refine lv_iconst (v := (0 : Int32)) hx hb dX0_init_65 (by decide) ?_
  refine va_put (D := D) (ci := 0) (v := .int (0 : Int32)) (ty := tyX0 10) (C := RX0) (T := TX0) (N := 11) hx hb hts hinX0 tyX0 tyX0_ok nmX0 hown hK hP hD hS 0 rfl rfl 10 (by decide) w_19 (fun _ h9 => h9) rfl (tyX0_ok 10 (by decide)) rfl rfl (Nat.le_of_ble_eq_true rfl) dX0_init_66 (fun H locs hP hD hS => ?_)
  have hP : va_P D vwCl ([(h, .inr (0, [.int (0 : Int32), .int (0 : Int32), .int (15 : Int32), .int (0 : Int32), .int (0 : Int32), .int (0 : Int32), .ref q_1, .ref q_2, .int (-1 : Int32), .int (0 : Int32), .int (0 : Int32)]))] ++ [cA I q_1 8 (fun _ => (0 : Int32))] ++ wT I (qT q_2 v_3) T0) H := hP
  have hD : va_D A ([(h, .inr (0, [.int (0 : Int32), .int (0 : Int32), .int (15 : Int32), .int (0 : Int32), .int (0 : Int32), .int (0 : Int32), .ref q_1, .ref q_2, .int (-1 : Int32), .int (0 : Int32), .int (0 : Int32)]))] ++ [cA I q_1 8 (fun _ => (0 : Int32))] ++ wT I (qT q_2 v_3) T0) := hD
  refine W.widen (k := 8) (n := 260) (Nat.le_of_ble_eq_true rfl) (Nat.le_of_ble_eq_true rfl) ?_
  exact xk_vretE (wf := fun v : Nat → Nat => wB I (qB h v) B0) (fun j : Nat => if j = 1 then q_1 else (qT q_2 v_3) j) hx hb hr hlocks hP hK hD hS dX0_init_69

set_option maxHeartbeats 1600000 in
set_option maxRecDepth 100000 in
theorem c_X2_init (l : Launch) (D : va_G) (I : ClassId) (h : Nat) (sz : Nat) : xMvE l D [(I, .int)] yX2_init wsX2_init { frames := 3, cells := 18, slots := 542, locals := 52 } [.ref h] sz ([(h, .inr (2, [.null, .null]))]) ((Nat → Nat) × (Nat → Nat)) (fun v : (Nat → Nat) × (Nat → Nat) => [cX h v.1 v.2] ++ wB I v.1 B0 ++ wB I v.2 B0) 18 542 := by
  refine xk_start (cc := cX2_init) (maxL := 1) (ret := none) (Qf := fun A => va_Qv (fun _ : (Nat → Nat) × (Nat → Nat) => True) (fun v => xB D [(I, .int)] A ((fun v : (Nat → Nat) × (Nat → Nat) => [cX h v.1 v.2] ++ wB I v.1 B0 ++ wB I v.2 B0) v)) A) (by decide) rfl (Nat.le_of_ble_eq_true rfl) ?_
  intro p e s m below meth c A H ls hst hAe hsz hl
  obtain ⟨hx, hb, hr, hts, hown, hlocks, hml, hin, hN, hK, hP, hD, hA, hS⟩ := hst
  have hl : lv_has ls 1 [(0, .ref h)] := hl
  have hP : va_P D vwCl ([(h, .inr (2, [.null, .null]))]) H := hP
  have hinX0 : ∀ w ∈ u_ws RX0 TX0 11, w ∈ wsX2_init := by decide +kernel
  have hinX2 : ∀ w ∈ u_ws RX2 TX2 2, w ∈ wsX2_init := by decide +kernel
  have w_1 := hts (.methodLink RX2 1 objectInit) (by decide +kernel)
  have w_2 := hts (.instanceMethod objectInit) (by decide +kernel)
  have w_3 := hts (.code objectInit ⟨#[0xb1]⟩ 1 none) (by decide +kernel)
  have w_4 := hts (.classLink RX2 7 RX0) (by decide +kernel)
  have w_5 := hts (.instantiable RX0 11) (by decide +kernel)
  have w_6 := hts (.initialized RX0) (by decide +kernel)
  have w_7 := hts (.instanceMethod yX0_init) (by decide +kernel)
  have w_8 := hts (.fieldLink RX2 10 "BridgeBells" "bridge" "LBridgeBells$Bridge;") (by decide +kernel)
  have w_9 := hts (.fieldLink RX2 16 "BridgeBells" "trial" "LBridgeBells$Bridge;") (by decide +kernel)
  refine lv_aload_n hx hb dX2_init_0 rfl (lv_at hl 0 rfl) ?_
  refine W.objInit hx hb hown w_1 w_2 w_3 rfl (by rw [hml]; exact hl.1) rfl dX2_init_1 (Nat.le_of_ble_eq_true rfl) (Nat.le_of_ble_eq_true rfl) ?_
  refine W.eq (g2 := F0 m 4 ls []) rfl ?_
  refine lv_aload_n hx hb dX2_init_4 rfl (lv_at hl 0 rfl) ?_
  refine va_new (ci := 0) (fs := [.int (0 : Int32), .int (0 : Int32), .int (0 : Int32), .int (0 : Int32), .int (0 : Int32), .int (0 : Int32), .null, .null, .int (0 : Int32), .int (0 : Int32), .int (0 : Int32)]) (C := RX0) (T := TX0) (N := 11) hx hb hts hinX0 tyX0 tyX0_ok hown w_4 w_5 w_6 hK hP hD hS hA rfl (fun j hj => by rcases (show j = 0 ∨ j = 1 ∨ j = 2 ∨ j = 3 ∨ j = 4 ∨ j = 5 ∨ j = 6 ∨ j = 7 ∨ j = 8 ∨ j = 9 ∨ j = 10 by omega) with rfl | rfl | rfl | rfl | rfl | rfl | rfl | rfl | rfl | rfl | rfl <;> rfl) (Nat.le_of_ble_eq_true rfl) (Nat.le_of_ble_eq_true rfl) dX2_init_5 (fun q_1 H hP hD hS => ?_)
  have hP : va_P D vwCl ([(h, .inr (2, [.null, .null]))] ++ [(q_1, .inr (0, [.int (0 : Int32), .int (0 : Int32), .int (0 : Int32), .int (0 : Int32), .int (0 : Int32), .int (0 : Int32), .null, .null, .int (0 : Int32), .int (0 : Int32), .int (0 : Int32)]))]) H := hP
  have hD : va_D A ([(h, .inr (2, [.null, .null]))] ++ [(q_1, .inr (0, [.int (0 : Int32), .int (0 : Int32), .int (0 : Int32), .int (0 : Int32), .int (0 : Int32), .int (0 : Int32), .null, .null, .int (0 : Int32), .int (0 : Int32), .int (0 : Int32)]))]) := hD
  refine lv_dup hx hb dX2_init_8 rfl ?_
  refine xk_callvE ([(h, .inr (2, [.null, .null]))]) [1] [0] hP hD hS hA (va_runIN (host := "BridgeBells") (As := []) (rest := [.ref q_1, .ref h]) ⟨hx, hb, hml, hown, hts⟩ (c_X0_init l D I q_1 H.size) ⟨va_cnB 0 hts gX2_init_X0_init_n9 rfl rfl rfl (hN.at 0 rfl) w_6 (by decide +kernel) ⟨Nat.le_of_ble_eq_true rfl, Nat.le_of_ble_eq_true rfl⟩, rfl, w_7⟩ (xk_pre (wc := [(q_1, .inr (0, [.int (0 : Int32), .int (0 : Int32), .int (0 : Int32), .int (0 : Int32), .int (0 : Int32), .int (0 : Int32), .null, .null, .int (0 : Int32), .int (0 : Int32), .int (0 : Int32)]))]) hN hP hK hD [1] rfl rfl) rfl rfl hl.1 rfl (lv_room (Nat.le_of_ble_eq_true rfl)) dX2_init_9 ⟨Nat.le_of_ble_eq_true rfl, Nat.le_of_ble_eq_true rfl⟩) rfl rfl rfl (by decide) (fun v_2 H locs hP hD hS => ?_)
  have hP : va_P D vwCl ([(h, .inr (2, [.null, .null]))] ++ wB I (qB q_1 v_2) B0) H := hP
  have hD : va_D A ([(h, .inr (2, [.null, .null]))] ++ wB I (qB q_1 v_2) B0) := hD
  refine va_putF (D := D) (ci := 2) (v := .ref q_1) (ty := tyX2 0) (C := RX2) (T := TX2) (N := 2) hx hb hts hinX2 tyX2 tyX2_ok nmX2 hown hK hP hD hS 0 rfl rfl 0 (by decide) w_8 (fun _ h9 => h9) rfl hin rfl (tyX2_ok 0 (by decide)) rfl rfl (Nat.le_of_ble_eq_true rfl) dX2_init_12 (fun H locs hP hD hS => ?_)
  have hP : va_P D vwCl ([(h, .inr (2, [.ref q_1, .null]))] ++ wB I (qB q_1 v_2) B0) H := hP
  have hD : va_D A ([(h, .inr (2, [.ref q_1, .null]))] ++ wB I (qB q_1 v_2) B0) := hD
  refine lv_aload_n hx hb dX2_init_15 rfl (lv_at hl 0 rfl) ?_
  refine va_new (ci := 0) (fs := [.int (0 : Int32), .int (0 : Int32), .int (0 : Int32), .int (0 : Int32), .int (0 : Int32), .int (0 : Int32), .null, .null, .int (0 : Int32), .int (0 : Int32), .int (0 : Int32)]) (C := RX0) (T := TX0) (N := 11) hx hb hts hinX0 tyX0 tyX0_ok hown w_4 w_5 w_6 hK hP hD hS hA rfl (fun j hj => by rcases (show j = 0 ∨ j = 1 ∨ j = 2 ∨ j = 3 ∨ j = 4 ∨ j = 5 ∨ j = 6 ∨ j = 7 ∨ j = 8 ∨ j = 9 ∨ j = 10 by omega) with rfl | rfl | rfl | rfl | rfl | rfl | rfl | rfl | rfl | rfl | rfl <;> rfl) (Nat.le_of_ble_eq_true rfl) (Nat.le_of_ble_eq_true rfl) dX2_init_16 (fun q_3 H hP hD hS => ?_)
  have hP : va_P D vwCl ([(h, .inr (2, [.ref q_1, .null]))] ++ wB I (qB q_1 v_2) B0 ++ [(q_3, .inr (0, [.int (0 : Int32), .int (0 : Int32), .int (0 : Int32), .int (0 : Int32), .int (0 : Int32), .int (0 : Int32), .null, .null, .int (0 : Int32), .int (0 : Int32), .int (0 : Int32)]))]) H := hP
  have hD : va_D A ([(h, .inr (2, [.ref q_1, .null]))] ++ wB I (qB q_1 v_2) B0 ++ [(q_3, .inr (0, [.int (0 : Int32), .int (0 : Int32), .int (0 : Int32), .int (0 : Int32), .int (0 : Int32), .int (0 : Int32), .null, .null, .int (0 : Int32), .int (0 : Int32), .int (0 : Int32)]))]) := hD
  refine lv_dup hx hb dX2_init_19 rfl ?_
  refine xk_callvE ([(h, .inr (2, [.ref q_1, .null])), cXB (qB q_1 v_2) B0.1, cA I ((qB q_1 v_2) 1) 8 B0.2.1, cXT (qB q_1 v_2) B0.2.2.1, cA I ((qB q_1 v_2) 3) 40 (B0.2.2.2 0), cA I ((qB q_1 v_2) 4) 40 (B0.2.2.2 1), cA I ((qB q_1 v_2) 5) 40 (B0.2.2.2 2), cA I ((qB q_1 v_2) 6) 40 (B0.2.2.2 3), cA I ((qB q_1 v_2) 7) 40 (B0.2.2.2 4), cA I ((qB q_1 v_2) 8) 40 (B0.2.2.2 5)]) [10] [0, 1, 2, 3, 4, 5, 6, 7, 8, 9] hP hD hS hA (va_runIN (host := "BridgeBells") (As := []) (rest := [.ref q_3, .ref h]) ⟨hx, hb, hml, hown, hts⟩ (c_X0_init l D I q_3 H.size) ⟨va_cnB 0 hts gX2_init_X0_init_n9 rfl rfl rfl (hN.at 0 rfl) w_6 (by decide +kernel) ⟨Nat.le_of_ble_eq_true rfl, Nat.le_of_ble_eq_true rfl⟩, rfl, w_7⟩ (xk_pre (wc := [(q_3, .inr (0, [.int (0 : Int32), .int (0 : Int32), .int (0 : Int32), .int (0 : Int32), .int (0 : Int32), .int (0 : Int32), .null, .null, .int (0 : Int32), .int (0 : Int32), .int (0 : Int32)]))]) hN hP hK hD [10] rfl rfl) rfl rfl hl.1 rfl (lv_room (Nat.le_of_ble_eq_true rfl)) dX2_init_20 ⟨Nat.le_of_ble_eq_true rfl, Nat.le_of_ble_eq_true rfl⟩) rfl rfl rfl (by decide) (fun v_4 H locs hP hD hS => ?_)
  have hP : va_P D vwCl ([(h, .inr (2, [.ref q_1, .null]))] ++ wB I (qB q_1 v_2) B0 ++ wB I (qB q_3 v_4) B0) H := hP
  have hD : va_D A ([(h, .inr (2, [.ref q_1, .null]))] ++ wB I (qB q_1 v_2) B0 ++ wB I (qB q_3 v_4) B0) := hD
  refine va_putF (D := D) (ci := 2) (v := .ref q_3) (ty := tyX2 1) (C := RX2) (T := TX2) (N := 2) hx hb hts hinX2 tyX2 tyX2_ok nmX2 hown hK hP hD hS 0 rfl rfl 1 (by decide) w_9 (fun _ h9 => h9) rfl hin rfl (tyX2_ok 1 (by decide)) rfl rfl (Nat.le_of_ble_eq_true rfl) dX2_init_23 (fun H locs hP hD hS => ?_)
  have hP : va_P D vwCl ([(h, .inr (2, [.ref q_1, .ref q_3]))] ++ wB I (qB q_1 v_2) B0 ++ wB I (qB q_3 v_4) B0) H := hP
  have hD : va_D A ([(h, .inr (2, [.ref q_1, .ref q_3]))] ++ wB I (qB q_1 v_2) B0 ++ wB I (qB q_3 v_4) B0) := hD
  refine W.widen (k := 18) (n := 542) (Nat.le_of_ble_eq_true rfl) (Nat.le_of_ble_eq_true rfl) ?_
  exact xk_vretE (wf := fun v : (Nat → Nat) × (Nat → Nat) => [cX h v.1 v.2] ++ wB I v.1 B0 ++ wB I v.2 B0) (qB q_1 v_2, qB q_3 v_4) hx hb hr hlocks hP hK hD hS dX2_init_26
end
section
/-! OWN KIT 5: the law's helpers, which catch -/
section XK5
abbrev xXF : String → State → State → Prop := vx_X (fun _ : Unit => False) (fun _ _ _ => False) (fun _ => False)
abbrev cO (J : ClassId) (ao : Nat) (g : Nat → Int64) : Nat × va_E := (ao, .inl (J, 1, .inr (.inl g)))
abbrev xQL (D : va_G) (tys : List (ClassId × FieldType)) (A : Nat → Prop) (kx Rv : Int32) (wf : XBr × (Nat → Int64) → va_W) := va_Qi (fun (r : Int32) (v : XBr × (Nat → Int64)) => r = kx ∧ (kx = 0 → v.2 0 = Rv.toInt64)) (fun v => xB D tys A (wf v)) A
abbrev xML (l : Launch) (D : va_G) (tys : List (ClassId × FieldType)) (y : MethodName) (ws : List Cond) (rm : Room) (av : List Value) (sz : Nat) (wc : va_W) (kx Rv : Int32) (wf : XBr × (Nat → Int64) → va_W) (mc ms : Nat) := vx_Met l y ws rm (xPcX D tys av sz wc) (xQL D tys (va_A wc sz) kx Rv wf) xXF mc ms (va_A wc sz)
theorem xk_startL {l : Launch} {y : MethodName} {ws ws' : List Cond} {rm : Room} {D : va_G} {tys : List (ClassId × FieldType)} {av : List Value} {sz : Nat} {wc : va_W} {Qf : (Nat → Prop) → Array Value → State → Outcome → State → Prop} {XC : String → State → State → Prop} {mc ms : Nat} {cc : ByteArray} {maxL : Nat} {ret : Option FieldType} {hh : List (Nat × Nat × Nat × Nat)}
    (hy : plainName y.cls = true) (hw : ws = Cond.codeWith y cc maxL ret hh :: ws') (hn : (lg_sl av).length ≤ maxL)
    (body : ∀ (p : Program) (e : Env) (s : State) (m : MethodId) (below : List Frame) (meth : Method) (c : Code) (A : Nat → Prop) (H : Heap) (ls : Array Slot), xSt p s m meth c cc ret ws y av.toArray maxL D tys wc A H → va_A wc s.heap.size = A → s.heap.size = sz → lv_has ls maxL (lv_args 0 av) → c.exceptionTable.toList = tableOf hh → xX A s s.heap → W p l e rm s m av.toArray below meth c H [] 0 0 (vx_MQ below (Qf A) XC av.toArray s mc ms A) (F0 m 0 ls [])) :
    vx_Met l y ws rm (xPcX D tys av sz wc) (Qf (va_A wc sz)) XC mc ms (va_A wc sz) := by
  refine vx_ofWH (cc := cc) (maxL := maxL) (ret := ret) (hh := hh) hy hw ?_
  intro p e s m args below meth c s₁ B hml hv
  obtain ⟨rfl, hsz, hP, hK, hD0, hN, hXX⟩ := hv
  subst hsz
  have hl := lv_entry av (n := maxL) hn
  rw [lg_entry_eq]
  have hts := atoms_spec (ws := ws) B.pre
  exact body p e s m below meth c (va_A wc s.heap.size) s.heap _ ⟨B.exec, B.bytes, B.returns, hts, findClass_of_methodNamed B.named, B.notSynchronized, hml, (name_of_methodNamed B.named B.method).1, hN, hK, hP, hD0.self, fun q h => Or.inr h, va_S.rf⟩ rfl rfl hl (vx_table (x := y) B (hts _ (by rw [hw]; exact List.mem_cons_self))) hXX
variable {p : Program} {l : Launch} {e : Env} {R : Room} {s : State} {m : MethodId} {args : Array Value} {below : List Frame} {meth : Method} {c : Code} {H : Heap} {locs : List Loc} {cells slots : Nat} {Q : State → Prop}
variable {cc : ByteArray} {pc : Nat} {ls : Array Slot} {rest st0 : List Value} {D : va_G} {tys : List (ClassId × FieldType)} {A : Nat → Prop} {H0 : Heap}
theorem xk_preX {av : List Value} {wsA wc : va_W} (hN : xNw s) (hXX : xX A s s.heap) (hS : va_S A s.heap H locs) (hA : ∀ q, s.heap.size ≤ q → A q) (hP : va_P D vwCl wsA H) (hK : va_K D vwCl tys s) (hD : va_D A wsA) (isC : List Nat) (hn : va_nd isC = true) (hC : isC.map (fun i => wsA[i]?) = wc.map some) : PreS s H (xPcX D tys av H.size wc) av :=
  ⟨fun a U g mk q => by
    obtain ⟨q0, q1, qP, qK, qD, qN, qX⟩ := q
    exact ⟨q0, q1, qP, va_K.moved (u := U) (U := U.calling g mk a) (Vm.Alike.refl U.vm) qK, qD, xNw.same (u := U) (U := U.calling g mk a) rfl qN, xX.same (u := U) (U := U.calling g mk a) rfl qX⟩,
   fun U hU hW => ⟨rfl, by rw [hU], by rw [hU]; exact hP.sub isC (xfm hC), va_K.moved hW.alike hK, (hD.sub isC hn hC).weaken (fun _ _ _ _ => trivial), hN.warm hW, by
    rw [hU]
    exact ((hXX.kept hS.2.1).narrow (va_free (wc := wc) hD hS hA isC hC)).warm hW⟩⟩
theorem xk_preVX {av : List Value} {wsA wc : va_W} {a q0 ci : Nat} {q : vw_C} {fs : List Value} (hN : xNw s) (hXX : xX A s s.heap) (hS : va_S A s.heap H locs) (hA : ∀ q, s.heap.size ≤ q → A q) (hP : va_P D vwCl wsA H) (hK : va_K D vwCl tys s) (hD : va_D A wsA) (isC : List Nat) (hn : va_nd isC = true) (hC : isC.map (fun i => wsA[i]?) = wc.map some) (he : wsA[q0]? = some (a, .inr (ci, fs))) (hc : vwCl[ci]? = some q) : PreV s H q.1 a (xPcX D tys (.ref a :: av) H.size wc) av :=
  have h := xk_preX (av := .ref a :: av) hN hXX hS hA hP hK hD isC hn hC
  ⟨h.1, va_recv hK hP hc he, h.2⟩
theorem xk_callX {V : Type} {mc ms : Nat} {a9 : Array Value} {Rv kx : Int32} {nm : List (String × Int32)} {wsA wc : va_W} {w1 : V → va_W} (wr : va_W) (w2 : V → va_W) (isC isR perm : List Nat) (hP : va_P D vwCl wsA H) (hD : va_D A wsA) (hS : va_S A H0 H locs) (hA : ∀ q, H0.size ≤ q → A q)
    (hr : vx_Run p l e R s m args below meth c H locs cells slots mc ms (F0 m pc ls st0) rest (xQiX D tys (va_A wc H.size) V Rv kx w1 a9) (xXC D tys (va_A wc H.size) V nm kx w1) (va_A wc H.size))
    (hC : isC.map (fun i => wsA[i]?) = wc.map some) (hR : isR.map (fun i => wsA[i]?) = wr.map some) (hn : va_nd isR = true) (hdis : ∀ i ∈ isR, i ∉ isC) (hpn : va_nd perm = true) (hp : ∀ v, perm.map (fun i => (wr ++ w1 v)[i]?) = (w2 v).map some)
    (ke : ∀ (E : String) (ce : Cell) (q9 : Addr) (v : V) (H1 : Heap) (locs1 : List Loc), (E, kx) ∈ nm → va_P D vwCl (w2 v) H1 → va_D A (w2 v) → va_S A H0 H1 locs1 → H1[q9]? = some ce → ce.vm = .none → s.vm.findClass E = some ce.cls → vx_W p l e R s m args below meth c H1 locs1 (cells + mc) (slots + ms) Q (F0 m pc ls rest) q9)
    (kk : ∀ (v : V) (H1 : Heap) (locs1 : List Loc), kx = 0 → va_P D vwCl (w2 v) H1 → va_D A (w2 v) → va_S A H0 H1 locs1 → W p l e R s m args below meth c H1 locs1 (cells + mc) (slots + ms) Q (F0 m (pc + 3) ls (.int Rv :: rest))) : W p l e R s m args below meth c H locs cells slots Q (F0 m pc ls st0) := by
  have hF := va_free (wc := wc) hD hS hA isC hC
  refine vx_calli hr hS (fun q _ h => hF q h) hF (fun q _ h => hF q h) (fun E ce q9 u t H1 locs1 ht hvm hp9 hB hz1 hk1 hS1 hce hcv hcl => ?_) (fun r u t H1 locs1 ht hvm hw hB hz1 hk1 hS1 => ?_)
  · obtain ⟨h1, h2⟩ := xk_joined hP hD hS hA isC isR perm hC hR hn hdis hpn (hp u) ht hB.2 hk1
    exact ke E ce q9 u H1 locs1 hB.1 h1 h2 hS1 hce hcv hcl
  · obtain ⟨hk0, hw⟩ := hw
    subst hw
    obtain ⟨h1, h2⟩ := xk_joined hP hD hS hA isC isR perm hC hR hn hdis hpn (hp u) ht hB hk1
    exact kk u H1 locs1 hk0 h1 h2 hS1
theorem xk_callL {mc ms : Nat} {a9 : Array Value} {Rv kx : Int32} {wsA wc : va_W} {w1 : XBr × (Nat → Int64) → va_W} (wr : va_W) (w2 : XBr × (Nat → Int64) → va_W) (isC isR perm : List Nat) (hP : va_P D vwCl wsA H) (hD : va_D A wsA) (hS : va_S A H0 H locs) (hA : ∀ q, H0.size ≤ q → A q)
    (hr : vx_Run p l e R s m args below meth c H locs cells slots mc ms (F0 m pc ls st0) rest (xQL D tys (va_A wc H.size) kx Rv w1 a9) xXF (va_A wc H.size))
    (hC : isC.map (fun i => wsA[i]?) = wc.map some) (hR : isR.map (fun i => wsA[i]?) = wr.map some) (hn : va_nd isR = true) (hdis : ∀ i ∈ isR, i ∉ isC) (hpn : va_nd perm = true) (hp : ∀ v, perm.map (fun i => (wr ++ w1 v)[i]?) = (w2 v).map some)
    (kk : ∀ (v : XBr × (Nat → Int64)) (H1 : Heap) (locs1 : List Loc), (kx = 0 → v.2 0 = Rv.toInt64) → va_P D vwCl (w2 v) H1 → va_D A (w2 v) → va_S A H0 H1 locs1 → W p l e R s m args below meth c H1 locs1 (cells + mc) (slots + ms) Q (F0 m (pc + 3) ls (.int kx :: rest))) : W p l e R s m args below meth c H locs cells slots Q (F0 m pc ls st0) := by
  have hF := va_free (wc := wc) hD hS hA isC hC
  refine vx_calli hr hS (fun q _ h => hF q h) hF (fun q _ h => h.elim) (fun E ce q9 u t H1 locs1 ht hvm hp9 hB hz1 hk1 hS1 hce hcv hcl => hp9.elim) (fun r u t H1 locs1 ht hvm hw hB hz1 hk1 hS1 => ?_)
  obtain ⟨hw, hk0⟩ := hw
  subst hw
  obtain ⟨h1, h2⟩ := xk_joined hP hD hS hA isC isR perm hC hR hn hdis hpn (hp u) ht hB hk1
  exact kk u H1 locs1 hk0 h1 h2 hS1
theorem xk_iretL {wf : XBr × (Nat → Int64) → va_W} (v0 : XBr × (Nat → Int64)) {v kx Rv : Int32} {XC : String → State → State → Prop} {ty : FieldType} (hx : p.tables.exec = Jvm.exec) (hb : c.code = cc) (hr : meth.sig.returnType = some ty) (hn : narrow ty (.int v) = .int v) (hlocks : meth.locks = false) (hP : va_P D vwCl (wf v0) H) (hK : va_K D vwCl tys s) (hD : va_D A (wf v0)) (hS : va_S A s.heap H locs) (hv : v = kx) (h0 : kx = 0 → v0.2 0 = Rv.toInt64) (hdg : decode cc pc = .ok (.ireturn, 1)) :
    W p l e R s m args below meth c H locs cells slots (vx_MQ below (xQL D tys A kx Rv wf) XC args s cells slots A) (F0 m pc ls [.int v]) :=
  vx_ret (W.zret hx hb hr hn (fun t ht hW => ⟨⟨v, v0, rfl, ⟨hv, h0⟩, by rw [ht]; exact hP, va_K.moved hW.alike hK, hD⟩, hS.F ht⟩) hS.2.2 hdg hlocks)
end XK5
end
section
/-! OWN KIT 6: calls of the class by the law: the class' cells in front, the rest behind -/
theorem w_left {wc wr : va_W} {k : Nat} {q : Nat × va_E} (h : wc[k]? = some q) : (wc ++ wr)[k]? = some q := by
  rw [List.getElem?_append_left (List.getElem?_eq_some_iff.mp h).1]
  exact h
theorem w_right {wc wr : va_W} {k : Nat} {q : Nat × va_E} (h : wr[k]? = some q) : (wc ++ wr)[wc.length + k]? = some q := by
  rw [List.getElem?_append_right (Nat.le_add_right _ _), Nat.add_sub_cancel_left]
  exact h
theorem met_of_vx {l : Launch} {y : MethodName} {ws : List Cond} {rm : Room} {Pc : Array Value → State → Prop} {Qc : Array Value → State → Outcome → State → Prop} {XC : String → State → State → Prop} {mc ms : Nat} {free : Addr → Prop} (h : vx_Met l y ws rm Pc Qc XC mc ms free) (hX : ∀ E st t, ¬ XC E st t) : Met l y ws rm Pc Qc mc ms free := by
  intro p e ha hc hk s m args below hf happ hp hk'
  obtain ⟨n, o, h1, h2, h3, h4⟩ := h p e ha hc hk s m args below hf happ hp hk'
  refine ⟨n, o, h1, h2, h3, ?_⟩
  rcases h4 with h4 | ⟨q, -, E, ce, L, hx, -⟩
  · exact h4
  · exact absurd hx (hX _ _ _)
theorem met_post {l : Launch} {y : MethodName} {ws : List Cond} {rm : Room} {Pc : Array Value → State → Prop} {Qc Qc' : Array Value → State → Outcome → State → Prop} {mc ms : Nat} {free : Addr → Prop} (h : Met l y ws rm Pc Qc mc ms free) (hQ : ∀ a s o t, Qc a s o t → Qc' a s o t) : Met l y ws rm Pc Qc' mc ms free := by
  intro p e ha hc hk s m args below hf happ hp hk'
  obtain ⟨n, o, h1, h2, h3, h4, h5⟩ := h p e ha hc hk s m args below hf happ hp hk'
  exact ⟨n, o, h1, h2, h3, hQ _ _ _ _ h4, h5⟩
/-- a method that throws, where it doesn't -/
theorem met_of_xMX {l : Launch} {D : va_G} {tys : List (ClassId × FieldType)} {y : MethodName} {ws : List Cond} {rm : Room} {av : List Value} {sz : Nat} {wc : va_W} {V : Type} {nm : List (String × Int32)} {R R' kx : Int32} {wf : V → va_W} {mc ms : Nat} (h : xMX l D tys y ws rm av sz wc V nm R kx wf mc ms) (hk : kx = 0) (hn : ∀ E, (E, (0 : Int32)) ∉ nm) (hR : R = R') :
    Met l y ws rm (xPcX D tys av sz wc) (xQiE D tys (va_A wc sz) V R' wf) mc ms (va_A wc sz) := by
  subst hk
  subst hR
  refine met_post (met_of_vx h (fun E st t hx => ?_)) (fun a s o t hq => ?_)
  · obtain ⟨u, -, hb, -⟩ := hx
    exact hn E hb.1
  · obtain ⟨⟨r, u, h1, h2, h3⟩, h4⟩ := hq
    exact ⟨⟨r, u, h1, h2.2, h3⟩, h4⟩
theorem nm1 (a : String) : ∀ E, (E, (0 : Int32)) ∉ [(a, (1 : Int32))] := by
  intro E h
  simp only [List.mem_cons, List.not_mem_nil, or_false, Prod.mk.injEq] at h
  exact absurd h.2 (by decide)
theorem nm2 (a b : String) : ∀ E, (E, (0 : Int32)) ∉ [(a, (1 : Int32)), (b, (2 : Int32))] := by
  intro E h
  simp only [List.mem_cons, List.not_mem_nil, or_false, Prod.mk.injEq] at h
  rcases h with h | h
  · exact absurd h.2 (by decide)
  · exact absurd h.2 (by decide)
section XK6
abbrev WX (I : ClassId) (h : Nat) (qb qt : Nat → Nat) (b z : XBr) : va_W := [cX h qb qt] ++ wB I qb b ++ wB I qt z
variable {p : Program} {l : Launch} {e : Env} {R : Room} {s : State} {m : MethodId} {args : Array Value} {below : List Frame} {meth : Method} {c : Code} {H : Heap} {locs : List Loc} {cells slots : Nat} {Q : State → Prop}
variable {cc : ByteArray} {pc : Nat} {ls : Array Slot} {rest st0 : List Value} {D : va_G} {tys : List (ClassId × FieldType)} {A : Nat → Prop} {H0 : Heap}
theorem xr_free {wc wr : va_W} (hD : va_D A (wc ++ wr)) (hS : va_S A H0 H locs) (hA : ∀ q, H0.size ≤ q → A q) : ∀ q, va_A wc H.size q → A q := by
  intro q h
  rcases h with ⟨k, e, h⟩ | h
  · exact hD.2 k (q, e) (w_left h)
  · exact hA q (Nat.le_trans hS.1 h)
theorem xr_joined {wc wr w1 : va_W} {H1 : Heap} {t : State} (hP : va_P D vwCl (wc ++ wr) H) (hD : va_D A (wc ++ wr)) (hS : va_S A H0 H locs) (hA : ∀ q, H0.size ≤ q → A q) (ht : t.heap = H1) (hB : xB D tys (va_A wc H.size) w1 t) (hk : ∀ q : Nat, q < H.size → ¬ va_A wc H.size q → H1[q]? = H[q]?) : va_P D vwCl (w1 ++ wr) H1 ∧ va_D A (w1 ++ wr) := by
  obtain ⟨hP1, hK1, hD1⟩ := hB
  rw [ht] at hP1
  have hF := xr_free hD hS hA
  have hn : ∀ (k : Nat) (q : Nat × va_E), wr[k]? = some q → q.1 < H.size ∧ ¬ va_A wc H.size q.1 := fun k q hq => by
    have h1 := w_right (wc := wc) hq
    have h2 := (hP _ q h1).lt
    refine ⟨h2, fun h => ?_⟩
    rcases h with ⟨j, e, hj⟩ | h
    · have hjl := (List.getElem?_eq_some_iff.mp hj).1
      have h3 := hD.1 _ _ _ _ h1 (w_left (wr := wr) hj) rfl
      omega
    · omega
  refine ⟨hP1.app (fun k q hq => (hP _ q (w_right hq)).kept (hk q.1 (hn k q hq).1 (hn k q hq).2)), (hD1.weaken (fun _ _ _ h => hF _ h)).app ⟨fun i j p q hi hj h => ?_, fun k q hq => hD.2 _ q (w_right hq)⟩ (fun i j p q hi hj e => (hn j q hj).2 (e ▸ hD1.2 i p hi))⟩
  have := hD.1 _ _ _ _ (w_right (wc := wc) hi) (w_right (wc := wc) hj) h
  omega
theorem xr_pre {av : List Value} {wc wr : va_W} (hN : xNw s) (hP : va_P D vwCl (wc ++ wr) H) (hK : va_K D vwCl tys s) (hD : va_D A (wc ++ wr)) : PreS s H (xPc D tys av H.size wc) av :=
  ⟨fun a U g mk q => by
    obtain ⟨q0, q1, qP, qK, qD, qN⟩ := q
    exact ⟨q0, q1, qP, va_K.moved (u := U) (U := U.calling g mk a) (Vm.Alike.refl U.vm) qK, qD, xNw.same (u := U) (U := U.calling g mk a) rfl qN⟩,
   fun U hU hW => ⟨rfl, by rw [hU], by rw [hU]; exact fun k q hk => hP k q (w_left hk), va_K.moved hW.alike hK, ⟨fun i j p q hi hj h => hD.1 i j p q (w_left hi) (w_left hj) h, fun _ _ _ => trivial⟩, hN.warm hW⟩⟩
theorem xr_preV {av : List Value} {wc wr : va_W} {a ci : Nat} {q : vw_C} {fs : List Value} (hN : xNw s) (hP : va_P D vwCl (wc ++ wr) H) (hK : va_K D vwCl tys s) (hD : va_D A (wc ++ wr)) (he : (wc ++ wr)[0]? = some (a, .inr (ci, fs))) (hc : vwCl[ci]? = some q) : PreV s H q.1 a (xPc D tys (.ref a :: av) H.size wc) av :=
  have h := xr_pre (av := .ref a :: av) hN hP hK hD
  ⟨h.1, va_recv hK hP hc he, h.2⟩
theorem xr_preX {av : List Value} {wc wr : va_W} (hN : xNw s) (hXX : xX A s s.heap) (hS : va_S A s.heap H locs) (hA : ∀ q, s.heap.size ≤ q → A q) (hP : va_P D vwCl (wc ++ wr) H) (hK : va_K D vwCl tys s) (hD : va_D A (wc ++ wr)) : PreS s H (xPcX D tys av H.size wc) av :=
  ⟨fun a U g mk q => by
    obtain ⟨q0, q1, qP, qK, qD, qN, qX⟩ := q
    exact ⟨q0, q1, qP, va_K.moved (u := U) (U := U.calling g mk a) (Vm.Alike.refl U.vm) qK, qD, xNw.same (u := U) (U := U.calling g mk a) rfl qN, xX.same (u := U) (U := U.calling g mk a) rfl qX⟩,
   fun U hU hW => ⟨rfl, by rw [hU], by rw [hU]; exact fun k q hk => hP k q (w_left hk), va_K.moved hW.alike hK, ⟨fun i j p q hi hj h => hD.1 i j p q (w_left hi) (w_left hj) h, fun _ _ _ => trivial⟩, hN.warm hW, by
    rw [hU]
    exact ((hXX.kept hS.2.1).narrow (xr_free hD hS hA)).warm hW⟩⟩
theorem xr_preVX {av : List Value} {wc wr : va_W} {a ci : Nat} {q : vw_C} {fs : List Value} (hN : xNw s) (hXX : xX A s s.heap) (hS : va_S A s.heap H locs) (hA : ∀ q, s.heap.size ≤ q → A q) (hP : va_P D vwCl (wc ++ wr) H) (hK : va_K D vwCl tys s) (hD : va_D A (wc ++ wr)) (he : (wc ++ wr)[0]? = some (a, .inr (ci, fs))) (hc : vwCl[ci]? = some q) : PreV s H q.1 a (xPcX D tys (.ref a :: av) H.size wc) av :=
  have h := xr_preX (av := .ref a :: av) hN hXX hS hA hP hK hD
  ⟨h.1, va_recv hK hP hc he, h.2⟩
theorem xr_calliE {V : Type} {mc ms : Nat} {a9 : Array Value} {Rv : Int32} {wc wr : va_W} {w1 : V → va_W} (hP : va_P D vwCl (wc ++ wr) H) (hD : va_D A (wc ++ wr)) (hS : va_S A H0 H locs) (hA : ∀ q, H0.size ≤ q → A q)
    (hr : va_Run p l e R s m args below meth c H locs cells slots mc ms (F0 m pc ls st0) rest (xQiE D tys (va_A wc H.size) V Rv w1 a9) (va_A wc H.size))
    (kk : ∀ (v : V) (H1 : Heap) (locs1 : List Loc), va_P D vwCl (w1 v ++ wr) H1 → va_D A (w1 v ++ wr) → va_S A H0 H1 locs1 → W p l e R s m args below meth c H1 locs1 (cells + mc) (slots + ms) Q (F0 m (pc + 3) ls (.int Rv :: rest))) : W p l e R s m args below meth c H locs cells slots Q (F0 m pc ls st0) := by
  have hF := xr_free hD hS hA
  refine va_calli hr hS (fun q _ h => hF q h) hF (fun r u t H1 locs1 ht hvm hw hB hz1 hk1 hS1 => ?_)
  have hw : r = Rv := hw
  subst hw
  obtain ⟨h1, h2⟩ := xr_joined hP hD hS hA ht hB hk1
  exact kk u H1 locs1 h1 h2 hS1
theorem xr_calli {mc ms : Nat} {a9 : Array Value} {Rv R' : Int32} {wc wr w1 : va_W} (hR : Rv = R') (hP : va_P D vwCl (wc ++ wr) H) (hD : va_D A (wc ++ wr)) (hS : va_S A H0 H locs) (hA : ∀ q, H0.size ≤ q → A q)
    (hr : va_Run p l e R s m args below meth c H locs cells slots mc ms (F0 m pc ls st0) rest (xQi D tys (va_A wc H.size) Rv w1 a9) (va_A wc H.size))
    (kk : ∀ (H1 : Heap) (locs1 : List Loc), va_P D vwCl (w1 ++ wr) H1 → va_D A (w1 ++ wr) → va_S A H0 H1 locs1 → W p l e R s m args below meth c H1 locs1 (cells + mc) (slots + ms) Q (F0 m (pc + 3) ls (.int R' :: rest))) : W p l e R s m args below meth c H locs cells slots Q (F0 m pc ls st0) := by
  subst hR
  have hF := xr_free hD hS hA
  refine va_calli hr hS (fun q _ h => hF q h) hF (fun r u t H1 locs1 ht hvm hw hB hz1 hk1 hS1 => ?_)
  have hw : r = Rv := hw
  subst hw
  obtain ⟨h1, h2⟩ := xr_joined hP hD hS hA ht hB hk1
  exact kk H1 locs1 h1 h2 hS1
theorem xr_calll {mc ms : Nat} {a9 : Array Value} {Rv : Int64} {wc wr w1 : va_W} (hP : va_P D vwCl (wc ++ wr) H) (hD : va_D A (wc ++ wr)) (hS : va_S A H0 H locs) (hA : ∀ q, H0.size ≤ q → A q)
    (hr : va_Run p l e R s m args below meth c H locs cells slots mc ms (F0 m pc ls st0) rest (xQl D tys (va_A wc H.size) Rv w1 a9) (va_A wc H.size))
    (kk : ∀ (H1 : Heap) (locs1 : List Loc), va_P D vwCl (w1 ++ wr) H1 → va_D A (w1 ++ wr) → va_S A H0 H1 locs1 → W p l e R s m args below meth c H1 locs1 (cells + mc) (slots + ms) Q (F0 m (pc + 3) ls (.long Rv :: rest))) : W p l e R s m args below meth c H locs cells slots Q (F0 m pc ls st0) := by
  have hF := xr_free hD hS hA
  refine va_calll hr hS (fun q _ h => hF q h) hF (fun r u t H1 locs1 ht hvm hw hB hz1 hk1 hS1 => ?_)
  have hw : r = Rv := hw
  subst hw
  obtain ⟨h1, h2⟩ := xr_joined hP hD hS hA ht hB hk1
  exact kk H1 locs1 h1 h2 hS1
theorem xr_calld {mc ms : Nat} {a9 : Array Value} {Rv : UInt64} {wc wr w1 : va_W} (hP : va_P D vwCl (wc ++ wr) H) (hD : va_D A (wc ++ wr)) (hS : va_S A H0 H locs) (hA : ∀ q, H0.size ≤ q → A q)
    (hr : va_Run p l e R s m args below meth c H locs cells slots mc ms (F0 m pc ls st0) rest (xQd D tys (va_A wc H.size) Rv w1 a9) (va_A wc H.size))
    (kk : ∀ (H1 : Heap) (locs1 : List Loc), va_P D vwCl (w1 ++ wr) H1 → va_D A (w1 ++ wr) → va_S A H0 H1 locs1 → W p l e R s m args below meth c H1 locs1 (cells + mc) (slots + ms) Q (F0 m (pc + 3) ls (.double Rv :: rest))) : W p l e R s m args below meth c H locs cells slots Q (F0 m pc ls st0) := by
  have hF := xr_free hD hS hA
  refine va_calld hr hS (fun q _ h => hF q h) hF (fun r u t H1 locs1 ht hvm hw hB hz1 hk1 hS1 => ?_)
  have hw : r = Rv := hw
  subst hw
  obtain ⟨h1, h2⟩ := xr_joined hP hD hS hA ht hB hk1
  exact kk H1 locs1 h1 h2 hS1
/-- below: a number below n -/
def r_L_below (v n : Int32) : Int32 := (v &&& 2147483647) - (v &&& 2147483647) / n * n
theorem c_L_below (l : Launch) (D : va_G) (I : ClassId) (sz : Nat) (v n : Int32) (hn : ¬ n = 0) : xMi l D [(I, .int)] yL_below wsL_below { frames := 0, cells := 0, slots := 0, locals := 0 } [.int v, .int n] sz [] (r_L_below v n) [] 0 0 := by
  refine xk_start (cc := cL_below) (maxL := 2) (ret := (some .int)) (Qf := fun A => xQi D [(I, .int)] A (r_L_below v n) []) (by decide) rfl (Nat.le_of_ble_eq_true rfl) ?_
  intro p e s m below meth c A H ls hst hAe hsz hl
  obtain ⟨hx, hb, hr, hts, hown, hlocks, hml, hin, hN, hK, hP, hD, hA, hS⟩ := hst
  have hl : lv_has ls 2 [(0, .int v), (1, .int n)] := hl
  refine lv_iload_n hx hb dL_below_0 rfl (lv_at hl 0 rfl) ?_
  refine lv_ldc hx hb hown (hts (.constant RL 7 (2147483647)) (by decide +kernel)) dL_below_1 ?_
  refine lv_iand hx hb dL_below_3 ?_
  refine lv_iload_n hx hb dL_below_4 rfl (lv_at hl 1 rfl) ?_
  refine lv_irem hx hb dL_below_5 hn ?_
  exact xk_iret (wf := fun _ : Unit => ([] : va_W)) (u := ()) hx hb hr rfl hlocks hP hK hD hS rfl rfl dL_below_6
theorem and31 (v : Int32) : 0 ≤ (v &&& 2147483647).toInt := by
  have h2 : (v &&& (2147483647 : Int32)).toBitVec.msb = false := by
    rw [Int32.toBitVec_and, BitVec.msb_and]
    have h9 : (2147483647 : Int32).toBitVec.msb = false := by decide
    rw [h9, Bool.and_false]
  rw [BitVec.msb_eq_toInt] at h2
  have h3 := of_decide_eq_false h2
  show 0 ≤ (v &&& (2147483647 : Int32)).toBitVec.toInt
  omega
theorem below_nI (v n : Int32) (N : Nat) (hn : n = nI N) (h0 : 0 < N) (h1 : N < 1000) : ∃ j : Nat, j < N ∧ r_L_below v n = nI j := by
  have h3 := and31 v
  have hb := Int32.toInt_lt (v &&& 2147483647)
  have hb2 : (2 : Int) ^ 31 = 2147483648 := by decide
  unfold r_L_below
  generalize v &&& 2147483647 = x at h3 hb
  have e : n.toInt = (N : Int) := by rw [hn]; exact nI_toInt (by omega)
  have hm1 : ¬ n = -1 := by
    intro q
    rw [q] at e
    have : (-1 : Int32).toInt = -1 := by decide
    omega
  have hd : (x / n).toInt = x.toInt / (N : Int) := by
    rw [Int32.toInt_div_of_ne_right _ _ hm1, e, Int.tdiv_eq_ediv_of_nonneg h3]
  have hNp : (0 : Int) < N := by omega
  have hq0 : 0 ≤ x.toInt / (N : Int) := Int.ediv_nonneg h3 (by omega)
  have hme := Int.emod_def x.toInt (N : Int)
  have hm0 := Int.emod_nonneg x.toInt (show (N : Int) ≠ 0 by omega)
  have hm2 := Int.emod_lt_of_pos x.toInt hNp
  have hmul : (x / n * n).toInt = x.toInt / (N : Int) * (N : Int) := by
    rw [Int32.toInt_mul, hd, e]
    have : x.toInt / (N : Int) * (N : Int) = (N : Int) * (x.toInt / (N : Int)) := Int.mul_comm _ _
    exact i_bm (by omega) (by omega)
  have hsub : (x - x / n * n).toInt = x.toInt % (N : Int) := by
    have : x.toInt / (N : Int) * (N : Int) = (N : Int) * (x.toInt / (N : Int)) := Int.mul_comm _ _
    rw [toInt_subS (by rw [hmul]; omega) (by rw [hmul]; omega), hmul]
    omega
  refine ⟨(x.toInt % (N : Int)).toNat, by omega, Int32.toInt_inj.mp ?_⟩
  rw [hsub, nI_toInt (by omega)]
  omega
/-- one of the script's numbers, or made up behind its end: any number -/
theorem c_L_cell (l : Launch) (b0 L : Nat) (sc : Nat → Int32) (k : Int32) (hk : 0 ≤ k.toInt) (hL : L ≤ 260) (sz : Nat) : Met l yL_cell wsL_cell { frames := 0, cells := 0, slots := 0, locals := 0 } (va_Pc [.ref b0, .int k] (fun U => U.heap.size = sz ∧ va_X b0 L sc U U.heap)) (va_Qi (fun (_ : Int32) (_ : Unit) => True) (fun _ _ => True) (fun q => sz ≤ q)) 0 0 (fun q => sz ≤ q) := by
  refine Met.ofW (cc := cL_cell) (maxL := 2) (ret := some .int) (by decide) rfl ?_
  intro p e s m args below meth c s₁ B hml hv
  obtain ⟨rfl, hsz, hX⟩ := hv
  subst hsz
  have hts := atoms_spec (ws := wsL_cell) B.pre
  have hown := findClass_of_methodNamed B.named
  have hx := B.exec
  have hb := B.bytes
  have hr := B.returns
  have hlocks := B.notSynchronized
  have hl := lv_entry [.ref b0, .int k] (n := 2) (Nat.le_of_ble_eq_true rfl)
  rw [lg_entry_eq]
  generalize (lg_sl ([.ref b0, .int k]) ++ List.replicate (2 - (lg_sl ([.ref b0, .int k])).length) Slot.unset).toArray = ls at hl ⊢
  have hl : lv_has ls 2 [(0, .ref b0), (1, .int k)] := hl
  have hbl : b0 < s.heap.size := by
    obtain ⟨scr, h1, -⟩ := hX
    exact (Array.getElem?_eq_some_iff.mp h1).1
  have hS : va_S (fun q => s.heap.size ≤ q) s.heap s.heap [] := va_S.rf
  have hbA : ¬ (fun q => s.heap.size ≤ q) b0 := Nat.not_le.mpr hbl
  refine lv_iload_n hx hb dL_cell_0 rfl (lv_at hl 1 rfl) ?_
  refine lv_aload_n hx hb dL_cell_1 rfl (lv_at hl 0 rfl) ?_
  refine va_slen hx hb hX hbl hbA hS dL_cell_2 ?_
  refine lv_icmp_ge (tgt := 12) hx hb dL_cell_3 (by decide) (fun c_1 => ?_) (fun c_1 => ?_)
  · refine lv_ldc hx hb hown (hts (.constant RL 8 (790386105)) (by decide +kernel)) dL_cell_12 ?_
    refine lv_iload_n hx hb dL_cell_14 rfl (lv_at hl 1 rfl) ?_
    refine lv_iconst (v := (3 : Int32)) hx hb dL_cell_15 (by decide) ?_
    refine lv_iadd hx hb dL_cell_16 ?_
    refine lv_imul hx hb dL_cell_17 ?_
    exact W.zret hx hb hr rfl (fun t ht hW => ⟨⟨_, (), rfl, trivial, trivial⟩, hS.F ht⟩) hS.2.2 dL_cell_18 hlocks
  · refine lv_aload_n hx hb dL_cell_6 rfl (lv_at hl 0 rfl) ?_
    refine lv_iload_n hx hb dL_cell_7 rfl (lv_at hl 1 rfl) ?_
    refine va_sld hx hb hX hbl hbA hS (fun h => ?_) dL_cell_8 ?_
    · rcases h with h | h
      · rw [Int32.lt_iff_toInt_lt] at h
        have : (0 : Int32).toInt = 0 := by decide
        omega
      · apply c_1
        rw [Int32.le_iff_toInt_le]
        show (nI L).toInt ≤ _
        rw [nI_toInt (by omega)]
        rw [clampInt] at h
        omega
    refine lv_goto (tgt := 18) hx hb dL_cell_9 (by decide) ?_
    exact W.zret hx hb hr rfl (fun t ht hW => ⟨⟨_, (), rfl, trivial, trivial⟩, hS.F ht⟩) hS.2.2 dL_cell_18 hlocks
/-- a cell, called: the heap stays -/
theorem xr_cell {b0 L : Nat} {sc : Nat → Int32} {ws : va_W} {free : Addr → Prop} {a9 : Array Value} (hP : va_P D vwCl ws H) (hD : va_D A ws) (hS : va_S A H0 H locs) (hA : ∀ q, H0.size ≤ q → A q)
    (hr : va_Run p l e R s m args below meth c H locs cells slots 0 0 (F0 m pc ls st0) rest (va_Qi (fun (_ : Int32) (_ : Unit) => True) (fun _ _ => True) (fun q => H.size ≤ q) a9) (fun q => H.size ≤ q))
    (kk : ∀ (v : Int32) (H1 : Heap) (locs1 : List Loc), va_P D vwCl ws H1 → va_D A ws → va_S A H0 H1 locs1 → W p l e R s m args below meth c H1 locs1 (cells + 0) (slots + 0) Q (F0 m (pc + 3) ls (.int v :: rest))) : W p l e R s m args below meth c H locs cells slots Q (F0 m pc ls st0) := by
  refine va_calli hr hS (fun q _ h => hA q (Nat.le_trans hS.1 h)) (fun q h => hA q (Nat.le_trans hS.1 h)) (fun r u t H1 locs1 ht hvm hw hB hz1 hk1 hS1 => ?_)
  exact kk r H1 locs1 (hP.kept (fun k q hq => hk1 q.1 (hP k q hq).lt (Nat.not_le.mpr (hP k q hq).lt))) hD hS1
theorem xr_preC {b0 L : Nat} {sc : Nat → Int32} {k : Int32} (hX : va_X b0 L sc s s.heap) (hbl : b0 < s.heap.size) (hbA : ¬ A b0) (hS : va_S A s.heap H locs) : PreS s H (va_Pc [.ref b0, .int k] (fun U => U.heap.size = H.size ∧ va_X b0 L sc U U.heap)) [.ref b0, .int k] :=
  ⟨fun a U g mk q => by
    obtain ⟨q0, q1, q2⟩ := q
    exact ⟨q0, q1, va_X.moved (u := U) (U := U.calling g mk a) (Vm.Alike.refl U.vm) q2⟩,
   fun U hU hW => ⟨rfl, by rw [hU], by
    rw [hU]
    exact va_X.moved hW.alike (hX.kept (hS.2.1 b0 hbl hbA))⟩⟩
/-- reading a row of rows -/
theorem va_aldA {a : Nat} {ws : va_W} (hexec : p.tables.exec = Jvm.exec) (hb : c.code = cc) (hK : va_K D vwCl tys s) (hP : va_P D vwCl ws H) (q0 t0 : Nat) {cA : ClassId} {t : FieldType} {n : Nat} {f : Nat → Option Nat} (ha : ws[q0]? = some (a, .inl (cA, n, .inr (.inr (.inr (.inr f)))))) (ht : tys[t0]? = some (cA, .array t)) {i : Int32} (hin : vp_in i n) {x : Nat} (hf : f i.toNatClampNeg = some x) (hdg : decode cc pc = .ok (.aaload, 1))
    (kk : W p l e R s m args below meth c H locs cells slots Q (F0 m (pc + 1) ls (.ref x :: rest))) : W p l e R s m args below meth c H locs cells slots Q (F0 m pc ls (.int i :: .ref a :: rest)) := by
  have hlt : i.toNatClampNeg < n := Nat.not_le.mp fun q => hin (Or.inr q)
  have kk : W p l e R s m args below meth c H locs cells slots Q (F0 m (pc + 1) ls (va_rf (f i.toNatClampNeg) :: rest)) := by rw [hf]; exact kk
  exact W.aald (v := va_rf (f i.toNatClampNeg)) (ty := .array t) hexec hb (hP q0 _ ha) ((hK.2 t0 _ ht).1 n (fun j => va_rf (f j))) rfl (fun q => by cases q) (by show ¬ (i < 0 ∨ (arrV _ _ _).slots.size ≤ _); rw [arrV_size]; exact hin) (by show (arrV _ _ _).slots[_]? = _; rw [arrV_read _ _ hlt]) rfl rfl hdg kk
end XK6
end
section
/-! the law's two helpers that catch -/
def r_L_leave (b : XBr) (k : Int32) : Int32 := if x_X2_leave b k = 0 then r_X2_leave b k else -1
set_option maxHeartbeats 1600000 in
set_option maxRecDepth 100000 in
theorem c_L_leave (l : Launch) (hlt : l.stackTraces = false) (D : va_G) (I : ClassId) (h : Nat) (qb qt : Nat → Nat) (sz : Nat) (b z : XBr) (k : Int32) (hn : nOk (b.2.2.1 0)) (h1 : ¬ x_X2_leave b k = 1) : Met l yL_leave wsL_leave { frames := 7, cells := 1, slots := 6, locals := 104 } (xPcX D [(I, .int)] [.ref h, .int k] sz (WX I h qb qt b z)) (xQiE D [(I, .int)] (va_A (WX I h qb qt b z) sz) XBr (r_L_leave b k) (fun v => WX I h qb qt (s_X2_leave b k) v)) 1 6 (va_A (WX I h qb qt b z) sz) := by
  refine met_of_vx (XC := xXF) ?_ (fun E st t hx => hx.elim (fun u hu => hu.1))
  refine xk_startL (cc := cL_leave) (maxL := 3) (ret := (some .int)) (hh := [(0, 5, 6, 49)]) (Qf := fun A => xQiE D [(I, .int)] A XBr (r_L_leave b k) (fun v => WX I h qb qt (s_X2_leave b k) v)) (by decide) rfl (Nat.le_of_ble_eq_true rfl) ?_
  intro p e s m below meth c A H ls hst hAe hsz hl htab hXX
  obtain ⟨hx, hb, hr, hts, hown, hlocks, hml, hin, hN, hK, hP, hD, hA, hS⟩ := hst
  have hl : lv_has ls 3 [(0, .ref h), (1, .int k)] := hl
  have hP : va_P D vwCl (WX I h qb qt b z) H := hP
  have k_eIS : (Cond.classLink RL 49 eIS).before _ s = true := hts (.classLink RL 49 eIS) (by decide +kernel)
  refine lv_aload_n hx hb dL_leave_0 rfl (lv_at hl 0 rfl) ?_
  refine lv_iload_n hx hb dL_leave_1 rfl (lv_at hl 1 rfl) ?_
  refine xk_callX ([] : va_W) (fun v : XBr => WX I h qb qt (s_X2_leave b k) v) [0, 1, 2, 3, 4, 5, 6, 7, 8, 9, 10, 11, 12, 13, 14, 15, 16, 17, 18] [] [0, 1, 2, 3, 4, 5, 6, 7, 8, 9, 10, 11, 12, 13, 14, 15, 16, 17, 18] hP hD hS hA (vx_runV (As := [.int k]) (rest := []) ⟨hx, hb, hml, hown, hts⟩ (c_X2_leave l hlt D I h qb qt H.size b z k hn) (cwV 1 hts gL_leave_X2_leave rfl rfl rfl (by decide +kernel) ⟨Nat.le_of_ble_eq_true rfl, Nat.le_of_ble_eq_true rfl⟩) (xk_preVX (wc := WX I h qb qt b z) (q0 := 0) (ci := 2) hN hXX hS hA hP hK hD [0, 1, 2, 3, 4, 5, 6, 7, 8, 9, 10, 11, 12, 13, 14, 15, 16, 17, 18] rfl rfl rfl rfl) rfl rfl hl.1 rfl (lv_room (Nat.le_of_ble_eq_true rfl)) dL_leave_2 ⟨Nat.le_of_ble_eq_true rfl, Nat.le_of_ble_eq_true rfl⟩) rfl rfl rfl (by decide) rfl (fun _ => rfl) (fun E ce q9 v H locs hE hP hD hS hce hcv hcl => ?_) (fun v H locs hk0 hP hD hS => ?_)
  · have hP : va_P D vwCl (WX I h qb qt (s_X2_leave b k) v) H := hP
    have hD : va_D A (WX I h qb qt (s_X2_leave b k) v) := hD
    simp only [List.mem_cons, List.not_mem_nil, or_false, Prod.mk.injEq] at hE
    rcases hE with ⟨rfl, hk9⟩ | ⟨rfl, hk9⟩
    · exact absurd hk9 h1
    · refine vx_catch (name := eIS) hown [] ⟨0, 5, 6, 49⟩ [] (by rw [htab]; rfl) (fun z hz => by simp at hz) (by decide) (by decide) k_eIS (va_Nw.use rfl (hXX.1 (.castable eIS eIS) (by decide))) hce hcv hcl ?_
      refine lv_astore_n (lv' := (2, .ref q9) :: [(0, .ref h), (1, .int k)]) hx hb dL_leave_6 rfl hl (by decide) rfl (fun ls hl => ?_)
      refine lv_iconst (v := (-1 : Int32)) hx hb dL_leave_7 (by decide) ?_
      exact vx_ret (xk_iretE (wf := fun (_ : Unit) (v : XBr) => WX I h qb qt (s_X2_leave b k) v) (u := ()) (u1 := ()) v hx hb hr rfl hlocks hP hK hD hS (by unfold r_L_leave; rw [if_neg (by rw [hk9]; decide)]) rfl dL_leave_8)
  · have hP : va_P D vwCl (WX I h qb qt (s_X2_leave b k) v) H := hP
    have hD : va_D A (WX I h qb qt (s_X2_leave b k) v) := hD
    exact vx_ret (xk_iretE (wf := fun (_ : Unit) (v : XBr) => WX I h qb qt (s_X2_leave b k) v) (u := ()) (u1 := ()) v hx hb hr rfl hlocks hP hK hD hS (by unfold r_L_leave; rw [if_pos hk0]) rfl dL_leave_5)

def r_L_poise (b : XBr) (k : Int32) : Int32 := if x_X2_poise b k = 0 then r_X2_poise b k else -1
set_option maxHeartbeats 1600000 in
set_option maxRecDepth 100000 in
theorem c_L_poise (l : Launch) (hlt : l.stackTraces = false) (D : va_G) (I : ClassId) (h : Nat) (qb qt : Nat → Nat) (sz : Nat) (b z : XBr) (k : Int32) (h1 : ¬ x_X2_poise b k = 1) : Met l yL_poise wsL_poise { frames := 7, cells := 1, slots := 6, locals := 104 } (xPcX D [(I, .int)] [.ref h, .int k] sz (WX I h qb qt b z)) (xQiE D [(I, .int)] (va_A (WX I h qb qt b z) sz) XBr (r_L_poise b k) (fun v => WX I h qb qt (s_X2_poise b k) v)) 1 6 (va_A (WX I h qb qt b z) sz) := by
  refine met_of_vx (XC := xXF) ?_ (fun E st t hx => hx.elim (fun u hu => hu.1))
  refine xk_startL (cc := cL_poise) (maxL := 3) (ret := (some .int)) (hh := [(0, 5, 6, 49)]) (Qf := fun A => xQiE D [(I, .int)] A XBr (r_L_poise b k) (fun v => WX I h qb qt (s_X2_poise b k) v)) (by decide) rfl (Nat.le_of_ble_eq_true rfl) ?_
  intro p e s m below meth c A H ls hst hAe hsz hl htab hXX
  obtain ⟨hx, hb, hr, hts, hown, hlocks, hml, hin, hN, hK, hP, hD, hA, hS⟩ := hst
  have hl : lv_has ls 3 [(0, .ref h), (1, .int k)] := hl
  have hP : va_P D vwCl (WX I h qb qt b z) H := hP
  have k_eIS : (Cond.classLink RL 49 eIS).before _ s = true := hts (.classLink RL 49 eIS) (by decide +kernel)
  refine lv_aload_n hx hb dL_poise_0 rfl (lv_at hl 0 rfl) ?_
  refine lv_iload_n hx hb dL_poise_1 rfl (lv_at hl 1 rfl) ?_
  refine xk_callX ([] : va_W) (fun v : XBr => WX I h qb qt (s_X2_poise b k) v) [0, 1, 2, 3, 4, 5, 6, 7, 8, 9, 10, 11, 12, 13, 14, 15, 16, 17, 18] [] [0, 1, 2, 3, 4, 5, 6, 7, 8, 9, 10, 11, 12, 13, 14, 15, 16, 17, 18] hP hD hS hA (vx_runV (As := [.int k]) (rest := []) ⟨hx, hb, hml, hown, hts⟩ (c_X2_poise l hlt D I h qb qt H.size b z k ) (cwV 1 hts gL_poise_X2_poise rfl rfl rfl (by decide +kernel) ⟨Nat.le_of_ble_eq_true rfl, Nat.le_of_ble_eq_true rfl⟩) (xk_preVX (wc := WX I h qb qt b z) (q0 := 0) (ci := 2) hN hXX hS hA hP hK hD [0, 1, 2, 3, 4, 5, 6, 7, 8, 9, 10, 11, 12, 13, 14, 15, 16, 17, 18] rfl rfl rfl rfl) rfl rfl hl.1 rfl (lv_room (Nat.le_of_ble_eq_true rfl)) dL_poise_2 ⟨Nat.le_of_ble_eq_true rfl, Nat.le_of_ble_eq_true rfl⟩) rfl rfl rfl (by decide) rfl (fun _ => rfl) (fun E ce q9 v H locs hE hP hD hS hce hcv hcl => ?_) (fun v H locs hk0 hP hD hS => ?_)
  · have hP : va_P D vwCl (WX I h qb qt (s_X2_poise b k) v) H := hP
    have hD : va_D A (WX I h qb qt (s_X2_poise b k) v) := hD
    simp only [List.mem_cons, List.not_mem_nil, or_false, Prod.mk.injEq] at hE
    rcases hE with ⟨rfl, hk9⟩ | ⟨rfl, hk9⟩
    · exact absurd hk9 h1
    · refine vx_catch (name := eIS) hown [] ⟨0, 5, 6, 49⟩ [] (by rw [htab]; rfl) (fun z hz => by simp at hz) (by decide) (by decide) k_eIS (va_Nw.use rfl (hXX.1 (.castable eIS eIS) (by decide))) hce hcv hcl ?_
      refine lv_astore_n (lv' := (2, .ref q9) :: [(0, .ref h), (1, .int k)]) hx hb dL_poise_6 rfl hl (by decide) rfl (fun ls hl => ?_)
      refine lv_iconst (v := (-1 : Int32)) hx hb dL_poise_7 (by decide) ?_
      exact vx_ret (xk_iretE (wf := fun (_ : Unit) (v : XBr) => WX I h qb qt (s_X2_poise b k) v) (u := ()) (u1 := ()) v hx hb hr rfl hlocks hP hK hD hS (by unfold r_L_poise; rw [if_neg (by rw [hk9]; decide)]) rfl dL_poise_8)
  · have hP : va_P D vwCl (WX I h qb qt (s_X2_poise b k) v) H := hP
    have hD : va_D A (WX I h qb qt (s_X2_poise b k) v) := hD
    exact vx_ret (xk_iretE (wf := fun (_ : Unit) (v : XBr) => WX I h qb qt (s_X2_poise b k) v) (u := ()) (u1 := ()) v hx hb hr rfl hlocks hP hK hD hS (by unfold r_L_poise; rw [if_pos hk0]) rfl dL_poise_5)
end
section
/-! THE BRIDGE'S OWN ORDER: what holds of it between two calls -/
theorem nI_nm {k : Nat} (h : k < 1000) : ¬ nI k = -1 := by
  intro q
  have h1 := congrArg Int32.toInt q
  rw [nI_toInt (by omega)] at h1
  have h2 : (-1 : Int32).toInt = -1 := by decide
  omega
theorem nI_inj {i j : Nat} (hi : i < 1000) (hj : j < 1000) (h : nI i = nI j) : i = j := by
  have h1 := congrArg Int32.toInt h
  rw [nI_toInt (by omega), nI_toInt (by omega)] at h1
  omega
theorem upd_at (f : Nat → Int32) (k : Nat) (x : Int32) : upd f k x k = x := if_pos rfl
theorem upd_ne {f : Nat → Int32} {k j : Nat} {x : Int32} (h : ¬ j = k) : upd f k x j = f j := if_neg h
theorem ilt {x y : Int32} : x < y ↔ x.toInt < y.toInt := Int32.lt_iff_toInt_lt
theorem ile {x y : Int32} : x ≤ y ↔ x.toInt ≤ y.toInt := Int32.le_iff_toInt_le
theorem ieq {x y : Int32} (h : x.toInt = y.toInt) : x = y := Int32.toInt_inj.mp h
theorem i0 : (0 : Int32).toInt = 0 := by decide
theorem i1 : (1 : Int32).toInt = 1 := by decide
theorem i60 : (60 : Int32).toInt = 60 := by decide
def Fs (n : Nat) (g : Nat → Int32) (f : Nat → Int32) : Prop := ∀ i, i = 4 ∨ i = 5 → f i = -1 ∨ ∃ j, j < n ∧ f i = nI j ∧ g j = 0
def Iv (n : Nat) (b : XBr) : Prop :=
  (n ≤ 40 ∧ b.2.2.1 0 = nI n) ∧
  (0 ≤ (b.1 0).toInt ∧ 0 ≤ (b.1 1).toInt ∧ (b.1 1).toInt ≤ 60 ∧ 0 ≤ (b.1 2).toInt ∧ (b.1 2).toInt ≤ 30 ∧ 0 ≤ (b.1 4).toInt ∧ (b.1 4).toInt ≤ 4 ∧ (b.1 8 = 0 ∨ b.1 8 = 1)) ∧
  (∀ j, j < 8 → -3 ≤ (b.2.1 j).toInt ∧ (b.2.1 j).toInt ≤ 3) ∧
  (∀ k, k < n → (b.2.2.2 0 k = 0 ∨ b.2.2.2 0 k = 1) ∧ (1 ≤ (b.2.2.2 1 k).toInt ∧ (b.2.2.2 1 k).toInt ≤ 6) ∧ (b.2.2.2 2 k = 1 → b.1 6 = nI k) ∧ (b.2.2.2 4 k = -1 ∨ b.2.2.2 2 k = 2)) ∧
  (b.1 6 = -1 ∨ ∃ j, j < n ∧ b.1 6 = nI j ∧ b.2.2.2 2 j = 1 ∧ 1 ≤ (b.1 7).toInt ∧ (b.1 7).toInt ≤ 6 ∧ b.1 1 = 60 * b.2.2.2 0 j) ∧
  Fs n (b.2.2.2 2) b.2.2.1
theorem nOk_n {n : Nat} (h : n ≤ 40) : nOk (nI n) := by
  unfold nOk
  rw [nI_toInt (by omega)]
  omega
theorem Iv.nB {n : Nat} {b : XBr} (h : Iv n b) : nOk (b.2.2.1 0) := by
  rw [h.1.2]
  exact nOk_n h.1.1
theorem Iv.m0 {n : Nat} {b : XBr} (h : Iv n b) : 0 ≤ (b.1 0).toInt := h.2.1.1
theorem Iv.z {n : Nat} {b : XBr} (h : Iv n b) : b.1 8 = 0 ∨ b.1 8 = 1 := h.2.1.2.2.2.2.2.2.2
theorem iv_B0 : Iv 0 B0 := by
  refine ⟨⟨by decide, by decide⟩, ⟨by decide, by decide, by decide, by decide, by decide, by decide, by decide, Or.inl rfl⟩, fun j _ => ⟨by show -3 ≤ (0 : Int32).toInt; decide, by show (0 : Int32).toInt ≤ 3; decide⟩, fun k h => absurd h (Nat.not_lt_zero k), Or.inl rfl, fun i hi => Or.inl ?_⟩
  rcases hi with rfl | rfl
  · rfl
  · rfl
/-! who waits, seen anew -/
theorem sw_fs {g : Nat → Nat → Int32} {n : Nat} (hn : n ≤ 40) : ∀ (k : Nat) (f : Nat → Int32), k ≤ n → Fs n (g 2) f → Fs n (g 2) (sw g k f)
  | 0, f, _, h => h
  | k + 1, f, hk, h => by
    refine sw_fs hn k (sw_step g k f) (by omega) ?_
    unfold sw_step
    by_cases c : g 2 k = 0
    · rw [if_pos c]
      by_cases d : g 0 k = 1
      · rw [if_pos d]
        intro i hi
        rcases hi with rfl | rfl
        · exact Or.inr ⟨k, by omega, rfl, c⟩
        · exact h 5 (Or.inr rfl)
      · rw [if_neg d]
        intro i hi
        rcases hi with rfl | rfl
        · exact h 4 (Or.inl rfl)
        · exact Or.inr ⟨k, by omega, rfl, c⟩
    · rw [if_neg c]
      exact h
theorem see_iv {n : Nat} (hn : n ≤ 40) {t : XT} (ht : t.1 0 = nI n) : (s_X1_seeWhoWaits t).2 = t.2 ∧ (s_X1_seeWhoWaits t).1 0 = nI n ∧ (s_X1_seeWhoWaits t).1 1 = t.1 1 ∧ Fs n (t.2 2) (s_X1_seeWhoWaits t).1 := by
  have e : (t.1 0).toNatClampNeg = n := by rw [ht, nI_clamp (by omega)]
  unfold s_X1_seeWhoWaits
  rw [e]
  refine ⟨rfl, ?_, ?_, ?_⟩
  · show sw t.2 n _ 0 = _
    rw [sw_le t.2 0 (by decide) (by decide) (by decide) (by decide)]
    exact ht
  · show sw t.2 n _ 1 = _
    rw [sw_le t.2 1 (by decide) (by decide) (by decide) (by decide)]
    rfl
  · refine sw_fs hn n _ (Nat.le_refl n) (fun i hi => Or.inl ?_)
    rcases hi with rfl | rfl
    · rfl
    · rfl
theorem has_n {n : Nat} (hn : n ≤ 40) {t : XT} (ht : t.1 0 = nI n) {j : Nat} (hj : j < n) : r_X1_has t (nI j) = 1 := by
  unfold r_X1_has
  have h1 := nI_toInt (n := j) (by omega)
  have h2 := nI_toInt (n := n) (by omega)
  rw [if_neg (by rw [ilt, i0]; omega), ht, if_neg (by rw [ile]; omega)]
theorem has_m1 (t : XT) : r_X1_has t (-1) = 0 := by
  unfold r_X1_has
  rw [if_pos (by decide)]
theorem has_ne {n : Nat} (hn : n ≤ 40) {t : XT} (ht : t.1 0 = nI n) {j : Nat} (hj : j < n) : ¬ r_X1_has t (nI j) = 0 := by
  rw [has_n hn ht hj]
  decide
theorem cl40 {j : Nat} (h : j < 1000) : (nI j).toNatClampNeg = j := nI_clamp (by omega)
theorem p1I {n : Nat} (h : n < 1000) : nI n + 1 = nI (n + 1) := (nI_succ n).symm
/-! come -/
theorem iv_come {n : Nat} {b : XBr} (h : Iv n b) (hn : n < 40) {bg mn : Int32} (h1 : 1 ≤ mn.toInt) (h6 : mn.toInt ≤ 6) :
    x_X2_come b bg mn = 0 ∧ r_X2_come b bg mn = nI n ∧ Iv (n + 1) (s_X2_come b bg mn) ∧ (s_X2_come b bg mn).1 = b.1 ∧ (s_X2_come b bg mn).2.1 = b.2.1 := by
  obtain ⟨⟨n40, bn⟩, hs, hc, ht, hp, hf⟩ := h
  have k1 : ¬ mn < 1 := by rw [ilt, i1]; omega
  have k6 : mn ≤ 6 := by
    rw [ile]
    have : (6 : Int32).toInt = 6 := by decide
    omega
  have k40 : b.2.2.1 0 < 40 := by
    rw [bn, ilt, nI_toInt (by omega)]
    have : (40 : Int32).toInt = 40 := by decide
    omega
  have e : (b.2.2.1 0).toNatClampNeg = n := by rw [bn, nI_clamp (by omega)]
  refine ⟨?_, ?_, ?_⟩
  · unfold x_X2_come
    rw [if_neg k1, if_pos k6, if_pos k40]
  · unfold r_X2_come r_X1_add
    rw [if_neg k1, if_pos k6, if_pos k40, bn]
    split <;> rfl
  have key : ∀ bv : Int32, (bv = 0 ∨ bv = 1) → Iv (n + 1) (b.1, b.2.1, s_X1_seeWhoWaits (xs b.2.2.1 0 ((b.2.2.1 0) + (1 : Int32)), xa (xa (xa (xa (xa b.2.2.2 0 (upd (b.2.2.2 0) (b.2.2.1 0).toNatClampNeg bv)) 1 (upd (b.2.2.2 1) (b.2.2.1 0).toNatClampNeg mn)) 2 (upd (b.2.2.2 2) (b.2.2.1 0).toNatClampNeg (0 : Int32))) 3 (upd (b.2.2.2 3) (b.2.2.1 0).toNatClampNeg (b.1 0))) 4 (upd (b.2.2.2 4) (b.2.2.1 0).toNatClampNeg (-1 : Int32)))) := by
    intro bv hbv
    rw [e]
    obtain ⟨q1, q2, q3, q4⟩ := see_iv (n := n + 1) (by omega) (t := (xs b.2.2.1 0 ((b.2.2.1 0) + (1 : Int32)), xa (xa (xa (xa (xa b.2.2.2 0 (upd (b.2.2.2 0) n bv)) 1 (upd (b.2.2.2 1) n mn)) 2 (upd (b.2.2.2 2) n (0 : Int32))) 3 (upd (b.2.2.2 3) n (b.1 0))) 4 (upd (b.2.2.2 4) n (-1 : Int32)))) (by
      show b.2.2.1 0 + 1 = _
      rw [bn]
      exact p1I (by omega))
    generalize s_X1_seeWhoWaits (xs b.2.2.1 0 ((b.2.2.1 0) + (1 : Int32)), xa (xa (xa (xa (xa b.2.2.2 0 (upd (b.2.2.2 0) n bv)) 1 (upd (b.2.2.2 1) n mn)) 2 (upd (b.2.2.2 2) n (0 : Int32))) 3 (upd (b.2.2.2 3) n (b.1 0))) 4 (upd (b.2.2.2 4) n (-1 : Int32))) = t' at q1 q2 q3 q4 ⊢
    refine ⟨⟨by omega, q2⟩, hs, hc, fun k hk => ?_, ?_, ?_⟩
    · show (t'.2 0 k = 0 ∨ t'.2 0 k = 1) ∧ (1 ≤ (t'.2 1 k).toInt ∧ (t'.2 1 k).toInt ≤ 6) ∧ (t'.2 2 k = 1 → b.1 6 = nI k) ∧ (t'.2 4 k = -1 ∨ t'.2 2 k = 2)
      rw [q1]
      show (upd (b.2.2.2 0) n bv k = 0 ∨ upd (b.2.2.2 0) n bv k = 1) ∧ (1 ≤ (upd (b.2.2.2 1) n mn k).toInt ∧ (upd (b.2.2.2 1) n mn k).toInt ≤ 6) ∧ (upd (b.2.2.2 2) n 0 k = 1 → b.1 6 = nI k) ∧ (upd (b.2.2.2 4) n (-1) k = -1 ∨ upd (b.2.2.2 2) n 0 k = 2)
      by_cases c : k = n
      · subst c
        rw [upd_at, upd_at, upd_at, upd_at]
        exact ⟨hbv, ⟨h1, h6⟩, fun q => absurd q (by decide), Or.inl rfl⟩
      · rw [upd_ne c, upd_ne c, upd_ne c, upd_ne c]
        exact ht k (by omega)
    · rcases hp with q | ⟨j, p1, p2, p3, p4, p5, p6⟩
      · exact Or.inl q
      · refine Or.inr ⟨j, by omega, p2, ?_, p4, p5, ?_⟩
        · show t'.2 2 j = 1
          rw [q1]
          show upd (b.2.2.2 2) n 0 j = 1
          rw [upd_ne (by omega)]
          exact p3
        · show b.1 1 = 60 * t'.2 0 j
          rw [q1]
          show b.1 1 = 60 * upd (b.2.2.2 0) n bv j
          rw [upd_ne (by omega)]
          exact p6
    · show Fs (n + 1) (t'.2 2) t'.1
      rw [q1]
      exact q4
  unfold s_X2_come
  rw [if_neg k1, if_pos k6, if_pos k40]
  refine ⟨?_, rfl, rfl⟩
  unfold g1_X2_come s_X1_add
  by_cases c : bg = 0
  · rw [if_pos c]
    exact key 0 (Or.inl rfl)
  · rw [if_neg c]
    exact key 1 (Or.inr rfl)
/-! a wait's end -/
theorem endWait_t {n j : Nat} (hn : n ≤ 40) (hj : j < n) {t : XT} (ht : t.1 0 = nI n) (st mi : Int32) :
    (s_X1_endWait t (nI j) st mi).2 = xa (xa t.2 2 (upd (t.2 2) j st)) 5 (upd (t.2 5) j mi) ∧ (s_X1_endWait t (nI j) st mi).1 0 = nI n ∧ (s_X1_endWait t (nI j) st mi).1 1 = t.1 1 ∧ Fs n (upd (t.2 2) j st) (s_X1_endWait t (nI j) st mi).1 := by
  unfold s_X1_endWait g1_X1_endWait
  rw [cl40 (show j < 1000 by omega)]
  exact see_iv hn (t := (t.1, xa (xa t.2 2 (upd (t.2 2) j st)) 5 (upd (t.2 5) j mi))) ht
/-- what a traveller tells -/
def wt (b : XBr) (i : Nat) : Int32 := (if b.2.2.2 2 i = 0 then b.1 0 else b.2.2.2 5 i) - b.2.2.2 3 i
def lf (b : XBr) (i : Nat) : Int32 := if nI i = b.1 6 then b.1 7 else 0
def fc (b : XBr) (i w : Nat) : Int32 := if w = 0 then b.2.2.2 0 i else if w = 1 then b.2.2.2 1 i else if w = 2 then b.2.2.2 2 i else if w = 3 then b.2.2.2 3 i else if w = 4 then wt b i else if w = 5 then lf b i else b.2.2.2 4 i
theorem nI_eq_iff {i j : Nat} (hi : i < 1000) (hj : j < 1000) : nI i = nI j ↔ i = j := ⟨nI_inj hi hj, fun h => by rw [h]⟩
theorem waited_e {t : XT} {i : Nat} (hi : i < 1000) (mi : Int32) : r_X1_waited t (nI i) mi = (if t.2 2 i = 0 then mi else t.2 5 i) - t.2 3 i := by
  unfold r_X1_waited
  rw [cl40 hi]
  by_cases c : t.2 2 i = 0
  · rw [if_pos c, if_pos c]
  · rw [if_neg c, if_neg c]
theorem fc_e {b : XBr} {i w : Nat} (hi : i < 40) (hw : w < 7) : r_X0_factOf b (nI i) (nI w) = fc b i w := by
  unfold r_X0_factOf fc
  rw [cl40 (show i < 1000 by omega)]
  rw [waited_e (by omega)]
  rcases (show w = 0 ∨ w = 1 ∨ w = 2 ∨ w = 3 ∨ w = 4 ∨ w = 5 ∨ w = 6 by omega) with rfl | rfl | rfl | rfl | rfl | rfl | rfl
  · rfl
  · rfl
  · rfl
  · rfl
  · rfl
  · rfl
  · rfl
theorem tr_x {n : Nat} {b : XBr} (h : Iv n b) {i w : Nat} (hi : i < n) (hw : w < 7) : x_X2_traveller b (nI i) (nI w) = 0 := by
  have n40 := h.1.1
  have e := nI_toInt (n := w) (by omega)
  have e7 : (7 : Int32).toInt = 7 := by decide
  unfold x_X2_traveller
  rw [if_neg (has_ne n40 h.1.2 hi), if_neg (by rw [ilt, i0]; omega), if_pos (by rw [ilt]; omega)]
theorem tr_r {n : Nat} {b : XBr} (h : Iv n b) {i w : Nat} (hi : i < n) (hw : w < 7) : r_X2_traveller b (nI i) (nI w) = fc b i w := by
  have n40 := h.1.1
  have e := nI_toInt (n := w) (by omega)
  have e7 : (7 : Int32).toInt = 7 := by decide
  unfold r_X2_traveller
  rw [if_neg (has_ne n40 h.1.2 hi), if_neg (by rw [ilt, i0]; omega), if_pos (by rw [ilt]; omega)]
  exact fc_e (by omega) hw
/-! leave -/
theorem iv_leave {n : Nat} {b : XBr} (h : Iv n b) {j : Nat} (hj : j < n) :
    ¬ x_X2_leave b (nI j) = 1 ∧ Iv n (s_X2_leave b (nI j)) ∧ (s_X2_leave b (nI j)).1 = b.1 ∧ (s_X2_leave b (nI j)).2.1 = b.2.1 ∧
    r_L_leave b (nI j) = (if fc b j 2 = 0 then fc b j 4 else -1) ∧ (fc b j 2 = 0 → fc (s_X2_leave b (nI j)) j 2 = 3) := by
  obtain ⟨⟨n40, bn⟩, hs, hc, ht, hp, hf⟩ := h
  have hh := has_ne n40 bn hj
  have ej := cl40 (show j < 1000 by omega)
  have g2 : fc b j 2 = b.2.2.2 2 j := rfl
  have g4 : fc b j 4 = wt b j := rfl
  unfold r_L_leave x_X2_leave s_X2_leave r_X2_leave
  rw [if_neg hh, if_neg hh, if_neg hh, ej, g2, g4]
  by_cases c : b.2.2.2 2 j = 0
  · rw [if_pos c, if_pos c, if_pos c, if_pos c, if_pos rfl]
    obtain ⟨q1, q2, q3, q4⟩ := endWait_t n40 hj bn (3 : Int32) (b.1 0)
    unfold g1_X2_leave
    generalize s_X1_endWait b.2.2 (nI j) (3 : Int32) (b.1 0) = t' at q1 q2 q3 q4 ⊢
    have a2 : ∀ k, t'.2 2 k = upd (b.2.2.2 2) j 3 k := fun k => by rw [q1]; rfl
    have a5 : ∀ k, t'.2 5 k = upd (b.2.2.2 5) j (b.1 0) k := fun k => by rw [q1]; rfl
    have a0 : ∀ k, t'.2 0 k = b.2.2.2 0 k := fun k => by rw [q1]; rfl
    have a1 : ∀ k, t'.2 1 k = b.2.2.2 1 k := fun k => by rw [q1]; rfl
    have a3 : ∀ k, t'.2 3 k = b.2.2.2 3 k := fun k => by rw [q1]; rfl
    have a4 : ∀ k, t'.2 4 k = b.2.2.2 4 k := fun k => by rw [q1]; rfl
    refine ⟨by decide, ⟨⟨n40, q2⟩, hs, hc, fun k hk => ?_, ?_, ?_⟩, rfl, rfl, ?_, fun _ => ?_⟩
    · show (t'.2 0 k = 0 ∨ t'.2 0 k = 1) ∧ (1 ≤ (t'.2 1 k).toInt ∧ (t'.2 1 k).toInt ≤ 6) ∧ (t'.2 2 k = 1 → b.1 6 = nI k) ∧ (t'.2 4 k = -1 ∨ t'.2 2 k = 2)
      rw [a0, a1, a2, a4]
      obtain ⟨r0, r1, r2, r3⟩ := ht k hk
      by_cases d : k = j
      · subst d
        rw [upd_at]
        refine ⟨r0, r1, fun q => absurd q (by decide), Or.inl ?_⟩
        rcases r3 with r3 | r3
        · exact r3
        · rw [c] at r3
          exact absurd r3 (by decide)
      · rw [upd_ne d]
        exact ⟨r0, r1, r2, r3⟩
    · rcases hp with q | ⟨i, p1, p2, p3, p4, p5, p6⟩
      · exact Or.inl q
      · refine Or.inr ⟨i, p1, p2, ?_, p4, p5, ?_⟩
        · show t'.2 2 i = 1
          rw [a2, upd_ne (fun q => ?_)]
          · exact p3
          · subst q
            rw [c] at p3
            exact absurd p3 (by decide)
        · show b.1 1 = 60 * t'.2 0 i
          rw [a0]
          exact p6
    · intro i hi
      have := q4 i hi
      rcases this with q | ⟨k, k1, k2, k3⟩
      · exact Or.inl q
      · exact Or.inr ⟨k, k1, k2, (a2 k).trans k3⟩
    · rw [waited_e (by omega)]
      unfold wt
      rw [a2, upd_at, a5, upd_at, a3, if_neg (by decide), if_pos c]
    · show t'.2 2 j = 3
      rw [a2, upd_at]
  · rw [if_neg c, if_neg c, if_neg c, if_neg c, if_neg (by decide)]
    exact ⟨by decide, ⟨⟨n40, bn⟩, hs, hc, ht, hp, hf⟩, rfl, rfl, rfl, fun q => absurd q c⟩
/-! ring, poise, setCold, crack -/
theorem iv_ring {n : Nat} {b : XBr} (h : Iv n b) {c : Nat} (hc4 : c < 5) :
    x_X2_ring b (nI c) = 0 ∧ r_X2_ring b (nI c) = b.1 4 ∧ s_X2_ring b (nI c) = (xs b.1 4 (nI c), b.2) ∧ Iv n (s_X2_ring b (nI c)) ∧ (s_X2_ring b (nI c)).1 0 = b.1 0 ∧ (s_X2_ring b (nI c)).2.1 = b.2.1 := by
  obtain ⟨hn, ⟨s0, s1, s2, s3, s4, s5, s6, s7⟩, hc, ht, hp, hf⟩ := h
  have e := nI_toInt (n := c) (by omega)
  have e4 : (4 : Int32).toInt = 4 := by decide
  have k1 : ¬ nI c < 0 := by rw [ilt, i0]; omega
  have k2 : nI c ≤ 4 := by rw [ile]; omega
  have hS : s_X2_ring b (nI c) = (xs b.1 4 (nI c), b.2) := by
    unfold s_X2_ring
    rw [if_neg k1, if_pos k2]
  refine ⟨by unfold x_X2_ring; rw [if_neg k1, if_pos k2], by unfold r_X2_ring; rw [if_neg k1, if_pos k2], hS, ?_, ?_, ?_⟩
  · rw [hS]
    refine ⟨hn, ⟨s0, s1, s2, s3, s4, ?_, ?_, s7⟩, hc, ht, hp, hf⟩
    · show 0 ≤ (nI c).toInt
      omega
    · show (nI c).toInt ≤ 4
      omega
  · rw [hS]
    rfl
  · rw [hS]
theorem iv_poise {n : Nat} {b : XBr} (h : Iv n b) {c : Nat} (hc4 : c < 31) :
    ¬ x_X2_poise b (nI c) = 1 ∧ r_L_poise b (nI c) = (if b.1 1 = 0 then b.1 2 else if b.1 1 = 60 then b.1 2 else -1) ∧ Iv n (s_X2_poise b (nI c)) ∧ (s_X2_poise b (nI c)).1 0 = b.1 0 ∧ (s_X2_poise b (nI c)).2.1 = b.2.1 ∧ (b.1 1 = 0 → x_X2_poise b (nI c) = 0) := by
  have h0 := h
  obtain ⟨hn, ⟨s0, s1, s2, s3, s4, s5, s6, s7⟩, hc, ht, hp, hf⟩ := h
  have e := nI_toInt (n := c) (by omega)
  have e4 : (30 : Int32).toInt = 30 := by decide
  have k1 : ¬ nI c < 0 := by rw [ilt, i0]; omega
  have k2 : nI c ≤ 30 := by rw [ile]; omega
  have hi : Iv n (xs b.1 2 (nI c), b.2) := by
    refine ⟨hn, ⟨s0, s1, s2, ?_, ?_, s5, s6, s7⟩, hc, ht, hp, hf⟩
    · show 0 ≤ (nI c).toInt
      omega
    · show (nI c).toInt ≤ 30
      omega
  unfold r_L_poise x_X2_poise r_X2_poise s_X2_poise
  rw [if_neg k1, if_neg k1, if_neg k1, if_pos k2, if_pos k2, if_pos k2]
  by_cases c1 : b.1 1 = 0
  · rw [if_pos c1, if_pos c1, if_pos c1, if_pos c1, if_pos rfl]
    exact ⟨by decide, rfl, hi, rfl, rfl, fun _ => rfl⟩
  · rw [if_neg c1, if_neg c1, if_neg c1, if_neg c1]
    by_cases c2 : b.1 1 = 60
    · rw [if_pos c2, if_pos c2, if_pos c2, if_pos c2, if_pos rfl]
      exact ⟨by decide, rfl, hi, rfl, rfl, fun _ => rfl⟩
    · rw [if_neg c2, if_neg c2, if_neg c2, if_neg c2, if_neg (by decide)]
      exact ⟨by decide, rfl, h0, rfl, rfl, fun q => absurd q c1⟩
theorem iv_setCold {n : Nat} {b : XBr} (h : Iv n b) {k : Nat} (hk : k < 8) {cv : Int32} (h1 : -3 ≤ cv.toInt) (h2 : cv.toInt ≤ 3) :
    x_X2_setCold b (nI k) cv = 0 ∧ r_X2_setCold b (nI k) cv = b.2.1 k ∧ s_X2_setCold b (nI k) cv = (b.1, upd b.2.1 k cv, b.2.2) ∧ Iv n (b.1, upd b.2.1 k cv, b.2.2) := by
  obtain ⟨hn, hs, hc, ht, hp, hf⟩ := h
  have e := nI_toInt (n := k) (by omega)
  have e8 : (8 : Int32).toInt = 8 := by decide
  have e3 : (3 : Int32).toInt = 3 := by decide
  have em3 : (-3 : Int32).toInt = -3 := by decide
  have k1 : ¬ nI k < 0 := by rw [ilt, i0]; omega
  have k2 : nI k < 8 := by rw [ilt]; omega
  have k3 : ¬ cv < -3 := by rw [ilt]; omega
  have k4 : cv ≤ 3 := by rw [ile]; omega
  refine ⟨by unfold x_X2_setCold; rw [if_neg k1, if_pos k2, if_neg k3, if_pos k4], ?_, ?_, hn, hs, fun j hj => ?_, ht, hp, hf⟩
  · unfold r_X2_setCold
    rw [if_neg k1, if_pos k2, if_neg k3, if_pos k4, cl40 (by omega)]
  · unfold s_X2_setCold
    rw [if_neg k1, if_pos k2, if_neg k3, if_pos k4, cl40 (by omega)]
  · show -3 ≤ (upd b.2.1 k cv j).toInt ∧ (upd b.2.1 k cv j).toInt ≤ 3
    by_cases c : j = k
    · subst c
      rw [upd_at]
      exact ⟨h1, h2⟩
    · rw [upd_ne c]
      exact hc j hj
theorem upd_back (f : Nat → Int32) (k : Nat) (x : Int32) : upd (upd f k x) k (f k) = f := by
  funext j
  by_cases c : j = k
  · subst c
    rw [upd_at]
  · rw [upd_ne c, upd_ne c]
theorem iv_crack {n : Nat} {b : XBr} (h : Iv n b) : Iv n (s_X2_crack b) ∧ (s_X2_crack b).1 0 = b.1 0 ∧ (s_X2_crack b).2.1 = b.2.1 := by
  obtain ⟨hn, hs, hc, ht, hp, hf⟩ := h
  exact ⟨⟨hn, hs, hc, ht, hp, hf⟩, rfl, rfl⟩
end
section
/-! ONE MINUTE -/
theorem first_or {n : Nat} {g : Nat → Int32} {t : XT} (hn : n ≤ 40) (h : Fs n g t.1) :
    (r_X1_firstOfAll t = -1 ∨ ∃ j, j < n ∧ r_X1_firstOfAll t = nI j ∧ g j = 0) ∧ (r_X1_firstBargeElseCart t = -1 ∨ ∃ j, j < n ∧ r_X1_firstBargeElseCart t = nI j ∧ g j = 0) ∧ (r_X1_firstCartElseBarge t = -1 ∨ ∃ j, j < n ∧ r_X1_firstCartElseBarge t = nI j ∧ g j = 0) := by
  have h4 := h 4 (Or.inl rfl)
  have h5 := h 5 (Or.inr rfl)
  refine ⟨?_, ?_, ?_⟩
  · unfold r_X1_firstOfAll
    by_cases c4 : t.1 4 = -1
    · rw [if_pos c4]
      exact h5
    · rw [if_neg c4]
      by_cases c5 : t.1 5 = -1
      · rw [if_pos c5]
        exact h4
      · rw [if_neg c5]
        unfold imn
        split
        · exact h5
        · exact h4
  · unfold r_X1_firstBargeElseCart
    split
    · exact h5
    · exact h4
  · unfold r_X1_firstCartElseBarge
    split
    · exact h4
    · exact h5
theorem next_iv {n : Nat} {b : XBr} (h : Iv n b) : r_X0_servedNext b = -1 ∨ (b.1 6 = -1 ∧ ∃ j, j < n ∧ r_X0_servedNext b = nI j ∧ b.2.2.2 2 j = 0) := by
  obtain ⟨f1, f2, f3⟩ := first_or h.1.1 h.2.2.2.2.2
  unfold r_X0_servedNext
  by_cases c : b.1 6 = -1
  · rw [if_pos c]
    have key : ∀ x : Int32, (x = -1 ∨ ∃ j, j < n ∧ x = nI j ∧ b.2.2.2 2 j = 0) → (x = -1 ∨ (b.1 6 = -1 ∧ ∃ j, j < n ∧ x = nI j ∧ b.2.2.2 2 j = 0)) := fun x hx => hx.elim Or.inl (fun q => Or.inr ⟨c, q⟩)
    apply key
    split
    · exact f1
    · split
      · exact f2
      · split
        · exact f3
        · split
          · split
            · exact f2
            · exact f3
          · exact Or.inl rfl
  · rw [if_neg c]
    exact Or.inl rfl
def dueOf (b : XBr) (bg : Int32) : Int32 := if bg = 1 then imn (60 : Int32) ((b.1 1) + (r_X0_speedTowards b (1 : Int32))) else imx (0 : Int32) ((b.1 1) - (r_X0_speedTowards b (0 : Int32)))
/-- behind the serving -/
def SvA (n : Nat) (b c : XBr) : Prop :=
  (r_X0_servedNext b = -1 ∧ c = b) ∨
  (b.1 6 = -1 ∧ ∃ j, j < n ∧ r_X0_servedNext b = nI j ∧ b.2.2.2 2 j = 0 ∧ ¬ b.1 1 = 60 * b.2.2.2 0 j ∧ c = (xs b.1 1 (dueOf b (b.2.2.2 0 j)), b.2)) ∨
  (b.1 6 = -1 ∧ ∃ (j : Nat) (lt : Int32), j < n ∧ (lt = 0 ∨ lt = 1) ∧ r_X0_servedNext b = nI j ∧ b.2.2.2 2 j = 0 ∧ b.1 1 = 60 * b.2.2.2 0 j ∧ c = (xs (xs (xs b.1 6 (nI j)) 7 (b.2.2.2 1 j)) 8 lt, b.2.1, s_X1_endWait b.2.2 (nI j) (1 : Int32) (b.1 0)))
theorem serve_sv {n : Nat} {b : XBr} (h : Iv n b) : SvA n b (s_X0_serve b (r_X0_servedNext b)) := by
  rcases next_iv h with q | ⟨q, j, hj, hk, hs⟩
  · refine Or.inl ⟨q, ?_⟩
    rw [q]
    unfold s_X0_serve
    rw [if_pos (has_m1 _)]
  · refine Or.inr ?_
    obtain ⟨⟨n40, bn⟩, -, -, ht, -, -⟩ := h
    obtain ⟨hb, -⟩ := ht j hj
    rw [hk]
    unfold s_X0_serve
    rw [if_neg (has_ne n40 bn hj), cl40 (show j < 1000 by omega)]
    rcases hb with hb | hb
    · rw [hb, if_neg (show ¬ (0 : Int32) = 1 by decide)]
      by_cases c : b.1 1 = 0
      · rw [if_pos c]
        exact Or.inr ⟨q, j, 0, hj, Or.inl rfl, rfl, hs, by rw [hb]; exact c.trans (by decide), rfl⟩
      · rw [if_neg c]
        refine Or.inl ⟨q, j, hj, rfl, hs, by rw [hb]; exact fun q9 => c (q9.trans (by decide)), ?_⟩
        unfold dueOf
        rw [hb, if_neg (show ¬ (0 : Int32) = 1 by decide)]
    · rw [hb, if_pos rfl]
      by_cases c : b.1 1 = 60
      · rw [if_pos c]
        exact Or.inr ⟨q, j, 1, hj, Or.inr rfl, rfl, hs, by rw [hb]; exact c.trans (by decide), rfl⟩
      · rw [if_neg c]
        refine Or.inl ⟨q, j, hj, rfl, hs, by rw [hb]; exact fun q9 => c (q9.trans (by decide)), ?_⟩
        unfold dueOf
        rw [hb, if_pos rfl]
def fst3 (m ic : Int32) (cd : Nat → Int32) : Int32 := if m - m / 60 * 60 = 0 then imx 0 (imn 9 (ic + cd (r_J9_floorMod_7cf53 (m / 60) 8).toNatClampNeg)) else ic
/-- the minute's end -/
theorem tail_e (b : XBr) : (∀ i, i ≠ 0 → i ≠ 3 → i ≠ 5 → (s_X0_goOneMinute b).1 i = (g2_X0_goOneMinute b).1 i) ∧ (s_X0_goOneMinute b).2 = (g2_X0_goOneMinute b).2 ∧ (s_X0_goOneMinute b).1 0 = (g2_X0_goOneMinute b).1 0 + 1 ∧ (s_X0_goOneMinute b).1 3 = fst3 ((g2_X0_goOneMinute b).1 0) ((g2_X0_goOneMinute b).1 3) (g2_X0_goOneMinute b).2.1 := by
  unfold s_X0_goOneMinute g3_X0_goOneMinute
  generalize g2_X0_goOneMinute b = g
  generalize g.1 5 + (g.2.2.1 2 + (g2_X0_goOneMinute b).2.2.1 3) = w5
  generalize ((g.1 5) + (g.2.2.1 2 + g.2.2.1 3)) = w
  unfold s_X0_freeze fst3
  have e0 : (xs g.1 5 w, g.2).1 0 = g.1 0 := rfl
  have e3 : (xs g.1 5 w, g.2).1 3 = g.1 3 := rfl
  rw [e0, e3]
  by_cases c : g.1 0 - g.1 0 / 60 * 60 = 0
  · rw [if_pos c, if_pos c]
    refine ⟨fun i h0 h3 h5 => ?_, rfl, rfl, rfl⟩
    show xs (xs (xs g.1 5 w) 3 _) 0 _ i = g.1 i
    rw [xs_ne h0, xs_ne h3, xs_ne h5]
  · rw [if_neg c, if_neg c]
    refine ⟨fun i h0 h3 h5 => ?_, rfl, rfl, rfl⟩
    show xs (xs g.1 5 w) 0 _ i = g.1 i
    rw [xs_ne h0, xs_ne h5]
/-- behind the one that passes -/
theorem go_none {c : XBr} (h : c.1 6 = -1) : s_X0_goOnPassing c = c := by
  unfold s_X0_goOnPassing
  rw [h, if_pos (has_m1 _)]
theorem one_or {x : Int32} (h1 : 1 ≤ x.toInt) (h6 : x.toInt ≤ 6) : (0 < x - 1 ∧ ¬ x = 1) ∨ (¬ 0 < x - 1 ∧ x = 1) := by
  have e : (x - 1).toInt = x.toInt - 1 := by rw [toInt_subS (by rw [i1]; omega) (by rw [i1]; omega), i1]
  by_cases c : x = 1
  · refine Or.inr ⟨?_, c⟩
    rw [c]
    decide
  · refine Or.inl ⟨?_, c⟩
    rw [ilt, i0, e]
    have : x.toInt ≠ 1 := fun q => c (ieq (by rw [i1]; exact q))
    omega
theorem go_some {n j : Nat} {c : XBr} (n40 : n ≤ 40) (cn : c.2.2.1 0 = nI n) (hj : j < n) (hp : c.1 6 = nI j) (h1 : 1 ≤ (c.1 7).toInt) (h6 : (c.1 7).toInt ≤ 6) :
    (∀ i, i ≠ 6 → i ≠ 7 → (s_X0_goOnPassing c).1 i = c.1 i) ∧ (s_X0_goOnPassing c).2.1 = c.2.1 ∧ (∀ i, i ≠ 1 → (s_X0_goOnPassing c).2.2.1 i = c.2.2.1 i) ∧ (∀ i, i ≠ 2 → i ≠ 4 → (s_X0_goOnPassing c).2.2.2 i = c.2.2.2 i) ∧
    (s_X0_goOnPassing c).2.2.2 2 = (if c.1 7 = 1 then upd (c.2.2.2 2) j 2 else c.2.2.2 2) ∧ (s_X0_goOnPassing c).2.2.2 4 = (if c.1 7 = 1 then upd (c.2.2.2 4) j (c.1 0) else c.2.2.2 4) ∧
    (s_X0_goOnPassing c).1 6 = (if c.1 7 = 1 then -1 else nI j) ∧ (s_X0_goOnPassing c).1 7 = c.1 7 - 1 ∧ (s_X0_goOnPassing c).2.2.1 1 = (if c.1 7 = 1 then c.2.2.1 1 + 1 else c.2.2.1 1) := by
  unfold s_X0_goOnPassing
  rw [hp, if_neg (has_ne n40 cn hj)]
  rcases one_or h1 h6 with ⟨c1, c2⟩ | ⟨c1, c2⟩
  · rw [if_pos c1, if_neg c2, if_neg c2, if_neg c2, if_neg c2]
    exact ⟨fun i _ h7 => xs_ne h7, rfl, fun _ _ => rfl, fun _ _ _ => rfl, rfl, rfl, hp, rfl, rfl⟩
  · rw [if_neg c1, if_pos c2, if_pos c2, if_pos c2, if_pos c2]
    unfold g1_X0_goOnPassing s_X1_endPassage
    rw [hp, cl40 (show j < 1000 by omega)]
    refine ⟨fun i h6 h7 => ?_, rfl, fun i h => xs_ne h, fun i h2 h4 => ?_, rfl, rfl, rfl, rfl, rfl⟩
    · show xs (xs c.1 7 _) 6 _ i = _
      rw [xs_ne h6, xs_ne h7]
    · show xa (xa c.2.2.2 2 _) 4 _ i = _
      rw [xa_ne h4, xa_ne h2]
def Mn (n : Nat) (b b' : XBr) : Prop :=
  (b'.2.1 = b.2.1 ∧ b'.1 0 = b.1 0 + 1 ∧ b'.2.2.2 0 = b.2.2.2 0 ∧ b'.2.2.2 1 = b.2.2.2 1 ∧ b'.2.2.2 3 = b.2.2.2 3 ∧ b'.1 3 = fst3 (b.1 0) (b.1 3) b.2.1) ∧
  ((b.1 6 = -1 ∧ b'.1 6 = -1 ∧ b'.2.2 = b.2.2 ∧ ((r_X0_servedNext b = -1 ∧ b'.1 1 = b.1 1) ∨ ∃ j, j < n ∧ r_X0_servedNext b = nI j ∧ b.2.2.2 2 j = 0 ∧ ¬ b.1 1 = 60 * b.2.2.2 0 j ∧ b'.1 1 = dueOf b (b.2.2.2 0 j))) ∨
   (∃ (j : Nat) (had : Int32), j < n ∧ (1 ≤ had.toInt ∧ had.toInt ≤ 6) ∧ b.1 1 = 60 * b.2.2.2 0 j ∧ b'.1 1 = b.1 1 ∧ ((b.1 6 = nI j ∧ r_X0_servedNext b = -1 ∧ had = b.1 7 ∧ b.2.2.2 2 j = 1) ∨ (b.1 6 = -1 ∧ r_X0_servedNext b = nI j ∧ had = b.2.2.2 1 j ∧ b.2.2.2 2 j = 0)) ∧
     b'.2.2.2 2 = upd (b.2.2.2 2) j (if had = 1 then 2 else 1) ∧ b'.2.2.2 4 = (if had = 1 then upd (b.2.2.2 4) j (b.1 0) else b.2.2.2 4) ∧
     (∀ k, ¬ k = j → b'.2.2.2 5 k = b.2.2.2 5 k) ∧ b'.2.2.2 5 j = (if b.2.2.2 2 j = 0 then b.1 0 else b.2.2.2 5 j) ∧
     b'.1 6 = (if had = 1 then -1 else nI j) ∧ b'.1 7 = had - 1 ∧ b'.2.2.1 1 = (if had = 1 then b.2.2.1 1 + 1 else b.2.2.1 1)))
theorem upd_upd (f : Nat → Int32) (k : Nat) (x y : Int32) : upd (upd f k x) k y = upd f k y := by
  funext j
  by_cases c : j = k
  · subst c
    rw [upd_at, upd_at]
  · rw [upd_ne c, upd_ne c, upd_ne c]
theorem upd_self (f : Nat → Int32) (k : Nat) (x : Int32) (h : f k = x) : upd f k x = f := by
  funext j
  by_cases c : j = k
  · subst c
    rw [upd_at, h]
  · rw [upd_ne c]
/-- Fs looks at who waits alone -/
theorem Fs.sub {n : Nat} {g g' f f' : Nat → Int32} (h : Fs n g f) (hg : ∀ j, g j = 0 → g' j = 0) (hf : ∀ i, i = 4 ∨ i = 5 → f' i = f i) : Fs n g' f' := by
  intro i hi
  rw [hf i hi]
  rcases h i hi with q | ⟨j, h1, h2, h3⟩
  · exact Or.inl q
  · exact Or.inr ⟨j, h1, h2, hg j h3⟩
theorem imn_b {x y : Int32} {lo hi : Int} (h1 : lo ≤ x.toInt) (h2 : x.toInt ≤ hi) (h3 : lo ≤ y.toInt) : lo ≤ (imn x y).toInt ∧ (imn x y).toInt ≤ hi := by
  unfold imn
  by_cases c : y < x
  · rw [if_pos c]
    rw [ilt] at c
    omega
  · rw [if_neg c]
    omega
theorem imx_b {x y : Int32} {lo hi : Int} (h1 : lo ≤ x.toInt) (h2 : x.toInt ≤ hi) (h3 : y.toInt ≤ hi) : lo ≤ (imx x y).toInt ∧ (imx x y).toInt ≤ hi := by
  unfold imx
  by_cases c : x < y
  · rw [if_pos c]
    rw [ilt] at c
    omega
  · rw [if_neg c]
    omega
theorem dPos {x : Int32} (d : Int32) (n : Nat) (hd : d.toInt = n) (hd0 : ¬ d = -1) (h : 0 ≤ x.toInt) : (x / d).toInt = x.toInt / n := by
  rw [Int32.toInt_div_of_ne_right _ _ hd0, hd, Int.tdiv_eq_ediv_of_nonneg h]
/-- the speeds, both -/
theorem speeds {b : XBr} (h1 : 0 ≤ (b.1 2).toInt) (h2 : (b.1 2).toInt ≤ 30) :
    (1 ≤ (r_X0_speedTowards b 1).toInt ∧ (r_X0_speedTowards b 1).toInt ≤ 6) ∧ (1 ≤ (r_X0_speedTowards b 0).toInt ∧ (r_X0_speedTowards b 0).toInt ≤ 6) ∧ (6 < r_X0_speedTowards b 1 + r_X0_speedTowards b 0 ↔ b.1 3 < 5) := by
  have g6 : (6 : Int32).toInt = 6 := by decide
  have d6 := dPos (x := b.1 2) (6 : Int32) 6 (by decide) (by decide) h1
  have s1 : ((6 : Int32) - ((b.1 2) / (6 : Int32))).toInt = 6 - (b.1 2).toInt / 6 := by
    rw [toInt_subS (by omega) (by omega), d6, g6]
    rfl
  have s2 : ((1 : Int32) + ((b.1 2) / (6 : Int32))).toInt = 1 + (b.1 2).toInt / 6 := by
    rw [toInt_addS (by rw [i1]; omega) (by rw [i1]; omega), d6, i1]
    rfl
  have d1 := dPos (x := (6 : Int32) - ((b.1 2) / (6 : Int32))) (2 : Int32) 2 (by decide) (by decide) (by omega)
  have d2 := dPos (x := (1 : Int32) + ((b.1 2) / (6 : Int32))) (2 : Int32) 2 (by decide) (by decide) (by omega)
  unfold r_X0_speedTowards
  have k10 : ¬ (1 : Int32) = 0 := by decide
  rw [if_neg k10, if_pos rfl]
  by_cases c : b.1 3 < 5
  · rw [if_pos c, if_pos c]
    refine ⟨by omega, by omega, ?_⟩
    rw [ilt, g6, toInt_addS (by omega) (by omega), s1, s2]
    exact ⟨fun _ => c, fun _ => by omega⟩
  · rw [if_neg c, if_neg c]
    have m1 := imx_b (x := (1 : Int32)) (y := ((6 : Int32) - ((b.1 2) / (6 : Int32))) / (2 : Int32)) (lo := 1) (hi := 3) (by rw [i1]; omega) (by rw [i1]; omega) (by omega)
    have m2 := imx_b (x := (1 : Int32)) (y := ((1 : Int32) + ((b.1 2) / (6 : Int32))) / (2 : Int32)) (lo := 1) (hi := 3) (by rw [i1]; omega) (by rw [i1]; omega) (by omega)
    refine ⟨by omega, by omega, ?_⟩
    rw [ilt, g6, toInt_addS (by omega) (by omega)]
    exact ⟨fun q => absurd q (by omega), fun q => absurd q c⟩
theorem due_b {n : Nat} {b : XBr} (h : Iv n b) (bg : Int32) : 0 ≤ (dueOf b bg).toInt ∧ (dueOf b bg).toInt ≤ 60 := by
  obtain ⟨-, ⟨s0, s1, s2, s3, s4, s5, s6, s7⟩, -⟩ := h
  obtain ⟨p1, p2, -⟩ := speeds s3 s4
  unfold dueOf
  by_cases c : bg = 1
  · rw [if_pos c]
    have e : (b.1 1 + r_X0_speedTowards b 1).toInt = (b.1 1).toInt + (r_X0_speedTowards b 1).toInt := toInt_addS (by omega) (by omega)
    exact imn_b (by rw [i60]; omega) (by rw [i60]; omega) (by omega)
  · rw [if_neg c]
    have e : (b.1 1 - r_X0_speedTowards b 0).toInt = (b.1 1).toInt - (r_X0_speedTowards b 0).toInt := toInt_subS (by omega) (by omega)
    exact imx_b (by rw [i0]; omega) (by rw [i0]; omega) (by omega)
theorem min_mn {n : Nat} {b : XBr} (h : Iv n b) (hm : (b.1 0).toInt < 1000000) : Mn n b (s_X0_goOneMinute b) ∧ Iv n (s_X0_goOneMinute b) := by
  have h0 := h
  obtain ⟨⟨n40, bn⟩, ⟨s0, s1, s2, s3, s4, s5, s6, s7⟩, hc, ht, hp, hf⟩ := h
  obtain ⟨t1, t2, t3, t4⟩ := tail_e b
  have hA := serve_sv h0
  have em : (b.1 0 + 1).toInt = (b.1 0).toInt + 1 := by rw [toInt_addS (by rw [i1]; omega) (by rw [i1]; omega), i1]
  have eg : g2_X0_goOneMinute b = s_X0_goOnPassing (s_X0_serve b (r_X0_servedNext b)) := rfl
  generalize s_X0_goOneMinute b = b' at t1 t2 t3 t4 ⊢
  generalize g2_X0_goOneMinute b = g at t1 t2 t3 t4 eg
  -- scalars that no stage but the last writes
  have fin : ∀ (q0 : g.1 0 = b.1 0) (q2 : g.1 2 = b.1 2) (q3 : g.1 3 = b.1 3) (q4 : g.1 4 = b.1 4) (q8 : g.1 8 = 0 ∨ g.1 8 = 1) (qa : 0 ≤ (g.1 1).toInt ∧ (g.1 1).toInt ≤ 60) (qc : g.2.1 = b.2.1) (qn : g.2.2.1 0 = nI n)
      (qt : ∀ k, k < n → (g.2.2.2 0 k = 0 ∨ g.2.2.2 0 k = 1) ∧ (1 ≤ (g.2.2.2 1 k).toInt ∧ (g.2.2.2 1 k).toInt ≤ 6) ∧ (g.2.2.2 2 k = 1 → g.1 6 = nI k) ∧ (g.2.2.2 4 k = -1 ∨ g.2.2.2 2 k = 2))
      (qp : g.1 6 = -1 ∨ ∃ j, j < n ∧ g.1 6 = nI j ∧ g.2.2.2 2 j = 1 ∧ 1 ≤ (g.1 7).toInt ∧ (g.1 7).toInt ≤ 6 ∧ g.1 1 = 60 * g.2.2.2 0 j) (qf : Fs n (g.2.2.2 2) g.2.2.1), Iv n b' := by
    intro q0 q2 q3 q4 q8 qa qc qn qt qp qf
    have e1 := t1 1 (by decide) (by decide) (by decide)
    have e2 := t1 2 (by decide) (by decide) (by decide)
    have e4 := t1 4 (by decide) (by decide) (by decide)
    have e6 := t1 6 (by decide) (by decide) (by decide)
    have e7 := t1 7 (by decide) (by decide) (by decide)
    have e8 := t1 8 (by decide) (by decide) (by decide)
    unfold Iv
    rw [t2, t3, e1, e2, e4, e6, e7, e8, q0, q2, q4, qc, em]
    exact ⟨⟨n40, qn⟩, ⟨by omega, qa.1, qa.2, s3, s4, s5, s6, q8⟩, hc, qt, qp, qf⟩
  rcases hA with ⟨hk, hA⟩ | ⟨h6, j, hj, hk, hs, hne, hA⟩ | ⟨h6, j, lt, hj, hlt, hk, hs, hang, hA⟩
  · -- nobody is to be served
    rw [hA] at eg
    rcases hp with hp | ⟨j, hj, hp, hs, u1, u6, hang⟩
    · rw [go_none hp] at eg
      subst eg
      exact ⟨⟨⟨by rw [t2], t3, by rw [t2], by rw [t2], by rw [t2], t4⟩, Or.inl ⟨hp, by rw [t1 6 (by decide) (by decide) (by decide)]; exact hp, by rw [t2], Or.inl ⟨hk, t1 1 (by decide) (by decide) (by decide)⟩⟩⟩, fin rfl rfl rfl rfl s7 ⟨s1, s2⟩ rfl bn ht (Or.inl hp) hf⟩
    · obtain ⟨v1, v2, v3, v4, v5, v6, v7, v8, v9⟩ := go_some n40 bn hj hp u1 u6
      rw [← eg] at v1 v2 v3 v4 v5 v6 v7 v8 v9
      have a0 := v1 0 (by decide) (by decide)
      have a1 := v1 1 (by decide) (by decide)
      have a2 := v1 2 (by decide) (by decide)
      have a3 := v1 3 (by decide) (by decide)
      have a4 := v1 4 (by decide) (by decide)
      have a8 := v1 8 (by decide) (by decide)
      have w0 := v4 0 (by decide) (by decide)
      have w1 := v4 1 (by decide) (by decide)
      have w3 := v4 3 (by decide) (by decide)
      have w5 := v4 5 (by decide) (by decide)
      have e2 : g.2.2.2 2 = upd (b.2.2.2 2) j (if b.1 7 = 1 then 2 else 1) := by
        rw [v5]
        by_cases c : b.1 7 = 1
        · rw [if_pos c, if_pos c]
        · rw [if_neg c, if_neg c, upd_self _ _ _ hs]
      refine ⟨⟨⟨by rw [t2, v2], by rw [t3, a0], by rw [t2, w0], by rw [t2, w1], by rw [t2, w3], by rw [t4, a0, a3, v2]⟩, Or.inr ⟨j, b.1 7, hj, ⟨u1, u6⟩, hang, by rw [t1 1 (by decide) (by decide) (by decide), a1], Or.inl ⟨hp, hk, rfl, hs⟩, by rw [t2, e2], by rw [t2, v6], fun k hk => by rw [t2, w5], by rw [t2, w5, hs, if_neg (by decide)], by rw [t1 6 (by decide) (by decide) (by decide), v7], by rw [t1 7 (by decide) (by decide) (by decide), v8], by rw [t2, v9]⟩⟩, ?_⟩
      refine fin a0 a2 a3 a4 (by rw [a8]; exact s7) (by rw [a1]; exact ⟨s1, s2⟩) v2 (by rw [v3 0 (by decide)]; exact bn) (fun k hk9 => ?_) ?_ ?_
      · obtain ⟨r0, r1, r2, r3⟩ := ht k hk9
        rw [w0, w1, e2, v6, v7]
        refine ⟨r0, r1, ?_⟩
        by_cases d : k = j
        · subst d
          rw [upd_at]
          by_cases c : b.1 7 = 1
          · rw [if_pos c, if_pos c, if_pos c, upd_at]
            exact ⟨fun q => absurd q (by decide), Or.inr rfl⟩
          · rw [if_neg c, if_neg c, if_neg c]
            refine ⟨fun _ => rfl, Or.inl ?_⟩
            rcases r3 with r3 | r3
            · exact r3
            · rw [hs] at r3
              exact absurd r3 (by decide)
        · rw [upd_ne d]
          refine ⟨fun q => ?_, ?_⟩
          · have := r2 q
            rw [hp] at this
            exact absurd (nI_inj (by omega) (by omega) this).symm d
          · by_cases c : b.1 7 = 1
            · rw [if_pos c, upd_ne d]
              exact r3
            · rw [if_neg c]
              exact r3
      · by_cases c : b.1 7 = 1
        · rw [v7, if_pos c]
          exact Or.inl rfl
        · refine Or.inr ⟨j, hj, by rw [v7, if_neg c], by rw [e2, upd_at, if_neg c], ?_, ?_, by rw [a1, w0]; exact hang⟩
          · rcases one_or u1 u6 with ⟨c1, c2⟩ | ⟨c1, c2⟩
            · rw [v8]
              rw [ilt, i0] at c1
              omega
            · exact absurd c2 c
          · rw [v8, toInt_subS (by rw [i1]; omega) (by rw [i1]; omega), i1]
            omega
      · refine hf.sub (fun i hi => ?_) (fun i hi => v3 i (by omega))
        rw [e2, upd_ne (fun q => ?_)]
        · exact hi
        · subst q
          rw [hs] at hi
          exact absurd hi (by decide)
  · -- the bridge goes
    rw [hA, go_none (show (xs b.1 1 (dueOf b (b.2.2.2 0 j)), b.2).1 6 = -1 from h6)] at eg
    subst eg
    exact ⟨⟨⟨by rw [t2], t3, by rw [t2], by rw [t2], by rw [t2], t4⟩, Or.inl ⟨h6, by rw [t1 6 (by decide) (by decide) (by decide)]; exact h6, by rw [t2], Or.inr ⟨j, hj, hk, hs, hne, t1 1 (by decide) (by decide) (by decide)⟩⟩⟩, fin rfl rfl rfl rfl s7 (due_b h0 _) rfl bn ht (Or.inl h6) hf⟩
  · -- one begins
    obtain ⟨x1, x2, x3, x4⟩ := endWait_t n40 hj bn (1 : Int32) (b.1 0)
    generalize s_X1_endWait b.2.2 (nI j) (1 : Int32) (b.1 0) = t' at hA x1 x2 x3 x4
    obtain ⟨rb, ⟨u1, u6⟩, -, r4⟩ := ht j hj
    have y0 : t'.2 0 = b.2.2.2 0 := by rw [x1]; rfl
    have y1 : t'.2 1 = b.2.2.2 1 := by rw [x1]; rfl
    have y2 : t'.2 2 = upd (b.2.2.2 2) j 1 := by rw [x1]; rfl
    have y3 : t'.2 3 = b.2.2.2 3 := by rw [x1]; rfl
    have y4 : t'.2 4 = b.2.2.2 4 := by rw [x1]; rfl
    have y5 : t'.2 5 = upd (b.2.2.2 5) j (b.1 0) := by rw [x1]; rfl
    rw [hA] at eg
    obtain ⟨v1, v2, v3, v4, v5, v6, v7, v8, v9⟩ := go_some (c := (xs (xs (xs b.1 6 (nI j)) 7 (b.2.2.2 1 j)) 8 lt, b.2.1, t')) n40 x2 hj rfl u1 u6
    rw [← eg] at v1 v2 v3 v4 v5 v6 v7 v8 v9
    have a0 : g.1 0 = b.1 0 := v1 0 (by decide) (by decide)
    have a1 : g.1 1 = b.1 1 := v1 1 (by decide) (by decide)
    have a2 : g.1 2 = b.1 2 := v1 2 (by decide) (by decide)
    have a3 : g.1 3 = b.1 3 := v1 3 (by decide) (by decide)
    have a4 : g.1 4 = b.1 4 := v1 4 (by decide) (by decide)
    have a8 : g.1 8 = lt := v1 8 (by decide) (by decide)
    have w0 : g.2.2.2 0 = b.2.2.2 0 := (v4 0 (by decide) (by decide)).trans y0
    have w1 : g.2.2.2 1 = b.2.2.2 1 := (v4 1 (by decide) (by decide)).trans y1
    have w3 : g.2.2.2 3 = b.2.2.2 3 := (v4 3 (by decide) (by decide)).trans y3
    have w5 : g.2.2.2 5 = upd (b.2.2.2 5) j (b.1 0) := (v4 5 (by decide) (by decide)).trans y5
    have v5 : g.2.2.2 2 = (if b.2.2.2 1 j = 1 then upd (t'.2 2) j 2 else t'.2 2) := v5
    have v6 : g.2.2.2 4 = (if b.2.2.2 1 j = 1 then upd (t'.2 4) j (b.1 0) else t'.2 4) := v6
    have v7 : g.1 6 = (if b.2.2.2 1 j = 1 then -1 else nI j) := v7
    have v8 : g.1 7 = b.2.2.2 1 j - 1 := v8
    have v9 : g.2.2.1 1 = (if b.2.2.2 1 j = 1 then t'.1 1 + 1 else t'.1 1) := v9
    rw [y4] at v6
    rw [x3] at v9
    have e2 : g.2.2.2 2 = upd (b.2.2.2 2) j (if b.2.2.2 1 j = 1 then 2 else 1) := by
      rw [v5, y2]
      by_cases c : b.2.2.2 1 j = 1
      · rw [if_pos c, if_pos c, upd_upd]
      · rw [if_neg c, if_neg c]
    refine ⟨⟨⟨by rw [t2, v2], by rw [t3, a0], by rw [t2, w0], by rw [t2, w1], by rw [t2, w3], by rw [t4, a0, a3, v2]⟩, Or.inr ⟨j, b.2.2.2 1 j, hj, ⟨u1, u6⟩, hang, by rw [t1 1 (by decide) (by decide) (by decide), a1], Or.inr ⟨h6, hk, rfl, hs⟩, by rw [t2, e2], by rw [t2, v6], fun k hk => by rw [t2, w5, upd_ne hk], by rw [t2, w5, upd_at, if_pos hs], by rw [t1 6 (by decide) (by decide) (by decide), v7], by rw [t1 7 (by decide) (by decide) (by decide), v8], by rw [t2, v9]⟩⟩, ?_⟩
    refine fin a0 a2 a3 a4 (by rw [a8]; exact hlt) (by rw [a1]; exact ⟨s1, s2⟩) v2 (by rw [v3 0 (by decide)]; exact x2) (fun k hk9 => ?_) ?_ ?_
    · obtain ⟨r0, r1, r2, r3⟩ := ht k hk9
      rw [w0, w1, e2, v6, v7]
      refine ⟨r0, r1, ?_⟩
      by_cases d : k = j
      · subst d
        rw [upd_at]
        by_cases c : b.2.2.2 1 k = 1
        · rw [if_pos c, if_pos c, if_pos c, upd_at]
          exact ⟨fun q => absurd q (by decide), Or.inr rfl⟩
        · rw [if_neg c, if_neg c, if_neg c]
          refine ⟨fun _ => rfl, Or.inl ?_⟩
          rcases r3 with r3 | r3
          · exact r3
          · rw [hs] at r3
            exact absurd r3 (by decide)
      · rw [upd_ne d]
        refine ⟨fun q => ?_, ?_⟩
        · have := r2 q
          rw [h6] at this
          exact absurd this.symm (nI_nm (by omega))
        · by_cases c : b.2.2.2 1 j = 1
          · rw [if_pos c, upd_ne d]
            exact r3
          · rw [if_neg c]
            exact r3
    · by_cases c : b.2.2.2 1 j = 1
      · rw [v7, if_pos c]
        exact Or.inl rfl
      · refine Or.inr ⟨j, hj, by rw [v7, if_neg c], by rw [e2, upd_at, if_neg c], ?_, ?_, by rw [a1, w0]; exact hang⟩
        · rcases one_or u1 u6 with ⟨c1, c2⟩ | ⟨c1, c2⟩
          · rw [v8]
            rw [ilt, i0] at c1
            omega
          · exact absurd c2 c
        · rw [v8, toInt_subS (by rw [i1]; omega) (by rw [i1]; omega), i1]
          omega
    · refine x4.sub (fun i hi => ?_) (fun i hi => v3 i (by omega))
      rw [e2]
      by_cases d : i = j
      · subst d
        rw [upd_at] at hi
        exact absurd hi (by decide)
      · rw [upd_ne d] at hi ⊢
        exact hi
end
