/-! OWN KIT 7: rows of rows, answers renamed -/
abbrev rE (I : ClassId) (G : Nat → Nat → Int32) : Nat → va_E := fun a => .inl (I, 7, .inl (G a))
abbrev rW (I : ClassId) (n : Nat) (r : Nat → Nat) (G : Nat → Nat → Int32) : va_W := va_pl ((List.range n).map r) (rE I G)
abbrev cW (J : ClassId) (a n : Nat) (r : Nat → Nat) : Nat × va_E := (a, .inl (J, n, .inr (.inr (.inr (.inr (fun i => if i < n then some (r i) else none))))))
theorem r_in {n i : Nat} (r : Nat → Nat) (h : i < n) : r i ∈ (List.range n).map r := List.mem_map.mpr ⟨i, List.mem_range.mpr h, rfl⟩
theorem rE_up (I : ClassId) (G : Nat → Nat → Int32) (a : Nat) (g : Nat → Int32) : va_up (rE I G) a (.inl (I, 7, .inl g)) = rE I (xa G a g) := by
  funext b
  unfold va_up rE xa
  by_cases c : b = a
  · rw [if_pos c, if_pos c]
  · rw [if_neg c, if_neg c]
theorem pl_same {L : List Nat} {f g : Nat → va_E} (h : ∀ a, a ∈ L → f a = g a) : va_pl L f = va_pl L g := by
  unfold va_pl
  exact List.map_congr_left (fun a ha => by rw [h a ha])
theorem xw_ins {D : va_G} {cl : List vw_C} {H : Heap} {X a T : va_W} {t : Nat × va_E} (h : va_P D cl ((X ++ (a ++ T)) ++ [t]) H) : va_P D cl (X ++ ((a ++ [t]) ++ T)) H := by
  rw [← List.append_assoc X a T] at h
  rw [← List.append_assoc, ← List.append_assoc]
  exact va_P.swap h
theorem xw_insD {A : Nat → Prop} {X a T : va_W} {t : Nat × va_E} (h : va_D A ((X ++ (a ++ T)) ++ [t])) : va_D A (X ++ ((a ++ [t]) ++ T)) := by
  rw [← List.append_assoc X a T] at h
  rw [← List.append_assoc, ← List.append_assoc]
  exact va_D.swap h
/-- the rows dropped -/
theorem xw_dropP {D : va_G} {cl : List vw_C} {H : Heap} {X a T : va_W} (h : va_P D cl (X ++ (a ++ T)) H) : va_P D cl (X ++ a) H := by
  rw [← List.append_assoc] at h
  exact fun k q hk => h k q (w_left hk)
theorem xw_dropD {A : Nat → Prop} {X a T : va_W} (h : va_D A (X ++ (a ++ T))) : va_D A (X ++ a) := by
  rw [← List.append_assoc] at h
  exact ⟨fun i j p q hi hj e => h.1 i j p q (w_left hi) (w_left hj) e, fun k q hk => h.2 k q (w_left hk)⟩
section XK7
variable {p : Program} {l : Launch} {e : Env} {R : Room} {s : State} {m : MethodId} {args : Array Value} {below : List Frame} {meth : Method} {c : Code} {H : Heap} {locs : List Loc} {cells slots : Nat} {Q : State → Prop}
variable {cc : ByteArray} {pc : Nat} {ls : Array Slot} {rest st0 : List Value} {D : va_G} {tys : List (ClassId × FieldType)} {A : Nat → Prop} {H0 : Heap}
theorem xr_calliR {V : Type} {mc ms : Nat} {a9 : Array Value} {Rv R' : Int32} {wc wr : va_W} {w1 : V → va_W} (hR : Rv = R') (hP : va_P D vwCl (wc ++ wr) H) (hD : va_D A (wc ++ wr)) (hS : va_S A H0 H locs) (hA : ∀ q, H0.size ≤ q → A q)
    (hr : va_Run p l e R s m args below meth c H locs cells slots mc ms (F0 m pc ls st0) rest (xQiE D tys (va_A wc H.size) V Rv w1 a9) (va_A wc H.size))
    (kk : ∀ (v : V) (H1 : Heap) (locs1 : List Loc), va_P D vwCl (w1 v ++ wr) H1 → va_D A (w1 v ++ wr) → va_S A H0 H1 locs1 → W p l e R s m args below meth c H1 locs1 (cells + mc) (slots + ms) Q (F0 m (pc + 3) ls (.int R' :: rest))) : W p l e R s m args below meth c H locs cells slots Q (F0 m pc ls st0) := by
  subst hR
  exact xr_calliE hP hD hS hA hr kk
theorem xr_calldR {mc ms : Nat} {a9 : Array Value} {Rv R' : UInt64} {wc wr w1 : va_W} (hR : Rv = R') (hP : va_P D vwCl (wc ++ wr) H) (hD : va_D A (wc ++ wr)) (hS : va_S A H0 H locs) (hA : ∀ q, H0.size ≤ q → A q)
    (hr : va_Run p l e R s m args below meth c H locs cells slots mc ms (F0 m pc ls st0) rest (xQd D tys (va_A wc H.size) Rv w1 a9) (va_A wc H.size))
    (kk : ∀ (H1 : Heap) (locs1 : List Loc), va_P D vwCl (w1 ++ wr) H1 → va_D A (w1 ++ wr) → va_S A H0 H1 locs1 → W p l e R s m args below meth c H1 locs1 (cells + mc) (slots + ms) Q (F0 m (pc + 3) ls (.double R' :: rest))) : W p l e R s m args below meth c H locs cells slots Q (F0 m pc ls st0) := by
  subst hR
  exact xr_calld hP hD hS hA hr kk
theorem nilA {sz q : Nat} (h : va_A ([] : va_W) sz q) : sz ≤ q := by
  rcases h with ⟨k, e, h⟩ | h
  · simp at h
  · exact h
theorem xr_pre0 {av : List Value} (hN : xNw s) (hK : va_K D vwCl tys s) : PreS s H (xPc D tys av H.size []) av :=
  ⟨fun a U g mk q => by
    obtain ⟨q0, q1, qP, qK, qD, qN⟩ := q
    exact ⟨q0, q1, qP, va_K.moved (u := U) (U := U.calling g mk a) (Vm.Alike.refl U.vm) qK, qD, xNw.same (u := U) (U := U.calling g mk a) rfl qN⟩,
   fun U hU hW => ⟨rfl, by rw [hU], fun k q hk => by simp at hk, va_K.moved hW.alike hK, ⟨fun i j p q hi => by simp at hi, fun _ _ _ => trivial⟩, hN.warm hW⟩⟩
/-- a callee that looks at no cell -/
theorem xr_call0 {mc ms : Nat} {a9 : Array Value} {Rv R' : Int32} {ws w1 : va_W} (hR : Rv = R') (hP : va_P D vwCl ws H) (hD : va_D A ws) (hS : va_S A H0 H locs) (hA : ∀ q, H0.size ≤ q → A q)
    (hr : va_Run p l e R s m args below meth c H locs cells slots mc ms (F0 m pc ls st0) rest (xQi D tys (va_A [] H.size) Rv w1 a9) (va_A [] H.size))
    (kk : ∀ (H1 : Heap) (locs1 : List Loc), va_P D vwCl ws H1 → va_D A ws → va_S A H0 H1 locs1 → W p l e R s m args below meth c H1 locs1 (cells + mc) (slots + ms) Q (F0 m (pc + 3) ls (.int R' :: rest))) : W p l e R s m args below meth c H locs cells slots Q (F0 m pc ls st0) := by
  subst hR
  refine va_calli hr hS (fun q _ h => hA q (Nat.le_trans hS.1 (nilA h))) (fun q h => hA q (Nat.le_trans hS.1 (nilA h))) (fun r u t H1 locs1 ht hvm hw hB hz1 hk1 hS1 => ?_)
  have hw : r = Rv := hw
  subst hw
  exact kk H1 locs1 (hP.kept (fun k q hq => hk1 q.1 (hP k q hq).lt (fun h => Nat.not_le.mpr (hP k q hq).lt (nilA h)))) hD hS1
theorem xr_rld {I : ClassId} {n i : Nat} {r : Nat → Nat} {G : Nat → Nat → Int32} {X a : va_W} (hx : p.tables.exec = Jvm.exec) (hb : c.code = cc) (hK : va_K D vwCl [(I, .int)] s) (hP : va_P D vwCl (X ++ (a ++ rW I n r G)) H) (hi : i < n) {w R' : Int32} {w9 : Nat} (hw : w.toNatClampNeg = w9) (hin : vp_in w 7) (hR : G (r i) w9 = R') (hdg : decode cc pc = .ok (.iaload, 1))
    (kk : W p l e R s m args below meth c H locs cells slots Q (F0 m (pc + 1) ls (.int R' :: rest))) : W p l e R s m args below meth c H locs cells slots Q (F0 m pc ls (.int w :: .ref (r i) :: rest)) := by
  rw [← List.append_assoc] at hP
  obtain ⟨k, hk⟩ := va_pl_get (X := X ++ a) (f := rE I G) (r_in r hi)
  subst hw
  subst hR
  exact va_iald (f := G (r i)) hx hb hK hP k 0 hk rfl hin hdg kk
theorem xr_rst {I : ClassId} {n i : Nat} {r : Nat → Nat} {G : Nat → Nat → Int32} {X a : va_W} (hx : p.tables.exec = Jvm.exec) (hb : c.code = cc) (hK : va_K D vwCl [(I, .int)] s) (hP : va_P D vwCl (X ++ (a ++ rW I n r G)) H) (hD : va_D A (X ++ (a ++ rW I n r G))) (hS : va_S A H0 H locs) (hi : i < n) {w x : Int32} {w9 : Nat} (hw : w.toNatClampNeg = w9) (hin : vp_in w 7) (hdg : decode cc pc = .ok (.iastore, 1))
    (kk : ∀ (H1 : Heap) (locs1 : List Loc), va_P D vwCl (X ++ (a ++ rW I n r (xa G (r i) (upd (G (r i)) w9 x)))) H1 → va_D A (X ++ (a ++ rW I n r (xa G (r i) (upd (G (r i)) w9 x)))) → va_S A H0 H1 locs1 → W p l e R s m args below meth c H1 locs1 cells slots Q (F0 m (pc + 1) ls rest)) : W p l e R s m args below meth c H locs cells slots Q (F0 m pc ls (.int x :: .int w :: .ref (r i) :: rest)) := by
  rw [← List.append_assoc] at hP hD
  obtain ⟨k, hk⟩ := va_pl_get (X := X ++ a) (f := rE I G) (r_in r hi)
  subst hw
  refine va_iast (f := G (r i)) hx hb hK hP hD hS k 0 hk rfl hin hdg (fun H1 locs1 h1 h2 h3 => ?_)
  rw [va_pl_set hD (r_in r hi) hk, rE_up, List.append_assoc] at h1 h2
  exact kk H1 locs1 h1 h2 h3
theorem xr_mna {I : ClassId} {n : Nat} {X a : va_W} {own : String} {index : Nat} (hx : p.tables.exec = Jvm.exec) (hb : c.code = cc) (hown : s.vm.findClass own = some m.cls) (hclink : (Cond.classLink own index "[[I").before args s = true) (hover : (Cond.arrayOver (.array .int)).before args s = true) (harr : (Cond.arrayClass .int).before args s = true)
    (hK : va_K D vwCl [(I, .int)] s) (hP : va_P D vwCl (X ++ a) H) (hD : va_D A (X ++ a)) (hS : va_S A H0 H locs) (hA : ∀ q, H0.size ≤ q → A q) (hn : n ≤ 40) (hcells : cells + (1 + n) ≤ R.cells) (hslots : slots + (n + n * 7) ≤ R.slots) (hdg : decode cc pc = .ok (.multianewarray index 2, 4))
    (kk : ∀ (q : Nat) (r : Nat → Nat) (J : ClassId) (H1 : Heap), (∀ i j : Nat, i < n → j < n → r i = r j → i = j) → va_K D vwCl [(I, .int), (J, .array .int)] s → va_P D vwCl (X ++ ((a ++ [cW J q n r]) ++ rW I n r (fun _ _ => 0))) H1 → va_D A (X ++ ((a ++ [cW J q n r]) ++ rW I n r (fun _ _ => 0))) → va_S A H0 H1 locs →
      W p l e R s m args below meth c H1 locs (cells + 1 + n) (slots + n + n * 7) Q (F0 m (pc + 4) ls (.ref q :: rest))) : W p l e R s m args below meth c H locs cells slots Q (F0 m pc ls (.int 7 :: .int (nI n) :: rest)) := by
  have hP0 : va_P D vwCl ((X ++ a) ++ va_pl [] (rE I (fun _ _ => 0))) H := by
    show va_P D vwCl ((X ++ a) ++ []) H
    rw [List.append_nil]
    exact hP
  have hD0 : va_D A ((X ++ a) ++ va_pl [] (rE I (fun _ _ => 0))) := by
    show va_D A ((X ++ a) ++ [])
    rw [List.append_nil]
    exact hD
  have hcy : s.vm.findClass (FieldType.array .int).toString = some I := (hK.2 0 (I, .int) rfl).2
  refine va_mna (ty := .int) (cy := I) (own := own) (index := index) (N' := n) (K' := 7) (z := (7, .inl (fun _ => 0))) hx hb hown hclink (fun _ => hover) harr hcy hK hP0 hD0 hS hA (nI_pos (by omega)) (by decide) (nI_clamp (by omega)) (by decide) (by omega) (Nat.le_of_ble_eq_true rfl) (Nat.le_of_ble_eq_true rfl) rfl rfl hcells hslots (fun cI => arrV_new cI 7 (.int 0)) hdg (fun q r J H1 hinj hnl hK1 h1 h2 h3 => ?_)
  have e : va_pl ([] ++ (List.range n).map r) (vr_up (rE I (fun _ _ => 0)) ((List.range n).map r) (.inl (I, (7, .inl (fun _ => 0))))) = rW I n r (fun _ _ => 0) := pl_same (fun a ha => vr_up_in ha)
  rw [e, List.append_assoc X, List.append_assoc X] at h1 h2
  exact kk q r J H1 hinj hK1 h1 h2 h3
end XK7
