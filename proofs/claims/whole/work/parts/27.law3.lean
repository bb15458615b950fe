theorem exit_le {L k : Nat} (hL : L ≤ 1536) (hk : k ≤ 512) (c : ¬ Int32.ofNat L - (3 : Int32) < nI (3 * k)) : 3 * k + 3 ≤ L := by
  have h1 : (Int32.ofNat L).toInt = (L : Int) := nI_toInt (n := L) (by omega)
  have h3 : (3 : Int32).toInt = 3 := by decide
  rw [Int32.lt_iff_toInt_lt, toInt_subS (by omega) (by omega), h1, h3, nI_toInt (by omega)] at c
  omega

set_option maxHeartbeats 2000000 in
set_option maxRecDepth 100000 in
theorem law_loop (l : Launch) (hlt : l.stackTraces = false) {p : Program} {e : Env} {s : State} {m : MethodId} {below : List Frame} {meth : Method} {c : Code} {D : va_G} {I J : ClassId} {h ao : Nat} {qb qt qo qs qa : Nat → Nat} {b0 L : Nat} {sc : Nat → Int32} (hL : L ≤ 1536) (C0 : lw_At p s m meth c b0 L sc) (hK : va_K D vwCl [(I, .int), (J, .long)] s) (hN : xNw s) (hXX : xX (fun q : Nat => s.heap.size ≤ q) s s.heap) : ∀ (r k : Nat) (b z : XBr) (o : MO) (a y : MS) (g : Nat → Int64), k ≤ 512 → L < 3 * (k + r) + 3 → Rel b o a → (b.1 0).toInt ≤ 240 * (k : Int) → ∀ (H : Heap) (locs : List Loc), va_P D vwCl ([cX h qb qt] ++ wB I qb b ++ wB I qt z ++ [cO J ao g] ++ wO I qo (qs 0) (qa 0) o ++ wS I qo qs a ++ wS I qo qa y) H → va_D (fun q : Nat => s.heap.size ≤ q) ([cX h qb qt] ++ wB I qb b ++ wB I qt z ++ [cO J ao g] ++ wO I qo (qs 0) (qa 0) o ++ wS I qo qs a ++ wS I qo qa y) → va_S (fun q : Nat => s.heap.size ≤ q) s.heap H locs → ∀ ls, lv_has ls 9 [(4, .int (nI (3 * k))), (0, .ref b0), (1, .ref h), (2, .ref (qo 0)), (3, .ref ao)] → W p l e room_1 s m #[Value.ref b0] below meth c H locs (40 + 300 * k) (1100 + 2100 * k) (lw_Z below #[Value.ref b0] s) (F0 m 23 ls []) := by
  have C1 := C0
  obtain ⟨hx, hb, hr, hml, hown, hts0, hX, hbl, hlocks, hgv⟩ := C0
  have hts : ∀ w ∈ wsL_law, w.before #[Value.ref b0] s = true := fun w h => hts0 w (wsL_law_in w h)
  have hA : ∀ q : Nat, s.heap.size ≤ q → (fun q : Nat => s.heap.size ≤ q) q := fun _ h => h
  have hbA : ¬ (fun q : Nat => s.heap.size ≤ q) b0 := Nat.not_le.mpr hbl
  have hK1 : va_K D vwCl [(I, .int)] s := hK.sub [0] rfl
  intro r
  induction r with
  | zero =>
    intro k b z o a y g hk hr0 hR hmin H locs hP hD hS ls hl
    refine lv_iload hx hb dL_law_23 (lv_at hl 0 rfl) ?_
    refine lv_aload_n hx hb dL_law_25 rfl (lv_at hl 1 rfl) ?_
    refine va_slen hx hb hX hbl hbA hS dL_law_26 ?_
    refine lv_iconst (v := (3 : Int32)) hx hb dL_law_27 (by decide) ?_
    refine lv_isub hx hb dL_law_28 ?_
    refine lv_icmp_gt (tgt := 967) hx hb dL_law_29 (by decide) (fun c_1 => ?_) (fun c_1 => ?_)
    · refine lv_iconst (v := (1 : Int32)) hx hb dL_law_967 (by decide) ?_
      refine va_forget (fun q hq => hS.2.2 q hq) ?_
      refine W.widen (k := 601024) (n := 7293034) (by omega) (by omega) ?_
      exact lw_ret (d0 := s.drawn) (Drawn.sameBut.refl s.drawn lw_cs) hx hb hr hlocks dL_law_968
    · exact absurd (exit_le hL hk c_1) (by omega)
  | succ r ih =>
    intro k b z o a y g hk hr0 hR hmin H locs hP hD hS ls hl
    refine lv_iload hx hb dL_law_23 (lv_at hl 0 rfl) ?_
    refine lv_aload_n hx hb dL_law_25 rfl (lv_at hl 1 rfl) ?_
    refine va_slen hx hb hX hbl hbA hS dL_law_26 ?_
    refine lv_iconst (v := (3 : Int32)) hx hb dL_law_27 (by decide) ?_
    refine lv_isub hx hb dL_law_28 ?_
    refine lv_icmp_gt (tgt := 967) hx hb dL_law_29 (by decide) (fun c_1 => ?_) (fun c_1 => ?_)
    · refine lv_iconst (v := (1 : Int32)) hx hb dL_law_967 (by decide) ?_
      refine va_forget (fun q hq => hS.2.2 q hq) ?_
      refine W.widen (k := 601024) (n := 7293034) (by omega) (by omega) ?_
      exact lw_ret (d0 := s.drawn) (Drawn.sameBut.refl s.drawn lw_cs) hx hb hr hlocks dL_law_968
    · have hk3 := exit_le hL hk c_1
      have K : ∀ (b' z' : XBr) (o' : MO) (a' y' : MS) (g' : Nat → Int64), Rel b' o' a' → (b'.1 0).toInt ≤ 240 * ((k : Int) + 1) → ∀ (H : Heap) (locs : List Loc), va_P D vwCl ([cX h qb qt] ++ wB I qb (b') ++ wB I qt (z') ++ [cO J ao (g')] ++ wO I qo (qs 0) (qa 0) (o') ++ wS I qo qs (a') ++ wS I qo qa (y')) H → va_D (fun q : Nat => s.heap.size ≤ q) ([cX h qb qt] ++ wB I qb (b') ++ wB I qt (z') ++ [cO J ao (g')] ++ wO I qo (qs 0) (qa 0) (o') ++ wS I qo qs (a') ++ wS I qo qa (y')) → va_S (fun q : Nat => s.heap.size ≤ q) s.heap H locs → ∀ ls, lv_has ls 9 [(4, .int (nI (3 * k))), (0, .ref b0), (1, .ref h), (2, .ref (qo 0)), (3, .ref ao)] → W p l e room_1 s m #[Value.ref b0] below meth c H locs (40 + 300 * (k + 1)) (1100 + 2100 * (k + 1)) (lw_Z below #[Value.ref b0] s) (F0 m 961 ls []) := by
        intro b' z' o' a' y' g' hR' hm' H locs hP hD hS ls hl
        refine lv_iinc (v := nI (3 * (k + 1))) (lv' := [(4, .int (nI (3 * (k + 1)))), (0, .ref b0), (1, .ref h), (2, .ref (qo 0)), (3, .ref ao)]) hx hb dL_law_961 hl (k := 0) rfl (nI_add (3 * k) 3) (by decide) rfl (fun ls hl => ?_)
        refine lv_goto (tgt := 23) hx hb dL_law_964 (by decide) ?_
        exact ih (k + 1) b' z' o' a' y' g' (by omega) (by omega) hR' (by omega) _ _ hP hD hS ls hl
      refine lv_aload_n hx hb dL_law_32 rfl (lv_at hl 1 rfl) ?_
      refine lv_iload hx hb dL_law_33 (lv_at hl 0 rfl) ?_
      refine va_sld hx hb hX hbl hbA hS (vp_in_nI (n := 3 * k) (by omega) (by omega)) dL_law_35 ?_
      refine lv_bipush (v := (15 : Int32)) hx hb dL_law_36 (by decide) ?_
      refine lv_iand hx hb dL_law_38 ?_
      refine lv_topi (fun w9 ew9 => ?_)
      by_cases d_0 : w9 = (0 : Int32)
      · refine lv_tableIn (off := 77) (tgt := 116) hx hb dL_law_39 (by rw [d_0]; decide) (by rw [d_0]; decide) (by rw [d_0]; rfl) (by decide) ?_
        exact law_come l hlt hL C1 hK hN hXX hk3 b z o a y g hR hmin K H locs hP hD hS ls hl
      by_cases d_1 : w9 = (1 : Int32)
      · refine lv_tableIn (off := 161) (tgt := 200) hx hb dL_law_39 (by rw [d_1]; decide) (by rw [d_1]; decide) (by rw [d_1]; rfl) (by decide) ?_
        exact law_leave l hlt hL C1 hK hN hXX hk3 b z o a y g hR hmin K H locs hP hD hS ls hl
      by_cases d_2 : w9 = (2 : Int32)
      · refine lv_tableIn (off := 217) (tgt := 256) hx hb dL_law_39 (by rw [d_2]; decide) (by rw [d_2]; decide) (by rw [d_2]; rfl) (by decide) ?_
        exact law_ring l hlt hL C1 hK hN hXX hk3 b z o a y g hR hmin K H locs hP hD hS ls hl
      by_cases d_3 : w9 = (3 : Int32)
      · refine lv_tableIn (off := 273) (tgt := 312) hx hb dL_law_39 (by rw [d_3]; decide) (by rw [d_3]; decide) (by rw [d_3]; rfl) (by decide) ?_
        exact law_poise l hlt hL C1 hK hN hXX hk3 b z o a y g hR hmin K H locs hP hD hS ls hl
      by_cases d_4 : w9 = (4 : Int32)
      · refine lv_tableIn (off := 329) (tgt := 368) hx hb dL_law_39 (by rw [d_4]; decide) (by rw [d_4]; decide) (by rw [d_4]; rfl) (by decide) ?_
        exact law_setCold l hlt hL C1 hK hN hXX hk3 b z o a y g hR hmin K H locs hP hD hS ls hl
      by_cases d_5 : w9 = (5 : Int32)
      · refine lv_tableIn (off := 397) (tgt := 436) hx hb dL_law_39 (by rw [d_5]; decide) (by rw [d_5]; decide) (by rw [d_5]; rfl) (by decide) ?_
        exact law_crack l hlt hL C1 hK hN hXX hk3 b z o a y g hR hmin K H locs hP hD hS ls hl
      by_cases d_6 : w9 = (6 : Int32)
      · refine lv_tableIn (off := 410) (tgt := 449) hx hb dL_law_39 (by rw [d_6]; decide) (by rw [d_6]; decide) (by rw [d_6]; rfl) (by decide) ?_
        exact law_traveller l hlt hL C1 hK hN hXX hk3 b z o a y g hR hmin K H locs hP hD hS ls hl
      by_cases d_7 : w9 = (7 : Int32)
      · refine lv_tableIn (off := 478) (tgt := 517) hx hb dL_law_39 (by rw [d_7]; decide) (by rw [d_7]; decide) (by rw [d_7]; rfl) (by decide) ?_
        exact law_count l hlt hL C1 hK hN hXX hk3 b z o a y g hR hmin K H locs hP hD hS ls hl
      by_cases d_8 : w9 = (8 : Int32)
      · refine lv_tableIn (off := 534) (tgt := 573) hx hb dL_law_39 (by rw [d_8]; decide) (by rw [d_8]; decide) (by rw [d_8]; rfl) (by decide) ?_
        exact law_speed l hlt hL C1 hK hN hXX hk3 b z o a y g hR hmin K H locs hP hD hS ls hl
      by_cases d_9 : w9 = (9 : Int32)
      · refine lv_tableIn (off := 575) (tgt := 614) hx hb dL_law_39 (by rw [d_9]; decide) (by rw [d_9]; decide) (by rw [d_9]; rfl) (by decide) ?_
        exact law_pass l hlt hL C1 hK hN hXX hk3 b z o a y g hR hmin K H locs hP hD hS ls hl
      by_cases d_10 : w9 = (10 : Int32)
      · refine lv_tableIn (off := 631) (tgt := 670) hx hb dL_law_39 (by rw [d_10]; decide) (by rw [d_10]; decide) (by rw [d_10]; rfl) (by decide) ?_
        exact law_when l hlt hL C1 hK hN hXX hk3 b z o a y g hR hmin K H locs hP hD hS ls hl
      by_cases d_11 : w9 = (11 : Int32)
      · refine lv_tableIn (off := 687) (tgt := 726) hx hb dL_law_39 (by rw [d_11]; decide) (by rw [d_11]; decide) (by rw [d_11]; rfl) (by decide) ?_
        exact law_foresee l hlt hL C1 hK hN hXX hk3 b z o a y g hR hmin K H locs hP hD hS ls hl
      by_cases d_12 : w9 = (12 : Int32)
      · refine lv_tableIn (off := 755) (tgt := 794) hx hb dL_law_39 (by rw [d_12]; decide) (by rw [d_12]; decide) (by rw [d_12]; rfl) (by decide) ?_
        exact law_bestCode l hlt hL C1 hK hN hXX hk3 b z o a y g hR hmin K H locs hP hD hS ls hl
      by_cases d_13 : w9 = (13 : Int32)
      · refine lv_tableIn (off := 811) (tgt := 850) hx hb dL_law_39 (by rw [d_13]; decide) (by rw [d_13]; decide) (by rw [d_13]; rfl) (by decide) ?_
        exact law_bestPoise l hlt hL C1 hK hN hXX hk3 b z o a y g hR hmin K H locs hP hD hS ls hl
      by_cases d_14 : w9 = (14 : Int32)
      · refine lv_tableIn (off := 867) (tgt := 906) hx hb dL_law_39 (by rw [d_14]; decide) (by rw [d_14]; decide) (by rw [d_14]; rfl) (by decide) ?_
        exact law_mean l hlt hL C1 hK hN hXX hk3 b z o a y g hR hmin K H locs hP hD hS ls hl
      by_cases d_15 : w9 = (15 : Int32)
      · refine lv_tableIn (off := 908) (tgt := 947) hx hb dL_law_39 (by rw [d_15]; decide) (by rw [d_15]; decide) (by rw [d_15]; rfl) (by decide) ?_
        exact law_digest l hlt hL C1 hK hN hXX hk3 b z o a y g hR hmin K H locs hP hD hS ls hl
      have t_9 : w9.toInt < 0 ∨ 15 < w9.toInt := by
        have g_0 := lv_neT d_0 (a := 0) (by decide)
        have g_1 := lv_neT d_1 (a := 1) (by decide)
        have g_2 := lv_neT d_2 (a := 2) (by decide)
        have g_3 := lv_neT d_3 (a := 3) (by decide)
        have g_4 := lv_neT d_4 (a := 4) (by decide)
        have g_5 := lv_neT d_5 (a := 5) (by decide)
        have g_6 := lv_neT d_6 (a := 6) (by decide)
        have g_7 := lv_neT d_7 (a := 7) (by decide)
        have g_8 := lv_neT d_8 (a := 8) (by decide)
        have g_9 := lv_neT d_9 (a := 9) (by decide)
        have g_10 := lv_neT d_10 (a := 10) (by decide)
        have g_11 := lv_neT d_11 (a := 11) (by decide)
        have g_12 := lv_neT d_12 (a := 12) (by decide)
        have g_13 := lv_neT d_13 (a := 13) (by decide)
        have g_14 := lv_neT d_14 (a := 14) (by decide)
        have g_15 := lv_neT d_15 (a := 15) (by decide)
        omega
      refine lv_tableOut (tgt := 961) hx hb dL_law_39 t_9 (by decide) ?_
      refine W.widen (k := 40 + 300 * (k + 1)) (n := 1100 + 2100 * (k + 1)) (by omega) (by omega) ?_
      exact K b z o a y g hR (by omega) H locs hP hD hS ls hl

set_option maxRecDepth 100000 in
theorem law_xX {args : Array Value} {s : State} {A : Nat → Prop} (hts : ∀ w ∈ lw_tbl, w.before args s = true) (hgv : (Jvm.Cond.and given_1 narrow_1).before args s = true) (hA : ∀ a : Nat, a < s.heap.size → ¬ A a) : xX A s s.heap := by
  have hfl := flat_of_before _ hgv
  refine ⟨fun w hw => ?_, fun q hq => ?_, ?_, ?_, fun q hq => ?_⟩
  · have h1 : ∀ w ∈ xwl, w ∈ lw_tbl := by decide +kernel
    have h2 : ∀ w ∈ xwl, w.onTables = true := by decide +kernel
    exact va_Nw.of (h2 w hw) (hts w (h1 w hw))
  · have h1 : ∀ q ∈ xnc, Cond.not (.castable q.1 q.2) ∈ flatC (Jvm.Cond.and given_1 narrow_1) := by decide +kernel
    exact va_Nc.of (hfl _ (h1 q hq))
  · exact vx_Zqof (hts (.laysStatic Bundle.tN "UNASSIGNED_STACK" Bundle.steD) (by decide +kernel)) (hts (.initialized Bundle.tN) (by decide +kernel)) (hfl (.isRef (.static Bundle.tN "UNASSIGNED_STACK" Bundle.steD)) (by decide +kernel)) hA
  · exact vx_Zqof (hts (.laysStatic Bundle.tN "SUPPRESSED_SENTINEL" Bundle.listD) (by decide +kernel)) (hts (.initialized Bundle.tN) (by decide +kernel)) (hfl (.isRef (.static Bundle.tN "SUPPRESSED_SENTINEL" Bundle.listD)) (by decide +kernel)) hA
  · have h1 : ∀ q ∈ strl, Cond.exactly (.string RX2 q.1) "java/lang/String" ∈ flatC (Jvm.Cond.and given_1 narrow_1) := by decide +kernel
    have h2 : ∀ q ∈ strl, Cond.stringRef RX2 q.1 q.2 ∈ lw_tbl := by decide +kernel
    obtain ⟨a, c, cA, kA, q1, -⟩ := Cond.exactly_spec (args := args) (first := s) (o := none) (s := s) (idx := []) (t := .string RX2 q.1) (cls := "java/lang/String") (hfl _ (h1 q hq))
    exact ⟨a, vk_R.of (hts _ (h2 q hq)) q1⟩

set_option maxHeartbeats 2000000 in
set_option maxRecDepth 100000 in
/-- THE LAW, from its entry -/
theorem whole_start {p : Program} {e : Env} {s : State} {m : MethodId} {below : List Frame} {meth : Method} {c : Code} (l : Launch) (hflags : l.flags = flags0) {b L : Nat} {xs : Nat → Int32} (hL : L ≤ 1536) (C0 : lw_At p s m meth c b L xs) : W p l e room_1 s m #[Value.ref b] below meth c s.heap [] 0 0 (lw_Z below #[Value.ref b] s) (entryFrame m ([Value.ref b] : List Value).toArray 9) := by
  have C1 := C0
  obtain ⟨hx, hb, hr, hml, hown, hts0, hX, hbl, hlocks, hgv⟩ := C0
  have hlt : l.stackTraces = false := by
    unfold Launch.stackTraces
    rw [hflags]
    decide
  have hts : ∀ w ∈ wsL_law, w.before #[Value.ref b] s = true := fun w h => hts0 w (wsL_law_in w h)
  have hA : ∀ q : Nat, s.heap.size ≤ q → (fun q : Nat => s.heap.size ≤ q) q := fun _ h => h
  have hN : xNw s := fun w hw => va_Nw.of (xN_on w hw) (hts0 w (xN_tbl w hw))
  have hXX : xX (fun q : Nat => s.heap.size ≤ q) s s.heap := law_xX hts0 hgv (fun a h => Nat.not_le.mpr h)
  obtain ⟨c0, iS0, hKn0⟩ := u_known (C := RX0) (T := TX0) (N := 11) (n := 11) hts0 inX0 (hts0 (.instantiable RX0 11) (by decide +kernel))
  obtain ⟨c1, iS1, hKn1⟩ := u_known (C := RX1) (T := TX1) (N := 12) (n := 12) hts0 inX1 (hts0 (.instantiable RX1 12) (by decide +kernel))
  obtain ⟨c2, iS2, hKn2⟩ := u_known (C := RX2) (T := TX2) (N := 2) (n := 2) hts0 inX2 (hts0 (.instantiable RX2 2) (by decide +kernel))
  obtain ⟨c3, iS3, hKn3⟩ := u_known (C := RX3) (T := TX3) (N := 12) (n := 12) hts0 inX3 (hts0 (.instantiable RX3 12) (by decide +kernel))
  obtain ⟨c4, iS4, hKn4⟩ := u_known (C := RX4) (T := TX4) (N := 8) (n := 8) hts0 inX4 (hts0 (.instantiable RX4 8) (by decide +kernel))
  obtain ⟨dC, dI, hKc⟩ : ∃ (dC : Nat → ClassId) (dI : Nat → Nat → Nat), ∀ (k : Nat) (q : vw_C), vwCl[k]? = some q → u_Kn s q.1 q.2.1 q.2.2 (dC k) (dI k) := by
    refine ⟨fun k => if k = 0 then c0 else if k = 1 then c1 else if k = 2 then c2 else if k = 3 then c3 else c4, fun k => if k = 0 then iS0 else if k = 1 then iS1 else if k = 2 then iS2 else if k = 3 then iS3 else iS4, ?_⟩
    intro k q hq
    match k, hq with
    | 0, hq => cases hq; exact hKn0
    | 1, hq => cases hq; exact hKn1
    | 2, hq => cases hq; exact hKn2
    | 3, hq => cases hq; exact hKn3
    | 4, hq => cases hq; exact hKn4
    | k + 5, hq => simp [vwCl] at hq
  obtain ⟨I, kI, pI, i1, i2, i3⟩ := Cond.arrayClass_spec (type := .int) (hts0 (.arrayClass .int) (by decide +kernel))
  obtain ⟨J, kJ, pJ, j1, j2, j3⟩ := Cond.arrayClass_spec (type := .long) (hts0 (.arrayClass .long) (by decide +kernel))
  have hK : va_K (dC, dI) vwCl [(I, .int), (J, .long)] s := by
    refine ⟨hKc, fun k q hq => ?_⟩
    match k, hq with
    | 0, hq => cases hq; exact ⟨fun n z => ⟨fun k h => (by cases h), kI, i2, pI, i3⟩, i1⟩
    | 1, hq => cases hq; exact ⟨fun n z => ⟨fun k h => (by cases h), kJ, j2, pJ, j3⟩, j1⟩
    | k + 2, hq => simp at hq
  have hK1 : va_K (dC, dI) vwCl [(I, .int)] s := hK.sub [0] rfl
  have hS : va_S (fun q : Nat => s.heap.size ≤ q) s.heap s.heap [] := va_S.rf
  have hP : va_P (dC, dI) vwCl [] s.heap := fun k q h => by simp at h
  have hD : va_D (fun q : Nat => s.heap.size ≤ q) [] := ⟨fun i j p q h => by simp at h, fun k q h => by simp at h⟩
  have hl := lv_entry ([.ref b]) (n := 9) (Nat.le_of_ble_eq_true rfl)
  rw [lg_entry_eq]
  generalize (lg_sl ([.ref b]) ++ List.replicate (9 - (lg_sl ([.ref b])).length) Slot.unset).toArray = ls at hl ⊢
  have hl : lv_has ls 9 [(0, .ref b)] := hl
  refine va_new (ci := 2) (fs := [.null, .null]) (C := RX2) (T := TX2) (N := 2) hx hb hts inlX2 tyX2 tyX2_ok hown (hts0 (.classLink RL 8 RX2) (by decide +kernel)) (hts0 (.instantiable RX2 2) (by decide +kernel)) (hts0 (.initialized RX2) (by decide +kernel)) hK hP hD hS hA rfl (fun j hj => by rcases (show j = 0 ∨ j = 1 by omega) with rfl | rfl <;> rfl) (Nat.le_of_ble_eq_true rfl) (Nat.le_of_ble_eq_true rfl) dL_law_0 (fun h H hP hD hS => ?_)
  have hP : va_P (dC, dI) vwCl [(h, .inr (2, [.null, .null]))] H := hP
  have hD : va_D (fun q : Nat => s.heap.size ≤ q) [(h, .inr (2, [.null, .null]))] := hD
  refine lv_dup hx hb dL_law_3 rfl ?_
  refine xk_callvE ([]) [0] [] hP hD hS hA (va_runI (As := []) (rest := [.ref h]) ⟨hx, hb, hml, hown, hts⟩ (c_X2_init l (dC, dI) I h H.size) (cwI 0 hts gL_law_X2_init rfl rfl rfl (hts0 (.initialized RX2) (by decide +kernel)) (hts0 (.methodLink RL 54 yX2_init) (by decide +kernel)) (hts0 (.instanceMethod yX2_init) (by decide +kernel)) rfl (by decide +kernel) ⟨Nat.le_of_ble_eq_true rfl, Nat.le_of_ble_eq_true rfl⟩) (xk_pre (wc := [(h, .inr (2, [.null, .null]))]) hN hP hK1 hD [0] rfl rfl) rfl rfl hl.1 rfl (lv_room (Nat.le_of_ble_eq_true rfl)) dL_law_4 ⟨Nat.le_of_ble_eq_true rfl, Nat.le_of_ble_eq_true rfl⟩) rfl rfl rfl (by decide) (fun v1 H locs hP hD hS => ?_)
  obtain ⟨qb, qt⟩ := v1
  have hP : va_P (dC, dI) vwCl ([cX h qb qt] ++ wB I qb B0 ++ wB I qt B0) H := hP
  have hD : va_D (fun q : Nat => s.heap.size ≤ q) ([cX h qb qt] ++ wB I qb B0 ++ wB I qt B0) := hD
  refine lv_astore_n (lv' := [(1, .ref h), (0, .ref b)]) hx hb dL_law_7 rfl hl (by decide) rfl (fun ls hl => ?_)
  refine va_new (ci := 4) (fs := [.int 0, .int 0, .null, .null, .null, .null, .null, .null]) (C := RX4) (T := TX4) (N := 8) hx hb hts inlX4 tyX4 tyX4_ok hown (hts0 (.classLink RL 55 RX4) (by decide +kernel)) (hts0 (.instantiable RX4 8) (by decide +kernel)) (hts0 (.initialized RX4) (by decide +kernel)) hK hP hD hS hA rfl (fun j hj => by rcases (show j = 0 ∨ j = 1 ∨ j = 2 ∨ j = 3 ∨ j = 4 ∨ j = 5 ∨ j = 6 ∨ j = 7 by omega) with rfl | rfl | rfl | rfl | rfl | rfl | rfl | rfl <;> rfl) (Nat.le_of_ble_eq_true rfl) (Nat.le_of_ble_eq_true rfl) dL_law_8 (fun n H hP hD hS => ?_)
  have hP : va_P (dC, dI) vwCl ([cX h qb qt] ++ wB I qb B0 ++ wB I qt B0 ++ [(n, .inr (4, [.int 0, .int 0, .null, .null, .null, .null, .null, .null]))]) H := hP
  have hD : va_D (fun q : Nat => s.heap.size ≤ q) ([cX h qb qt] ++ wB I qb B0 ++ wB I qt B0 ++ [(n, .inr (4, [.int 0, .int 0, .null, .null, .null, .null, .null, .null]))]) := hD
  refine lv_dup hx hb dL_law_11 rfl ?_
  refine xk_callvE ([cX h qb qt] ++ wB I qb B0 ++ wB I qt B0) [19] [0, 1, 2, 3, 4, 5, 6, 7, 8, 9, 10, 11, 12, 13, 14, 15, 16, 17, 18] hP hD hS hA (va_runI (As := []) (rest := [.ref n]) ⟨hx, hb, hml, hown, hts⟩ (c_X4_init l (dC, dI) I n H.size) (cwI 0 hts gL_law_X4_init rfl rfl rfl (hts0 (.initialized RX4) (by decide +kernel)) (hts0 (.methodLink RL 57 yX4_init) (by decide +kernel)) (hts0 (.instanceMethod yX4_init) (by decide +kernel)) rfl (by decide +kernel) ⟨Nat.le_of_ble_eq_true rfl, Nat.le_of_ble_eq_true rfl⟩) (xk_pre (wc := [(n, .inr (4, [.int 0, .int 0, .null, .null, .null, .null, .null, .null]))]) hN hP hK1 hD [19] rfl rfl) rfl rfl hl.1 rfl (lv_room (Nat.le_of_ble_eq_true rfl)) dL_law_12 ⟨Nat.le_of_ble_eq_true rfl, Nat.le_of_ble_eq_true rfl⟩) rfl rfl rfl (by decide) (fun v1 H locs hP hD hS => ?_)
  obtain ⟨vo, qs, qa⟩ := v1
  refine lv_astore_n (lv' := [(2, .ref n), (1, .ref h), (0, .ref b)]) hx hb dL_law_15 rfl hl (by decide) rfl (fun ls hl => ?_)
  have hP : va_P (dC, dI) vwCl ([cX h qb qt] ++ wB I qb B0 ++ wB I qt B0 ++ (wO I (qB n vo) (qs 0) (qa 0) O0 ++ wS I (qB n vo) qs S0 ++ wS I (qB n vo) qa S0)) H := hP
  have hD : va_D (fun q : Nat => s.heap.size ≤ q) ([cX h qb qt] ++ wB I qb B0 ++ wB I qt B0 ++ (wO I (qB n vo) (qs 0) (qa 0) O0 ++ wS I (qB n vo) qs S0 ++ wS I (qB n vo) qa S0)) := hD
  refine lv_iconst (v := (1 : Int32)) hx hb dL_law_16 (by decide) ?_
  refine va_newa (atype := .long) (ty := .long) (a0 := (1, .inr (.inl (fun _ => 0)))) hx hb (hts0 (.arrayClass .long) (by decide +kernel)) rfl hK1 hP hD hS hA (fun _ => rfl) (by decide) (by decide) (by decide) (Nat.le_of_ble_eq_true rfl) (Nat.le_of_ble_eq_true rfl) dL_law_17 (fun ao cN H hK9 hP hD hS => ?_)
  have eJ : J = cN := Option.some.inj (j1.symm.trans (hK9.2 1 (cN, .long) rfl).2)
  subst eJ
  have hP := hP.sub (ws' := [cX h qb qt] ++ wB I qb B0 ++ wB I qt B0 ++ [cO J ao (fun _ => 0)] ++ wO I (qB n vo) (qs 0) (qa 0) O0 ++ wS I (qB n vo) qs S0 ++ wS I (qB n vo) qa S0) [0, 1, 2, 3, 4, 5, 6, 7, 8, 9, 10, 11, 12, 13, 14, 15, 16, 17, 18, 34, 19, 20, 21, 22, 23, 24, 25, 26, 27, 28, 29, 30, 31, 32, 33] rfl
  have hD := hD.sub (ws' := [cX h qb qt] ++ wB I qb B0 ++ wB I qt B0 ++ [cO J ao (fun _ => 0)] ++ wO I (qB n vo) (qs 0) (qa 0) O0 ++ wS I (qB n vo) qs S0 ++ wS I (qB n vo) qa S0) [0, 1, 2, 3, 4, 5, 6, 7, 8, 9, 10, 11, 12, 13, 14, 15, 16, 17, 18, 34, 19, 20, 21, 22, 23, 24, 25, 26, 27, 28, 29, 30, 31, 32, 33] (by decide) rfl
  refine lv_astore_n (lv' := [(3, .ref ao), (2, .ref n), (1, .ref h), (0, .ref b)]) hx hb dL_law_19 rfl hl (by decide) rfl (fun ls hl => ?_)
  refine lv_iconst (v := (0 : Int32)) hx hb dL_law_20 (by decide) ?_
  refine lv_istore (lv' := [(4, .int (nI (3 * 0))), (3, .ref ao), (2, .ref n), (1, .ref h), (0, .ref b)]) hx hb dL_law_21 hl (by decide) rfl (fun ls hl => ?_)
  refine W.widen (k := 40 + 300 * 0) (n := 1100 + 2100 * 0) (Nat.le_of_ble_eq_true rfl) (Nat.le_of_ble_eq_true rfl) ?_
  exact law_loop l hlt hL C1 hK hN hXX (L + 1) 0 B0 B0 O0 S0 S0 (fun _ => 0) (by omega) (by omega) Rel.start (by decide) H locs hP hD hS ls (lv_sub hl [0, 4, 3, 2, 1] rfl)
