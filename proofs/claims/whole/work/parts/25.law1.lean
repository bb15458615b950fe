theorem lg_self (x : Int64) : lg_cmp x x = 0 := by
  unfold lg_cmp
  rw [if_neg (by rw [gt_iff_lt, Int64.lt_iff_toInt_lt]; omega), if_pos rfl]
theorem nn_mean (b : XBr) : vf_n64 (r_X2_mean b) := by
  unfold r_X2_mean
  split
  · exact nn_no.mpr (by decide +kernel)
  · exact mean_nn _ _ (by assumption)
theorem mean_self (b : XBr) : Op.cmpValue (FP.dcmp (r_X2_mean b) (r_X2_mean b)) .l = 0 := by
  have h1 := nn_no.mp (nn_mean b)
  have h2 : FP.Core.val64 (r_X2_mean b) ≠ .nan := by
    intro q
    rw [(FP.Core.dIsNaN_iff _).mpr q] at h1
    cases h1
  rw [show FP.dcmp (r_X2_mean b) (r_X2_mean b) = some .eq from FP.Core.dcmp_self h2]
  rfl

set_option maxHeartbeats 2000000 in
set_option maxRecDepth 100000 in
theorem law_come (l : Launch) (hlt : l.stackTraces = false) {p : Program} {e : Env} {s : State} {m : MethodId} {below : List Frame} {meth : Method} {c : Code} {D : va_G} {I J : ClassId} {h ao : Nat} {qb qt qo qs qa : Nat → Nat} {b0 L : Nat} {sc : Nat → Int32} (hL : L ≤ 1536) (C0 : lw_At p s m meth c b0 L sc) (hK : va_K D vwCl [(I, .int), (J, .long)] s) (hN : xNw s) (hXX : xX (fun q : Nat => s.heap.size ≤ q) s s.heap) {k : Nat} (hk : 3 * k + 3 ≤ L) (b z : XBr) (o : MO) (a y : MS) (g : Nat → Int64) (hR : Rel b o a) (hmin : (b.1 0).toInt ≤ 240 * (k : Int)) (K : ∀ (b' z' : XBr) (o' : MO) (a' y' : MS) (g' : Nat → Int64), Rel b' o' a' → (b'.1 0).toInt ≤ 240 * ((k : Int) + 1) → ∀ (H : Heap) (locs : List Loc), va_P D vwCl ([cX h qb qt] ++ wB I qb (b') ++ wB I qt (z') ++ [cO J ao (g')] ++ wO I qo (qs 0) (qa 0) (o') ++ wS I qo qs (a') ++ wS I qo qa (y')) H → va_D (fun q : Nat => s.heap.size ≤ q) ([cX h qb qt] ++ wB I qb (b') ++ wB I qt (z') ++ [cO J ao (g')] ++ wO I qo (qs 0) (qa 0) (o') ++ wS I qo qs (a') ++ wS I qo qa (y')) → va_S (fun q : Nat => s.heap.size ≤ q) s.heap H locs → ∀ ls, lv_has ls 9 [(4, .int (nI (3 * k))), (0, .ref b0), (1, .ref h), (2, .ref (qo 0)), (3, .ref ao)] → W p l e room_1 s m #[Value.ref b0] below meth c H locs (40 + 300 * (k + 1)) (1100 + 2100 * (k + 1)) (lw_Z below #[Value.ref b0] s) (F0 m 961 ls [])) : ∀ (H : Heap) (locs : List Loc), va_P D vwCl ([cX h qb qt] ++ wB I qb b ++ wB I qt z ++ [cO J ao g] ++ wO I qo (qs 0) (qa 0) o ++ wS I qo qs a ++ wS I qo qa y) H → va_D (fun q : Nat => s.heap.size ≤ q) ([cX h qb qt] ++ wB I qb b ++ wB I qt z ++ [cO J ao g] ++ wO I qo (qs 0) (qa 0) o ++ wS I qo qs a ++ wS I qo qa y) → va_S (fun q : Nat => s.heap.size ≤ q) s.heap H locs → ∀ ls, lv_has ls 9 [(4, .int (nI (3 * k))), (0, .ref b0), (1, .ref h), (2, .ref (qo 0)), (3, .ref ao)] → W p l e room_1 s m #[Value.ref b0] below meth c H locs (40 + 300 * k) (1100 + 2100 * k) (lw_Z below #[Value.ref b0] s) (F0 m 116 ls []) := by
  obtain ⟨hx, hb, hr, hml, hown, hts0, hX, hbl, hlocks, hgv⟩ := C0
  have hts : ∀ w ∈ wsL_law, w.before #[Value.ref b0] s = true := fun w h => hts0 w (wsL_law_in w h)
  have hA : ∀ q : Nat, s.heap.size ≤ q → (fun q : Nat => s.heap.size ≤ q) q := fun _ h => h
  have hbA : ¬ (fun q : Nat => s.heap.size ≤ q) b0 := Nat.not_le.mpr hbl
  have hK1 : va_K D vwCl [(I, .int)] s := hK.sub [0] rfl
  have hm9 : (b.1 0).toInt < 1000000000 := by omega
  have hm8 : (b.1 0).toInt < 1000000 := by omega
  intro H locs hP hD hS ls hl
  refine lv_aload_n hx hb dL_law_116 rfl (lv_at hl 2 rfl) ?_
  refine lv_aload_n hx hb dL_law_117 rfl (lv_at hl 1 rfl) ?_
  refine lv_iload hx hb dL_law_118 (lv_at hl 0 rfl) ?_
  refine lv_iconst (v := (1 : Int32)) hx hb dL_law_120 (by decide) ?_
  refine lv_iadd hx hb dL_law_121 ?_
  refine W.eq (congrArg (fun z => F0 m 122 ls (.int z :: [.ref b0, .ref h])) (nI_add (3 * k) 1)) ?_
  refine va_sld hx hb hX hbl hbA hS (vp_in_nI (n := (3 * k + 1)) (by omega) (by omega)) dL_law_122 ?_
  refine W.eq (congrArg (fun z => F0 m 123 ls (.int (sc z) :: [.ref h])) (nI_clamp (n := (3 * k + 1)) (by omega))) ?_
  refine lv_if_eq (tgt := 130) hx hb dL_law_123 (by decide) (fun c_1 => ?_) (fun c_1 => ?_)
  · refine lv_iconst (v := (0 : Int32)) hx hb dL_law_130 (by decide) ?_
    obtain ⟨a1, a2, a3, a4'⟩ := ag_come hR hm8 (0 : Int32) (sc (3 * k + 2)) (by decide)
    have a4 := Int.le_trans a4' (show (b.1 0).toInt + 240 ≤ 240 * ((k : Int) + 1) by omega)
    refine lv_aload_n hx hb dL_law_131 rfl (lv_at hl 1 rfl) ?_
    refine lv_iload hx hb dL_law_132 (lv_at hl 0 rfl) ?_
    refine lv_iconst (v := (2 : Int32)) hx hb dL_law_134 (by decide) ?_
    refine lv_iadd hx hb dL_law_135 ?_
    refine W.eq (congrArg (fun z => F0 m 136 ls (.int z :: [.ref b0, .int (0 : Int32), .ref h])) (nI_add (3 * k) 2)) ?_
    refine va_sld hx hb hX hbl hbA hS (vp_in_nI (n := (3 * k + 2)) (by omega) (by omega)) dL_law_136 ?_
    refine W.eq (congrArg (fun z => F0 m 137 ls (.int (sc z) :: [.int (0 : Int32), .ref h])) (nI_clamp (n := (3 * k + 2)) (by omega))) ?_
    refine lv_aload_n hx hb dL_law_137 rfl (lv_at hl 4 rfl) ?_
    refine xk_callL ([cMO qo (qs 0) (qa 0) o.1, cA I (qo 1) 40 (o.2 0), cA I (qo 2) 40 (o.2 1), cA I (qo 3) 40 (o.2 2), cA I (qo 4) 8 (o.2 3), cMS qo qs a.1, cA I (qs 1) 40 (a.2 0), cA I (qs 2) 40 (a.2 1), cA I (qs 3) 40 (a.2 2), cA I (qs 4) 40 (a.2 3), cMS qo qa y.1, cA I (qa 1) 40 (y.2 0), cA I (qa 2) 40 (y.2 1), cA I (qa 3) 40 (y.2 2), cA I (qa 4) 40 (y.2 3)]) (fun v : XBr × (Nat → Int64) => [cX h qb qt] ++ wB I qb (s_X2_come b (0 : Int32) (sc (3 * k + 2))) ++ wB I qt v.1 ++ [cO J ao v.2] ++ wO I qo (qs 0) (qa 0) o ++ wS I qo qs a ++ wS I qo qa y) [0, 1, 2, 3, 4, 5, 6, 7, 8, 9, 10, 11, 12, 13, 14, 15, 16, 17, 18, 19] [20, 21, 22, 23, 24, 25, 26, 27, 28, 29, 30, 31, 32, 33, 34] [15, 16, 17, 18, 19, 20, 21, 22, 23, 24, 25, 26, 27, 28, 29, 30, 31, 32, 33, 34, 0, 1, 2, 3, 4, 5, 6, 7, 8, 9, 10, 11, 12, 13, 14] hP hD hS hA (vx_runSX (As := [.ref h, .int (0 : Int32), .int (sc (3 * k + 2)), .ref ao]) (rest := []) ⟨hx, hb, hml, hown, hts⟩ (c_L_come l hlt D I J h qb qt ao H.size b z g (0 : Int32) (sc (3 * k + 2)) hR.nB) (vx_cwSW 4 hts gL_law_L_come rfl rfl rfl (by decide +kernel) ⟨Nat.le_of_ble_eq_true rfl, Nat.le_of_ble_eq_true rfl⟩) (xk_preX (wc := [cX h qb qt] ++ wB I qb b ++ wB I qt z ++ [cO J ao g]) hN hXX hS hA hP hK hD [0, 1, 2, 3, 4, 5, 6, 7, 8, 9, 10, 11, 12, 13, 14, 15, 16, 17, 18, 19] rfl rfl) rfl rfl hl.1 rfl (lv_room (Nat.le_of_ble_eq_true rfl)) dL_law_138 ⟨by show _ ≤ 601024; omega, by show _ ≤ 7293034; omega⟩) rfl rfl rfl (by decide) rfl (fun _ => rfl) (fun z_1 H locs hk_1 hP hD hS => ?_)
    have hP : va_P D vwCl ([cX h qb qt] ++ wB I qb (s_X2_come b (0 : Int32) (sc (3 * k + 2))) ++ wB I qt z_1.1 ++ [cO J ao z_1.2] ++ wO I qo (qs 0) (qa 0) o ++ wS I qo qs a ++ wS I qo qa y) H := hP
    have hD : va_D (fun q : Nat => s.heap.size ≤ q) ([cX h qb qt] ++ wB I qb (s_X2_come b (0 : Int32) (sc (3 * k + 2))) ++ wB I qt z_1.1 ++ [cO J ao z_1.2] ++ wO I qo (qs 0) (qa 0) o ++ wS I qo qs a ++ wS I qo qa y) := hD
    generalize hz_2 : s_X2_come b (0 : Int32) (sc (3 * k + 2)) = z_2 at hP hD
    refine lv_istore (lv' := [(5, .int (x_X2_come b (0 : Int32) (sc (3 * k + 2)))), (4, .int (nI (3 * k))), (0, .ref b0), (1, .ref h), (2, .ref (qo 0)), (3, .ref ao)]) hx hb dL_law_141 hl (by decide) rfl (fun ls hl => ?_)
    refine lv_aload_n hx hb dL_law_143 rfl (lv_at hl 4 rfl) ?_
    refine lv_aload_n hx hb dL_law_144 rfl (lv_at hl 2 rfl) ?_
    refine lv_iload hx hb dL_law_145 (lv_at hl 1 rfl) ?_
    refine lv_iconst (v := (1 : Int32)) hx hb dL_law_147 (by decide) ?_
    refine lv_iadd hx hb dL_law_148 ?_
    refine W.eq (congrArg (fun z => F0 m 149 ls (.int z :: [.ref b0, .ref (qo 0)])) (nI_add (3 * k) 1)) ?_
    refine va_sld hx hb hX hbl hbA hS (vp_in_nI (n := (3 * k + 1)) (by omega) (by omega)) dL_law_149 ?_
    refine W.eq (congrArg (fun z => F0 m 150 ls (.int (sc z) :: [.ref (qo 0)])) (nI_clamp (n := (3 * k + 1)) (by omega))) ?_
    refine lv_if_eq (tgt := 157) hx hb dL_law_150 (by decide) (fun c_2 => ?_) (fun c_2 => ?_)
    · refine lv_iconst (v := (0 : Int32)) hx hb dL_law_157 (by decide) ?_
      refine lv_aload_n hx hb dL_law_158 rfl (lv_at hl 2 rfl) ?_
      refine lv_iload hx hb dL_law_159 (lv_at hl 1 rfl) ?_
      refine lv_iconst (v := (2 : Int32)) hx hb dL_law_161 (by decide) ?_
      refine lv_iadd hx hb dL_law_162 ?_
      refine W.eq (congrArg (fun z => F0 m 163 ls (.int z :: [.ref b0, .int (0 : Int32), .ref (qo 0)])) (nI_add (3 * k) 2)) ?_
      refine va_sld hx hb hX hbl hbA hS (vp_in_nI (n := (3 * k + 2)) (by omega) (by omega)) dL_law_163 ?_
      refine W.eq (congrArg (fun z => F0 m 164 ls (.int (sc z) :: [.int (0 : Int32), .ref (qo 0)])) (nI_clamp (n := (3 * k + 2)) (by omega))) ?_
      refine xk_calli ([cX h qb qt, cXB qb z_2.1, cA I (qb 1) 8 z_2.2.1, cXT qb z_2.2.2.1, cA I (qb 3) 40 (z_2.2.2.2 0), cA I (qb 4) 40 (z_2.2.2.2 1), cA I (qb 5) 40 (z_2.2.2.2 2), cA I (qb 6) 40 (z_2.2.2.2 3), cA I (qb 7) 40 (z_2.2.2.2 4), cA I (qb 8) 40 (z_2.2.2.2 5), cXB qt z_1.1.1, cA I (qt 1) 8 z_1.1.2.1, cXT qt z_1.1.2.2.1, cA I (qt 3) 40 (z_1.1.2.2.2 0), cA I (qt 4) 40 (z_1.1.2.2.2 1), cA I (qt 5) 40 (z_1.1.2.2.2 2), cA I (qt 6) 40 (z_1.1.2.2.2 3), cA I (qt 7) 40 (z_1.1.2.2.2 4), cA I (qt 8) 40 (z_1.1.2.2.2 5), cO J ao z_1.2]) ([cX h qb qt] ++ wB I qb z_2 ++ wB I qt z_1.1 ++ [cO J ao z_1.2] ++ wO I qo (qs 0) (qa 0) ((s_X4_come o a (0 : Int32) (sc (3 * k + 2))).1) ++ wS I qo qs ((s_X4_come o a (0 : Int32) (sc (3 * k + 2))).2) ++ wS I qo qa y) [20, 21, 22, 23, 24, 25, 26, 27, 28, 29, 30, 31, 32, 33, 34] [0, 1, 2, 3, 4, 5, 6, 7, 8, 9, 10, 11, 12, 13, 14, 15, 16, 17, 18, 19] [0, 1, 2, 3, 4, 5, 6, 7, 8, 9, 10, 11, 12, 13, 14, 15, 16, 17, 18, 19, 20, 21, 22, 23, 24, 25, 26, 27, 28, 29, 30, 31, 32, 33, 34] hP hD hS hA (va_runV (As := [.int (0 : Int32), .int (sc (3 * k + 2))]) (rest := []) ⟨hx, hb, hml, hown, hts⟩ (c_X4_come l D I qo qs qa H.size o a y (0 : Int32) (sc (3 * k + 2)) hR.nO) (cwV 2 hts gL_law_X4_come rfl rfl rfl (by decide +kernel) ⟨Nat.le_of_ble_eq_true rfl, Nat.le_of_ble_eq_true rfl⟩) (xk_preV (wc := wO I qo (qs 0) (qa 0) o ++ wS I qo qs a ++ wS I qo qa y) (q0 := 20) (ci := 4) hN hP hK1 hD [20, 21, 22, 23, 24, 25, 26, 27, 28, 29, 30, 31, 32, 33, 34] rfl rfl rfl rfl) rfl rfl hl.1 rfl (lv_room (Nat.le_of_ble_eq_true rfl)) dL_law_164 ⟨by show _ ≤ 601024; omega, by show _ ≤ 7293034; omega⟩) rfl rfl rfl (by decide) rfl rfl (fun H locs hP hD hS => ?_)
      generalize hz_3 : s_X4_come o a (0 : Int32) (sc (3 * k + 2)) = z_3 at hP hD
      refine lv_istore (lv' := [(6, .int (r_X4_come o a (0 : Int32) (sc (3 * k + 2)))), (5, .int (x_X2_come b (0 : Int32) (sc (3 * k + 2)))), (4, .int (nI (3 * k))), (0, .ref b0), (1, .ref h), (2, .ref (qo 0)), (3, .ref ao)]) hx hb dL_law_167 hl (by decide) rfl (fun ls hl => ?_)
      refine lv_aload_n hx hb dL_law_169 rfl (lv_at hl 5 rfl) ?_
      refine xk_calli ([cX h qb qt, cXB qb z_2.1, cA I (qb 1) 8 z_2.2.1, cXT qb z_2.2.2.1, cA I (qb 3) 40 (z_2.2.2.2 0), cA I (qb 4) 40 (z_2.2.2.2 1), cA I (qb 5) 40 (z_2.2.2.2 2), cA I (qb 6) 40 (z_2.2.2.2 3), cA I (qb 7) 40 (z_2.2.2.2 4), cA I (qb 8) 40 (z_2.2.2.2 5), cXB qt z_1.1.1, cA I (qt 1) 8 z_1.1.2.1, cXT qt z_1.1.2.2.1, cA I (qt 3) 40 (z_1.1.2.2.2 0), cA I (qt 4) 40 (z_1.1.2.2.2 1), cA I (qt 5) 40 (z_1.1.2.2.2 2), cA I (qt 6) 40 (z_1.1.2.2.2 3), cA I (qt 7) 40 (z_1.1.2.2.2 4), cA I (qt 8) 40 (z_1.1.2.2.2 5), cO J ao z_1.2, cMS qo qs z_3.2.1, cA I (qs 1) 40 (z_3.2.2 0), cA I (qs 2) 40 (z_3.2.2 1), cA I (qs 3) 40 (z_3.2.2 2), cA I (qs 4) 40 (z_3.2.2 3), cMS qo qa y.1, cA I (qa 1) 40 (y.2 0), cA I (qa 2) 40 (y.2 1), cA I (qa 3) 40 (y.2 2), cA I (qa 4) 40 (y.2 3)]) ([cX h qb qt] ++ wB I qb z_2 ++ wB I qt z_1.1 ++ [cO J ao z_1.2] ++ wO I qo (qs 0) (qa 0) z_3.1 ++ wS I qo qs z_3.2 ++ wS I qo qa y) [20, 21, 22, 23, 24] [0, 1, 2, 3, 4, 5, 6, 7, 8, 9, 10, 11, 12, 13, 14, 15, 16, 17, 18, 19, 25, 26, 27, 28, 29, 30, 31, 32, 33, 34] [0, 1, 2, 3, 4, 5, 6, 7, 8, 9, 10, 11, 12, 13, 14, 15, 16, 17, 18, 19, 30, 31, 32, 33, 34, 20, 21, 22, 23, 24, 25, 26, 27, 28, 29] hP hD hS hA (va_runV (As := []) (rest := []) ⟨hx, hb, hml, hown, hts⟩ (c_X4_thrown l D I qo (qs 0) (qa 0) H.size z_3.1 ) (cwV 0 hts gL_law_X4_thrown rfl rfl rfl (by decide +kernel) ⟨Nat.le_of_ble_eq_true rfl, Nat.le_of_ble_eq_true rfl⟩) (xk_preV (wc := wO I qo (qs 0) (qa 0) z_3.1) (q0 := 20) (ci := 4) hN hP hK1 hD [20, 21, 22, 23, 24] rfl rfl rfl rfl) rfl rfl hl.1 rfl (lv_room (Nat.le_of_ble_eq_true rfl)) dL_law_170 ⟨by show _ ≤ 601024; omega, by show _ ≤ 7293034; omega⟩) rfl rfl rfl (by decide) rfl rfl (fun H locs hP hD hS => ?_)
      refine lv_iload hx hb dL_law_173 (lv_at hl 1 rfl) ?_
      refine lv_icmp_eq (tgt := 180) hx hb dL_law_175 (by decide) (fun c_3 => ?_) (fun c_3 => ?_)
      · refine lv_iload hx hb dL_law_180 (lv_at hl 1 rfl) ?_
        refine lv_if_ne (tgt := 197) hx hb dL_law_182 (by decide) (fun c_4 => ?_) (fun c_4 => ?_)
        · refine lv_goto (tgt := 961) hx hb dL_law_197 (by decide) ?_
          subst hz_3
          subst hz_2
          refine W.widen (k := 40 + 300 * (k + 1)) (n := 1100 + 2100 * (k + 1)) (by omega) (by omega) ?_
          exact K _ _ _ _ _ _ a3 a4 _ _ hP hD hS ls (lv_sub hl [2, 3, 4, 5, 6] rfl)
        · refine lv_aload_n hx hb dL_law_185 rfl (lv_at hl 6 rfl) ?_
          refine lv_iconst (v := (0 : Int32)) hx hb dL_law_186 (by decide) ?_
          refine va_lald (f := z_1.2) hx hb hK hP 19 1 rfl rfl (vinN (n := 1) (by decide) (by decide)) dL_law_187 ?_
          refine W.eq (congrArg (fun z => F0 m 188 ls (.long (z_1.2 z) :: [])) (show (0 : Int32).toNatClampNeg = 0 by decide)) ?_
          refine lv_iload hx hb dL_law_188 (lv_at hl 0 rfl) ?_
          refine lv_i2l (v := (r_X4_come o a (0 : Int32) (sc (3 * k + 2))).toInt64) hx hb dL_law_190 rfl ?_
          refine W.lcmp hx hb dL_law_191 ?_
          refine lv_if_eq (tgt := 197) hx hb dL_law_192 (by decide) (fun c_5 => ?_) (fun c_5 => ?_)
          · refine lv_goto (tgt := 961) hx hb dL_law_197 (by decide) ?_
            subst hz_3
            subst hz_2
            refine W.widen (k := 40 + 300 * (k + 1)) (n := 1100 + 2100 * (k + 1)) (by omega) (by omega) ?_
            exact K _ _ _ _ _ _ a3 a4 _ _ hP hD hS ls (lv_sub hl [2, 3, 4, 5, 6] rfl)
          · exact absurd (by rw [hk_1 c_4, a2 c_4]; exact lg_self _) c_5
      · exact absurd (by subst hz_3; subst hz_2; exact a1.symm) c_3
    · exact absurd c_1 c_2
  · refine lv_iconst (v := (1 : Int32)) hx hb dL_law_126 (by decide) ?_
    refine lv_goto (tgt := 131) hx hb dL_law_127 (by decide) ?_
    obtain ⟨a1, a2, a3, a4'⟩ := ag_come hR hm8 (1 : Int32) (sc (3 * k + 2)) (by decide)
    have a4 := Int.le_trans a4' (show (b.1 0).toInt + 240 ≤ 240 * ((k : Int) + 1) by omega)
    refine lv_aload_n hx hb dL_law_131 rfl (lv_at hl 1 rfl) ?_
    refine lv_iload hx hb dL_law_132 (lv_at hl 0 rfl) ?_
    refine lv_iconst (v := (2 : Int32)) hx hb dL_law_134 (by decide) ?_
    refine lv_iadd hx hb dL_law_135 ?_
    refine W.eq (congrArg (fun z => F0 m 136 ls (.int z :: [.ref b0, .int (1 : Int32), .ref h])) (nI_add (3 * k) 2)) ?_
    refine va_sld hx hb hX hbl hbA hS (vp_in_nI (n := (3 * k + 2)) (by omega) (by omega)) dL_law_136 ?_
    refine W.eq (congrArg (fun z => F0 m 137 ls (.int (sc z) :: [.int (1 : Int32), .ref h])) (nI_clamp (n := (3 * k + 2)) (by omega))) ?_
    refine lv_aload_n hx hb dL_law_137 rfl (lv_at hl 4 rfl) ?_
    refine xk_callL ([cMO qo (qs 0) (qa 0) o.1, cA I (qo 1) 40 (o.2 0), cA I (qo 2) 40 (o.2 1), cA I (qo 3) 40 (o.2 2), cA I (qo 4) 8 (o.2 3), cMS qo qs a.1, cA I (qs 1) 40 (a.2 0), cA I (qs 2) 40 (a.2 1), cA I (qs 3) 40 (a.2 2), cA I (qs 4) 40 (a.2 3), cMS qo qa y.1, cA I (qa 1) 40 (y.2 0), cA I (qa 2) 40 (y.2 1), cA I (qa 3) 40 (y.2 2), cA I (qa 4) 40 (y.2 3)]) (fun v : XBr × (Nat → Int64) => [cX h qb qt] ++ wB I qb (s_X2_come b (1 : Int32) (sc (3 * k + 2))) ++ wB I qt v.1 ++ [cO J ao v.2] ++ wO I qo (qs 0) (qa 0) o ++ wS I qo qs a ++ wS I qo qa y) [0, 1, 2, 3, 4, 5, 6, 7, 8, 9, 10, 11, 12, 13, 14, 15, 16, 17, 18, 19] [20, 21, 22, 23, 24, 25, 26, 27, 28, 29, 30, 31, 32, 33, 34] [15, 16, 17, 18, 19, 20, 21, 22, 23, 24, 25, 26, 27, 28, 29, 30, 31, 32, 33, 34, 0, 1, 2, 3, 4, 5, 6, 7, 8, 9, 10, 11, 12, 13, 14] hP hD hS hA (vx_runSX (As := [.ref h, .int (1 : Int32), .int (sc (3 * k + 2)), .ref ao]) (rest := []) ⟨hx, hb, hml, hown, hts⟩ (c_L_come l hlt D I J h qb qt ao H.size b z g (1 : Int32) (sc (3 * k + 2)) hR.nB) (vx_cwSW 4 hts gL_law_L_come rfl rfl rfl (by decide +kernel) ⟨Nat.le_of_ble_eq_true rfl, Nat.le_of_ble_eq_true rfl⟩) (xk_preX (wc := [cX h qb qt] ++ wB I qb b ++ wB I qt z ++ [cO J ao g]) hN hXX hS hA hP hK hD [0, 1, 2, 3, 4, 5, 6, 7, 8, 9, 10, 11, 12, 13, 14, 15, 16, 17, 18, 19] rfl rfl) rfl rfl hl.1 rfl (lv_room (Nat.le_of_ble_eq_true rfl)) dL_law_138 ⟨by show _ ≤ 601024; omega, by show _ ≤ 7293034; omega⟩) rfl rfl rfl (by decide) rfl (fun _ => rfl) (fun z_4 H locs hk_4 hP hD hS => ?_)
    have hP : va_P D vwCl ([cX h qb qt] ++ wB I qb (s_X2_come b (1 : Int32) (sc (3 * k + 2))) ++ wB I qt z_4.1 ++ [cO J ao z_4.2] ++ wO I qo (qs 0) (qa 0) o ++ wS I qo qs a ++ wS I qo qa y) H := hP
    have hD : va_D (fun q : Nat => s.heap.size ≤ q) ([cX h qb qt] ++ wB I qb (s_X2_come b (1 : Int32) (sc (3 * k + 2))) ++ wB I qt z_4.1 ++ [cO J ao z_4.2] ++ wO I qo (qs 0) (qa 0) o ++ wS I qo qs a ++ wS I qo qa y) := hD
    generalize hz_5 : s_X2_come b (1 : Int32) (sc (3 * k + 2)) = z_5 at hP hD
    refine lv_istore (lv' := [(5, .int (x_X2_come b (1 : Int32) (sc (3 * k + 2)))), (4, .int (nI (3 * k))), (0, .ref b0), (1, .ref h), (2, .ref (qo 0)), (3, .ref ao)]) hx hb dL_law_141 hl (by decide) rfl (fun ls hl => ?_)
    refine lv_aload_n hx hb dL_law_143 rfl (lv_at hl 4 rfl) ?_
    refine lv_aload_n hx hb dL_law_144 rfl (lv_at hl 2 rfl) ?_
    refine lv_iload hx hb dL_law_145 (lv_at hl 1 rfl) ?_
    refine lv_iconst (v := (1 : Int32)) hx hb dL_law_147 (by decide) ?_
    refine lv_iadd hx hb dL_law_148 ?_
    refine W.eq (congrArg (fun z => F0 m 149 ls (.int z :: [.ref b0, .ref (qo 0)])) (nI_add (3 * k) 1)) ?_
    refine va_sld hx hb hX hbl hbA hS (vp_in_nI (n := (3 * k + 1)) (by omega) (by omega)) dL_law_149 ?_
    refine W.eq (congrArg (fun z => F0 m 150 ls (.int (sc z) :: [.ref (qo 0)])) (nI_clamp (n := (3 * k + 1)) (by omega))) ?_
    refine lv_if_eq (tgt := 157) hx hb dL_law_150 (by decide) (fun c_6 => ?_) (fun c_6 => ?_)
    · exact absurd c_6 c_1
    · refine lv_iconst (v := (1 : Int32)) hx hb dL_law_153 (by decide) ?_
      refine lv_goto (tgt := 158) hx hb dL_law_154 (by decide) ?_
      refine lv_aload_n hx hb dL_law_158 rfl (lv_at hl 2 rfl) ?_
      refine lv_iload hx hb dL_law_159 (lv_at hl 1 rfl) ?_
      refine lv_iconst (v := (2 : Int32)) hx hb dL_law_161 (by decide) ?_
      refine lv_iadd hx hb dL_law_162 ?_
      refine W.eq (congrArg (fun z => F0 m 163 ls (.int z :: [.ref b0, .int (1 : Int32), .ref (qo 0)])) (nI_add (3 * k) 2)) ?_
      refine va_sld hx hb hX hbl hbA hS (vp_in_nI (n := (3 * k + 2)) (by omega) (by omega)) dL_law_163 ?_
      refine W.eq (congrArg (fun z => F0 m 164 ls (.int (sc z) :: [.int (1 : Int32), .ref (qo 0)])) (nI_clamp (n := (3 * k + 2)) (by omega))) ?_
      refine xk_calli ([cX h qb qt, cXB qb z_5.1, cA I (qb 1) 8 z_5.2.1, cXT qb z_5.2.2.1, cA I (qb 3) 40 (z_5.2.2.2 0), cA I (qb 4) 40 (z_5.2.2.2 1), cA I (qb 5) 40 (z_5.2.2.2 2), cA I (qb 6) 40 (z_5.2.2.2 3), cA I (qb 7) 40 (z_5.2.2.2 4), cA I (qb 8) 40 (z_5.2.2.2 5), cXB qt z_4.1.1, cA I (qt 1) 8 z_4.1.2.1, cXT qt z_4.1.2.2.1, cA I (qt 3) 40 (z_4.1.2.2.2 0), cA I (qt 4) 40 (z_4.1.2.2.2 1), cA I (qt 5) 40 (z_4.1.2.2.2 2), cA I (qt 6) 40 (z_4.1.2.2.2 3), cA I (qt 7) 40 (z_4.1.2.2.2 4), cA I (qt 8) 40 (z_4.1.2.2.2 5), cO J ao z_4.2]) ([cX h qb qt] ++ wB I qb z_5 ++ wB I qt z_4.1 ++ [cO J ao z_4.2] ++ wO I qo (qs 0) (qa 0) ((s_X4_come o a (1 : Int32) (sc (3 * k + 2))).1) ++ wS I qo qs ((s_X4_come o a (1 : Int32) (sc (3 * k + 2))).2) ++ wS I qo qa y) [20, 21, 22, 23, 24, 25, 26, 27, 28, 29, 30, 31, 32, 33, 34] [0, 1, 2, 3, 4, 5, 6, 7, 8, 9, 10, 11, 12, 13, 14, 15, 16, 17, 18, 19] [0, 1, 2, 3, 4, 5, 6, 7, 8, 9, 10, 11, 12, 13, 14, 15, 16, 17, 18, 19, 20, 21, 22, 23, 24, 25, 26, 27, 28, 29, 30, 31, 32, 33, 34] hP hD hS hA (va_runV (As := [.int (1 : Int32), .int (sc (3 * k + 2))]) (rest := []) ⟨hx, hb, hml, hown, hts⟩ (c_X4_come l D I qo qs qa H.size o a y (1 : Int32) (sc (3 * k + 2)) hR.nO) (cwV 2 hts gL_law_X4_come rfl rfl rfl (by decide +kernel) ⟨Nat.le_of_ble_eq_true rfl, Nat.le_of_ble_eq_true rfl⟩) (xk_preV (wc := wO I qo (qs 0) (qa 0) o ++ wS I qo qs a ++ wS I qo qa y) (q0 := 20) (ci := 4) hN hP hK1 hD [20, 21, 22, 23, 24, 25, 26, 27, 28, 29, 30, 31, 32, 33, 34] rfl rfl rfl rfl) rfl rfl hl.1 rfl (lv_room (Nat.le_of_ble_eq_true rfl)) dL_law_164 ⟨by show _ ≤ 601024; omega, by show _ ≤ 7293034; omega⟩) rfl rfl rfl (by decide) rfl rfl (fun H locs hP hD hS => ?_)
      generalize hz_6 : s_X4_come o a (1 : Int32) (sc (3 * k + 2)) = z_6 at hP hD
      refine lv_istore (lv' := [(6, .int (r_X4_come o a (1 : Int32) (sc (3 * k + 2)))), (5, .int (x_X2_come b (1 : Int32) (sc (3 * k + 2)))), (4, .int (nI (3 * k))), (0, .ref b0), (1, .ref h), (2, .ref (qo 0)), (3, .ref ao)]) hx hb dL_law_167 hl (by decide) rfl (fun ls hl => ?_)
      refine lv_aload_n hx hb dL_law_169 rfl (lv_at hl 5 rfl) ?_
      refine xk_calli ([cX h qb qt, cXB qb z_5.1, cA I (qb 1) 8 z_5.2.1, cXT qb z_5.2.2.1, cA I (qb 3) 40 (z_5.2.2.2 0), cA I (qb 4) 40 (z_5.2.2.2 1), cA I (qb 5) 40 (z_5.2.2.2 2), cA I (qb 6) 40 (z_5.2.2.2 3), cA I (qb 7) 40 (z_5.2.2.2 4), cA I (qb 8) 40 (z_5.2.2.2 5), cXB qt z_4.1.1, cA I (qt 1) 8 z_4.1.2.1, cXT qt z_4.1.2.2.1, cA I (qt 3) 40 (z_4.1.2.2.2 0), cA I (qt 4) 40 (z_4.1.2.2.2 1), cA I (qt 5) 40 (z_4.1.2.2.2 2), cA I (qt 6) 40 (z_4.1.2.2.2 3), cA I (qt 7) 40 (z_4.1.2.2.2 4), cA I (qt 8) 40 (z_4.1.2.2.2 5), cO J ao z_4.2, cMS qo qs z_6.2.1, cA I (qs 1) 40 (z_6.2.2 0), cA I (qs 2) 40 (z_6.2.2 1), cA I (qs 3) 40 (z_6.2.2 2), cA I (qs 4) 40 (z_6.2.2 3), cMS qo qa y.1, cA I (qa 1) 40 (y.2 0), cA I (qa 2) 40 (y.2 1), cA I (qa 3) 40 (y.2 2), cA I (qa 4) 40 (y.2 3)]) ([cX h qb qt] ++ wB I qb z_5 ++ wB I qt z_4.1 ++ [cO J ao z_4.2] ++ wO I qo (qs 0) (qa 0) z_6.1 ++ wS I qo qs z_6.2 ++ wS I qo qa y) [20, 21, 22, 23, 24] [0, 1, 2, 3, 4, 5, 6, 7, 8, 9, 10, 11, 12, 13, 14, 15, 16, 17, 18, 19, 25, 26, 27, 28, 29, 30, 31, 32, 33, 34] [0, 1, 2, 3, 4, 5, 6, 7, 8, 9, 10, 11, 12, 13, 14, 15, 16, 17, 18, 19, 30, 31, 32, 33, 34, 20, 21, 22, 23, 24, 25, 26, 27, 28, 29] hP hD hS hA (va_runV (As := []) (rest := []) ⟨hx, hb, hml, hown, hts⟩ (c_X4_thrown l D I qo (qs 0) (qa 0) H.size z_6.1 ) (cwV 0 hts gL_law_X4_thrown rfl rfl rfl (by decide +kernel) ⟨Nat.le_of_ble_eq_true rfl, Nat.le_of_ble_eq_true rfl⟩) (xk_preV (wc := wO I qo (qs 0) (qa 0) z_6.1) (q0 := 20) (ci := 4) hN hP hK1 hD [20, 21, 22, 23, 24] rfl rfl rfl rfl) rfl rfl hl.1 rfl (lv_room (Nat.le_of_ble_eq_true rfl)) dL_law_170 ⟨by show _ ≤ 601024; omega, by show _ ≤ 7293034; omega⟩) rfl rfl rfl (by decide) rfl rfl (fun H locs hP hD hS => ?_)
      refine lv_iload hx hb dL_law_173 (lv_at hl 1 rfl) ?_
      refine lv_icmp_eq (tgt := 180) hx hb dL_law_175 (by decide) (fun c_7 => ?_) (fun c_7 => ?_)
      · refine lv_iload hx hb dL_law_180 (lv_at hl 1 rfl) ?_
        refine lv_if_ne (tgt := 197) hx hb dL_law_182 (by decide) (fun c_8 => ?_) (fun c_8 => ?_)
        · refine lv_goto (tgt := 961) hx hb dL_law_197 (by decide) ?_
          subst hz_6
          subst hz_5
          refine W.widen (k := 40 + 300 * (k + 1)) (n := 1100 + 2100 * (k + 1)) (by omega) (by omega) ?_
          exact K _ _ _ _ _ _ a3 a4 _ _ hP hD hS ls (lv_sub hl [2, 3, 4, 5, 6] rfl)
        · refine lv_aload_n hx hb dL_law_185 rfl (lv_at hl 6 rfl) ?_
          refine lv_iconst (v := (0 : Int32)) hx hb dL_law_186 (by decide) ?_
          refine va_lald (f := z_4.2) hx hb hK hP 19 1 rfl rfl (vinN (n := 1) (by decide) (by decide)) dL_law_187 ?_
          refine W.eq (congrArg (fun z => F0 m 188 ls (.long (z_4.2 z) :: [])) (show (0 : Int32).toNatClampNeg = 0 by decide)) ?_
          refine lv_iload hx hb dL_law_188 (lv_at hl 0 rfl) ?_
          refine lv_i2l (v := (r_X4_come o a (1 : Int32) (sc (3 * k + 2))).toInt64) hx hb dL_law_190 rfl ?_
          refine W.lcmp hx hb dL_law_191 ?_
          refine lv_if_eq (tgt := 197) hx hb dL_law_192 (by decide) (fun c_9 => ?_) (fun c_9 => ?_)
          · refine lv_goto (tgt := 961) hx hb dL_law_197 (by decide) ?_
            subst hz_6
            subst hz_5
            refine W.widen (k := 40 + 300 * (k + 1)) (n := 1100 + 2100 * (k + 1)) (by omega) (by omega) ?_
            exact K _ _ _ _ _ _ a3 a4 _ _ hP hD hS ls (lv_sub hl [2, 3, 4, 5, 6] rfl)
          · exact absurd (by rw [hk_4 c_8, a2 c_8]; exact lg_self _) c_9
      · exact absurd (by subst hz_6; subst hz_5; exact a1.symm) c_7

set_option maxHeartbeats 2000000 in
set_option maxRecDepth 100000 in
theorem law_leave (l : Launch) (hlt : l.stackTraces = false) {p : Program} {e : Env} {s : State} {m : MethodId} {below : List Frame} {meth : Method} {c : Code} {D : va_G} {I J : ClassId} {h ao : Nat} {qb qt qo qs qa : Nat → Nat} {b0 L : Nat} {sc : Nat → Int32} (hL : L ≤ 1536) (C0 : lw_At p s m meth c b0 L sc) (hK : va_K D vwCl [(I, .int), (J, .long)] s) (hN : xNw s) (hXX : xX (fun q : Nat => s.heap.size ≤ q) s s.heap) {k : Nat} (hk : 3 * k + 3 ≤ L) (b z : XBr) (o : MO) (a y : MS) (g : Nat → Int64) (hR : Rel b o a) (hmin : (b.1 0).toInt ≤ 240 * (k : Int)) (K : ∀ (b' z' : XBr) (o' : MO) (a' y' : MS) (g' : Nat → Int64), Rel b' o' a' → (b'.1 0).toInt ≤ 240 * ((k : Int) + 1) → ∀ (H : Heap) (locs : List Loc), va_P D vwCl ([cX h qb qt] ++ wB I qb (b') ++ wB I qt (z') ++ [cO J ao (g')] ++ wO I qo (qs 0) (qa 0) (o') ++ wS I qo qs (a') ++ wS I qo qa (y')) H → va_D (fun q : Nat => s.heap.size ≤ q) ([cX h qb qt] ++ wB I qb (b') ++ wB I qt (z') ++ [cO J ao (g')] ++ wO I qo (qs 0) (qa 0) (o') ++ wS I qo qs (a') ++ wS I qo qa (y')) → va_S (fun q : Nat => s.heap.size ≤ q) s.heap H locs → ∀ ls, lv_has ls 9 [(4, .int (nI (3 * k))), (0, .ref b0), (1, .ref h), (2, .ref (qo 0)), (3, .ref ao)] → W p l e room_1 s m #[Value.ref b0] below meth c H locs (40 + 300 * (k + 1)) (1100 + 2100 * (k + 1)) (lw_Z below #[Value.ref b0] s) (F0 m 961 ls [])) : ∀ (H : Heap) (locs : List Loc), va_P D vwCl ([cX h qb qt] ++ wB I qb b ++ wB I qt z ++ [cO J ao g] ++ wO I qo (qs 0) (qa 0) o ++ wS I qo qs a ++ wS I qo qa y) H → va_D (fun q : Nat => s.heap.size ≤ q) ([cX h qb qt] ++ wB I qb b ++ wB I qt z ++ [cO J ao g] ++ wO I qo (qs 0) (qa 0) o ++ wS I qo qs a ++ wS I qo qa y) → va_S (fun q : Nat => s.heap.size ≤ q) s.heap H locs → ∀ ls, lv_has ls 9 [(4, .int (nI (3 * k))), (0, .ref b0), (1, .ref h), (2, .ref (qo 0)), (3, .ref ao)] → W p l e room_1 s m #[Value.ref b0] below meth c H locs (40 + 300 * k) (1100 + 2100 * k) (lw_Z below #[Value.ref b0] s) (F0 m 200 ls []) := by
  obtain ⟨hx, hb, hr, hml, hown, hts0, hX, hbl, hlocks, hgv⟩ := C0
  have hts : ∀ w ∈ wsL_law, w.before #[Value.ref b0] s = true := fun w h => hts0 w (wsL_law_in w h)
  have hA : ∀ q : Nat, s.heap.size ≤ q → (fun q : Nat => s.heap.size ≤ q) q := fun _ h => h
  have hbA : ¬ (fun q : Nat => s.heap.size ≤ q) b0 := Nat.not_le.mpr hbl
  have hK1 : va_K D vwCl [(I, .int)] s := hK.sub [0] rfl
  have hm9 : (b.1 0).toInt < 1000000000 := by omega
  have hm8 : (b.1 0).toInt < 1000000 := by omega
  obtain ⟨a1, a2, a3, a4'⟩ := ag_leave hR hm8 (sc (3 * k + 1))
  have a4 := Int.le_trans a4' (show (b.1 0).toInt + 240 ≤ 240 * ((k : Int) + 1) by omega)
  intro H locs hP hD hS ls hl
  refine lv_aload_n hx hb dL_law_200 rfl (lv_at hl 2 rfl) ?_
  refine lv_aload_n hx hb dL_law_201 rfl (lv_at hl 1 rfl) ?_
  refine lv_iload hx hb dL_law_202 (lv_at hl 0 rfl) ?_
  refine lv_iconst (v := (1 : Int32)) hx hb dL_law_204 (by decide) ?_
  refine lv_iadd hx hb dL_law_205 ?_
  refine W.eq (congrArg (fun z => F0 m 206 ls (.int z :: [.ref b0, .ref h])) (nI_add (3 * k) 1)) ?_
  refine va_sld hx hb hX hbl hbA hS (vp_in_nI (n := (3 * k + 1)) (by omega) (by omega)) dL_law_206 ?_
  refine W.eq (congrArg (fun z => F0 m 207 ls (.int (sc z) :: [.ref h])) (nI_clamp (n := (3 * k + 1)) (by omega))) ?_
  refine lv_aload_n hx hb dL_law_207 rfl (lv_at hl 4 rfl) ?_
  refine xk_callL ([cMO qo (qs 0) (qa 0) o.1, cA I (qo 1) 40 (o.2 0), cA I (qo 2) 40 (o.2 1), cA I (qo 3) 40 (o.2 2), cA I (qo 4) 8 (o.2 3), cMS qo qs a.1, cA I (qs 1) 40 (a.2 0), cA I (qs 2) 40 (a.2 1), cA I (qs 3) 40 (a.2 2), cA I (qs 4) 40 (a.2 3), cMS qo qa y.1, cA I (qa 1) 40 (y.2 0), cA I (qa 2) 40 (y.2 1), cA I (qa 3) 40 (y.2 2), cA I (qa 4) 40 (y.2 3)]) (fun v : XBr × (Nat → Int64) => [cX h qb qt] ++ wB I qb (s_X2_leave b (sc (3 * k + 1))) ++ wB I qt v.1 ++ [cO J ao v.2] ++ wO I qo (qs 0) (qa 0) o ++ wS I qo qs a ++ wS I qo qa y) [0, 1, 2, 3, 4, 5, 6, 7, 8, 9, 10, 11, 12, 13, 14, 15, 16, 17, 18, 19] [20, 21, 22, 23, 24, 25, 26, 27, 28, 29, 30, 31, 32, 33, 34] [15, 16, 17, 18, 19, 20, 21, 22, 23, 24, 25, 26, 27, 28, 29, 30, 31, 32, 33, 34, 0, 1, 2, 3, 4, 5, 6, 7, 8, 9, 10, 11, 12, 13, 14] hP hD hS hA (vx_runSX (As := [.ref h, .int (sc (3 * k + 1)), .ref ao]) (rest := []) ⟨hx, hb, hml, hown, hts⟩ (c_L_leave l hlt D I J h qb qt ao H.size b z g (sc (3 * k + 1)) hR.nB) (vx_cwSW 3 hts gL_law_L_leave rfl rfl rfl (by decide +kernel) ⟨Nat.le_of_ble_eq_true rfl, Nat.le_of_ble_eq_true rfl⟩) (xk_preX (wc := [cX h qb qt] ++ wB I qb b ++ wB I qt z ++ [cO J ao g]) hN hXX hS hA hP hK hD [0, 1, 2, 3, 4, 5, 6, 7, 8, 9, 10, 11, 12, 13, 14, 15, 16, 17, 18, 19] rfl rfl) rfl rfl hl.1 rfl (lv_room (Nat.le_of_ble_eq_true rfl)) dL_law_208 ⟨by show _ ≤ 601024; omega, by show _ ≤ 7293034; omega⟩) rfl rfl rfl (by decide) rfl (fun _ => rfl) (fun z_1 H locs hk_1 hP hD hS => ?_)
  have hP : va_P D vwCl ([cX h qb qt] ++ wB I qb (s_X2_leave b (sc (3 * k + 1))) ++ wB I qt z_1.1 ++ [cO J ao z_1.2] ++ wO I qo (qs 0) (qa 0) o ++ wS I qo qs a ++ wS I qo qa y) H := hP
  have hD : va_D (fun q : Nat => s.heap.size ≤ q) ([cX h qb qt] ++ wB I qb (s_X2_leave b (sc (3 * k + 1))) ++ wB I qt z_1.1 ++ [cO J ao z_1.2] ++ wO I qo (qs 0) (qa 0) o ++ wS I qo qs a ++ wS I qo qa y) := hD
  generalize hz_2 : s_X2_leave b (sc (3 * k + 1)) = z_2 at hP hD
  refine lv_istore (lv' := [(5, .int (x_X2_leave b (sc (3 * k + 1)))), (4, .int (nI (3 * k))), (0, .ref b0), (1, .ref h), (2, .ref (qo 0)), (3, .ref ao)]) hx hb dL_law_211 hl (by decide) rfl (fun ls hl => ?_)
  refine lv_aload_n hx hb dL_law_213 rfl (lv_at hl 4 rfl) ?_
  refine lv_aload_n hx hb dL_law_214 rfl (lv_at hl 2 rfl) ?_
  refine lv_iload hx hb dL_law_215 (lv_at hl 1 rfl) ?_
  refine lv_iconst (v := (1 : Int32)) hx hb dL_law_217 (by decide) ?_
  refine lv_iadd hx hb dL_law_218 ?_
  refine W.eq (congrArg (fun z => F0 m 219 ls (.int z :: [.ref b0, .ref (qo 0)])) (nI_add (3 * k) 1)) ?_
  refine va_sld hx hb hX hbl hbA hS (vp_in_nI (n := (3 * k + 1)) (by omega) (by omega)) dL_law_219 ?_
  refine W.eq (congrArg (fun z => F0 m 220 ls (.int (sc z) :: [.ref (qo 0)])) (nI_clamp (n := (3 * k + 1)) (by omega))) ?_
  refine xk_calli ([cX h qb qt, cXB qb z_2.1, cA I (qb 1) 8 z_2.2.1, cXT qb z_2.2.2.1, cA I (qb 3) 40 (z_2.2.2.2 0), cA I (qb 4) 40 (z_2.2.2.2 1), cA I (qb 5) 40 (z_2.2.2.2 2), cA I (qb 6) 40 (z_2.2.2.2 3), cA I (qb 7) 40 (z_2.2.2.2 4), cA I (qb 8) 40 (z_2.2.2.2 5), cXB qt z_1.1.1, cA I (qt 1) 8 z_1.1.2.1, cXT qt z_1.1.2.2.1, cA I (qt 3) 40 (z_1.1.2.2.2 0), cA I (qt 4) 40 (z_1.1.2.2.2 1), cA I (qt 5) 40 (z_1.1.2.2.2 2), cA I (qt 6) 40 (z_1.1.2.2.2 3), cA I (qt 7) 40 (z_1.1.2.2.2 4), cA I (qt 8) 40 (z_1.1.2.2.2 5), cO J ao z_1.2]) ([cX h qb qt] ++ wB I qb z_2 ++ wB I qt z_1.1 ++ [cO J ao z_1.2] ++ wO I qo (qs 0) (qa 0) ((s_X4_leave o a (sc (3 * k + 1))).1) ++ wS I qo qs ((s_X4_leave o a (sc (3 * k + 1))).2) ++ wS I qo qa y) [20, 21, 22, 23, 24, 25, 26, 27, 28, 29, 30, 31, 32, 33, 34] [0, 1, 2, 3, 4, 5, 6, 7, 8, 9, 10, 11, 12, 13, 14, 15, 16, 17, 18, 19] [0, 1, 2, 3, 4, 5, 6, 7, 8, 9, 10, 11, 12, 13, 14, 15, 16, 17, 18, 19, 20, 21, 22, 23, 24, 25, 26, 27, 28, 29, 30, 31, 32, 33, 34] hP hD hS hA (va_runV (As := [.int (sc (3 * k + 1))]) (rest := []) ⟨hx, hb, hml, hown, hts⟩ (c_X4_leave l D I qo qs qa H.size o a y (sc (3 * k + 1)) hR.nO) (cwV 1 hts gL_law_X4_leave rfl rfl rfl (by decide +kernel) ⟨Nat.le_of_ble_eq_true rfl, Nat.le_of_ble_eq_true rfl⟩) (xk_preV (wc := wO I qo (qs 0) (qa 0) o ++ wS I qo qs a ++ wS I qo qa y) (q0 := 20) (ci := 4) hN hP hK1 hD [20, 21, 22, 23, 24, 25, 26, 27, 28, 29, 30, 31, 32, 33, 34] rfl rfl rfl rfl) rfl rfl hl.1 rfl (lv_room (Nat.le_of_ble_eq_true rfl)) dL_law_220 ⟨by show _ ≤ 601024; omega, by show _ ≤ 7293034; omega⟩) rfl rfl rfl (by decide) rfl rfl (fun H locs hP hD hS => ?_)
  generalize hz_3 : s_X4_leave o a (sc (3 * k + 1)) = z_3 at hP hD
  refine lv_istore (lv' := [(6, .int (r_X4_leave o a (sc (3 * k + 1)))), (5, .int (x_X2_leave b (sc (3 * k + 1)))), (4, .int (nI (3 * k))), (0, .ref b0), (1, .ref h), (2, .ref (qo 0)), (3, .ref ao)]) hx hb dL_law_223 hl (by decide) rfl (fun ls hl => ?_)
  refine lv_aload_n hx hb dL_law_225 rfl (lv_at hl 5 rfl) ?_
  refine xk_calli ([cX h qb qt, cXB qb z_2.1, cA I (qb 1) 8 z_2.2.1, cXT qb z_2.2.2.1, cA I (qb 3) 40 (z_2.2.2.2 0), cA I (qb 4) 40 (z_2.2.2.2 1), cA I (qb 5) 40 (z_2.2.2.2 2), cA I (qb 6) 40 (z_2.2.2.2 3), cA I (qb 7) 40 (z_2.2.2.2 4), cA I (qb 8) 40 (z_2.2.2.2 5), cXB qt z_1.1.1, cA I (qt 1) 8 z_1.1.2.1, cXT qt z_1.1.2.2.1, cA I (qt 3) 40 (z_1.1.2.2.2 0), cA I (qt 4) 40 (z_1.1.2.2.2 1), cA I (qt 5) 40 (z_1.1.2.2.2 2), cA I (qt 6) 40 (z_1.1.2.2.2 3), cA I (qt 7) 40 (z_1.1.2.2.2 4), cA I (qt 8) 40 (z_1.1.2.2.2 5), cO J ao z_1.2, cMS qo qs z_3.2.1, cA I (qs 1) 40 (z_3.2.2 0), cA I (qs 2) 40 (z_3.2.2 1), cA I (qs 3) 40 (z_3.2.2 2), cA I (qs 4) 40 (z_3.2.2 3), cMS qo qa y.1, cA I (qa 1) 40 (y.2 0), cA I (qa 2) 40 (y.2 1), cA I (qa 3) 40 (y.2 2), cA I (qa 4) 40 (y.2 3)]) ([cX h qb qt] ++ wB I qb z_2 ++ wB I qt z_1.1 ++ [cO J ao z_1.2] ++ wO I qo (qs 0) (qa 0) z_3.1 ++ wS I qo qs z_3.2 ++ wS I qo qa y) [20, 21, 22, 23, 24] [0, 1, 2, 3, 4, 5, 6, 7, 8, 9, 10, 11, 12, 13, 14, 15, 16, 17, 18, 19, 25, 26, 27, 28, 29, 30, 31, 32, 33, 34] [0, 1, 2, 3, 4, 5, 6, 7, 8, 9, 10, 11, 12, 13, 14, 15, 16, 17, 18, 19, 30, 31, 32, 33, 34, 20, 21, 22, 23, 24, 25, 26, 27, 28, 29] hP hD hS hA (va_runV (As := []) (rest := []) ⟨hx, hb, hml, hown, hts⟩ (c_X4_thrown l D I qo (qs 0) (qa 0) H.size z_3.1 ) (cwV 0 hts gL_law_X4_thrown rfl rfl rfl (by decide +kernel) ⟨Nat.le_of_ble_eq_true rfl, Nat.le_of_ble_eq_true rfl⟩) (xk_preV (wc := wO I qo (qs 0) (qa 0) z_3.1) (q0 := 20) (ci := 4) hN hP hK1 hD [20, 21, 22, 23, 24] rfl rfl rfl rfl) rfl rfl hl.1 rfl (lv_room (Nat.le_of_ble_eq_true rfl)) dL_law_226 ⟨by show _ ≤ 601024; omega, by show _ ≤ 7293034; omega⟩) rfl rfl rfl (by decide) rfl rfl (fun H locs hP hD hS => ?_)
  refine lv_iload hx hb dL_law_229 (lv_at hl 1 rfl) ?_
  refine lv_icmp_eq (tgt := 236) hx hb dL_law_231 (by decide) (fun c_1 => ?_) (fun c_1 => ?_)
  · refine lv_iload hx hb dL_law_236 (lv_at hl 1 rfl) ?_
    refine lv_if_ne (tgt := 253) hx hb dL_law_238 (by decide) (fun c_2 => ?_) (fun c_2 => ?_)
    · refine lv_goto (tgt := 961) hx hb dL_law_253 (by decide) ?_
      subst hz_3
      subst hz_2
      refine W.widen (k := 40 + 300 * (k + 1)) (n := 1100 + 2100 * (k + 1)) (by omega) (by omega) ?_
      exact K _ _ _ _ _ _ a3 a4 _ _ hP hD hS ls (lv_sub hl [2, 3, 4, 5, 6] rfl)
    · refine lv_aload_n hx hb dL_law_241 rfl (lv_at hl 6 rfl) ?_
      refine lv_iconst (v := (0 : Int32)) hx hb dL_law_242 (by decide) ?_
      refine va_lald (f := z_1.2) hx hb hK hP 19 1 rfl rfl (vinN (n := 1) (by decide) (by decide)) dL_law_243 ?_
      refine W.eq (congrArg (fun z => F0 m 244 ls (.long (z_1.2 z) :: [])) (show (0 : Int32).toNatClampNeg = 0 by decide)) ?_
      refine lv_iload hx hb dL_law_244 (lv_at hl 0 rfl) ?_
      refine lv_i2l (v := (r_X4_leave o a (sc (3 * k + 1))).toInt64) hx hb dL_law_246 rfl ?_
      refine W.lcmp hx hb dL_law_247 ?_
      refine lv_if_eq (tgt := 253) hx hb dL_law_248 (by decide) (fun c_3 => ?_) (fun c_3 => ?_)
      · refine lv_goto (tgt := 961) hx hb dL_law_253 (by decide) ?_
        subst hz_3
        subst hz_2
        refine W.widen (k := 40 + 300 * (k + 1)) (n := 1100 + 2100 * (k + 1)) (by omega) (by omega) ?_
        exact K _ _ _ _ _ _ a3 a4 _ _ hP hD hS ls (lv_sub hl [2, 3, 4, 5, 6] rfl)
      · exact absurd (by rw [hk_1 c_2, a2 c_2]; exact lg_self _) c_3
  · exact absurd (by subst hz_3; subst hz_2; exact a1.symm) c_1

set_option maxHeartbeats 2000000 in
set_option maxRecDepth 100000 in
theorem law_ring (l : Launch) (hlt : l.stackTraces = false) {p : Program} {e : Env} {s : State} {m : MethodId} {below : List Frame} {meth : Method} {c : Code} {D : va_G} {I J : ClassId} {h ao : Nat} {qb qt qo qs qa : Nat → Nat} {b0 L : Nat} {sc : Nat → Int32} (hL : L ≤ 1536) (C0 : lw_At p s m meth c b0 L sc) (hK : va_K D vwCl [(I, .int), (J, .long)] s) (hN : xNw s) (hXX : xX (fun q : Nat => s.heap.size ≤ q) s s.heap) {k : Nat} (hk : 3 * k + 3 ≤ L) (b z : XBr) (o : MO) (a y : MS) (g : Nat → Int64) (hR : Rel b o a) (hmin : (b.1 0).toInt ≤ 240 * (k : Int)) (K : ∀ (b' z' : XBr) (o' : MO) (a' y' : MS) (g' : Nat → Int64), Rel b' o' a' → (b'.1 0).toInt ≤ 240 * ((k : Int) + 1) → ∀ (H : Heap) (locs : List Loc), va_P D vwCl ([cX h qb qt] ++ wB I qb (b') ++ wB I qt (z') ++ [cO J ao (g')] ++ wO I qo (qs 0) (qa 0) (o') ++ wS I qo qs (a') ++ wS I qo qa (y')) H → va_D (fun q : Nat => s.heap.size ≤ q) ([cX h qb qt] ++ wB I qb (b') ++ wB I qt (z') ++ [cO J ao (g')] ++ wO I qo (qs 0) (qa 0) (o') ++ wS I qo qs (a') ++ wS I qo qa (y')) → va_S (fun q : Nat => s.heap.size ≤ q) s.heap H locs → ∀ ls, lv_has ls 9 [(4, .int (nI (3 * k))), (0, .ref b0), (1, .ref h), (2, .ref (qo 0)), (3, .ref ao)] → W p l e room_1 s m #[Value.ref b0] below meth c H locs (40 + 300 * (k + 1)) (1100 + 2100 * (k + 1)) (lw_Z below #[Value.ref b0] s) (F0 m 961 ls [])) : ∀ (H : Heap) (locs : List Loc), va_P D vwCl ([cX h qb qt] ++ wB I qb b ++ wB I qt z ++ [cO J ao g] ++ wO I qo (qs 0) (qa 0) o ++ wS I qo qs a ++ wS I qo qa y) H → va_D (fun q : Nat => s.heap.size ≤ q) ([cX h qb qt] ++ wB I qb b ++ wB I qt z ++ [cO J ao g] ++ wO I qo (qs 0) (qa 0) o ++ wS I qo qs a ++ wS I qo qa y) → va_S (fun q : Nat => s.heap.size ≤ q) s.heap H locs → ∀ ls, lv_has ls 9 [(4, .int (nI (3 * k))), (0, .ref b0), (1, .ref h), (2, .ref (qo 0)), (3, .ref ao)] → W p l e room_1 s m #[Value.ref b0] below meth c H locs (40 + 300 * k) (1100 + 2100 * k) (lw_Z below #[Value.ref b0] s) (F0 m 256 ls []) := by
  obtain ⟨hx, hb, hr, hml, hown, hts0, hX, hbl, hlocks, hgv⟩ := C0
  have hts : ∀ w ∈ wsL_law, w.before #[Value.ref b0] s = true := fun w h => hts0 w (wsL_law_in w h)
  have hA : ∀ q : Nat, s.heap.size ≤ q → (fun q : Nat => s.heap.size ≤ q) q := fun _ h => h
  have hbA : ¬ (fun q : Nat => s.heap.size ≤ q) b0 := Nat.not_le.mpr hbl
  have hK1 : va_K D vwCl [(I, .int)] s := hK.sub [0] rfl
  have hm9 : (b.1 0).toInt < 1000000000 := by omega
  have hm8 : (b.1 0).toInt < 1000000 := by omega
  obtain ⟨a1, a2, a3, a4'⟩ := ag_ring hR hm8 (sc (3 * k + 1))
  have a4 := Int.le_trans a4' (show (b.1 0).toInt + 240 ≤ 240 * ((k : Int) + 1) by omega)
  intro H locs hP hD hS ls hl
  refine lv_aload_n hx hb dL_law_256 rfl (lv_at hl 2 rfl) ?_
  refine lv_aload_n hx hb dL_law_257 rfl (lv_at hl 1 rfl) ?_
  refine lv_iload hx hb dL_law_258 (lv_at hl 0 rfl) ?_
  refine lv_iconst (v := (1 : Int32)) hx hb dL_law_260 (by decide) ?_
  refine lv_iadd hx hb dL_law_261 ?_
  refine W.eq (congrArg (fun z => F0 m 262 ls (.int z :: [.ref b0, .ref h])) (nI_add (3 * k) 1)) ?_
  refine va_sld hx hb hX hbl hbA hS (vp_in_nI (n := (3 * k + 1)) (by omega) (by omega)) dL_law_262 ?_
  refine W.eq (congrArg (fun z => F0 m 263 ls (.int (sc z) :: [.ref h])) (nI_clamp (n := (3 * k + 1)) (by omega))) ?_
  refine lv_aload_n hx hb dL_law_263 rfl (lv_at hl 4 rfl) ?_
  refine xk_callL ([cMO qo (qs 0) (qa 0) o.1, cA I (qo 1) 40 (o.2 0), cA I (qo 2) 40 (o.2 1), cA I (qo 3) 40 (o.2 2), cA I (qo 4) 8 (o.2 3), cMS qo qs a.1, cA I (qs 1) 40 (a.2 0), cA I (qs 2) 40 (a.2 1), cA I (qs 3) 40 (a.2 2), cA I (qs 4) 40 (a.2 3), cMS qo qa y.1, cA I (qa 1) 40 (y.2 0), cA I (qa 2) 40 (y.2 1), cA I (qa 3) 40 (y.2 2), cA I (qa 4) 40 (y.2 3)]) (fun v : XBr × (Nat → Int64) => [cX h qb qt] ++ wB I qb (s_X2_ring b (sc (3 * k + 1))) ++ wB I qt v.1 ++ [cO J ao v.2] ++ wO I qo (qs 0) (qa 0) o ++ wS I qo qs a ++ wS I qo qa y) [0, 1, 2, 3, 4, 5, 6, 7, 8, 9, 10, 11, 12, 13, 14, 15, 16, 17, 18, 19] [20, 21, 22, 23, 24, 25, 26, 27, 28, 29, 30, 31, 32, 33, 34] [15, 16, 17, 18, 19, 20, 21, 22, 23, 24, 25, 26, 27, 28, 29, 30, 31, 32, 33, 34, 0, 1, 2, 3, 4, 5, 6, 7, 8, 9, 10, 11, 12, 13, 14] hP hD hS hA (vx_runSX (As := [.ref h, .int (sc (3 * k + 1)), .ref ao]) (rest := []) ⟨hx, hb, hml, hown, hts⟩ (c_L_ring l hlt D I J h qb qt ao H.size b z g (sc (3 * k + 1)) ) (vx_cwSW 3 hts gL_law_L_ring rfl rfl rfl (by decide +kernel) ⟨Nat.le_of_ble_eq_true rfl, Nat.le_of_ble_eq_true rfl⟩) (xk_preX (wc := [cX h qb qt] ++ wB I qb b ++ wB I qt z ++ [cO J ao g]) hN hXX hS hA hP hK hD [0, 1, 2, 3, 4, 5, 6, 7, 8, 9, 10, 11, 12, 13, 14, 15, 16, 17, 18, 19] rfl rfl) rfl rfl hl.1 rfl (lv_room (Nat.le_of_ble_eq_true rfl)) dL_law_264 ⟨by show _ ≤ 601024; omega, by show _ ≤ 7293034; omega⟩) rfl rfl rfl (by decide) rfl (fun _ => rfl) (fun z_1 H locs hk_1 hP hD hS => ?_)
  have hP : va_P D vwCl ([cX h qb qt] ++ wB I qb (s_X2_ring b (sc (3 * k + 1))) ++ wB I qt z_1.1 ++ [cO J ao z_1.2] ++ wO I qo (qs 0) (qa 0) o ++ wS I qo qs a ++ wS I qo qa y) H := hP
  have hD : va_D (fun q : Nat => s.heap.size ≤ q) ([cX h qb qt] ++ wB I qb (s_X2_ring b (sc (3 * k + 1))) ++ wB I qt z_1.1 ++ [cO J ao z_1.2] ++ wO I qo (qs 0) (qa 0) o ++ wS I qo qs a ++ wS I qo qa y) := hD
  generalize hz_2 : s_X2_ring b (sc (3 * k + 1)) = z_2 at hP hD
  refine lv_istore (lv' := [(5, .int (x_X2_ring b (sc (3 * k + 1)))), (4, .int (nI (3 * k))), (0, .ref b0), (1, .ref h), (2, .ref (qo 0)), (3, .ref ao)]) hx hb dL_law_267 hl (by decide) rfl (fun ls hl => ?_)
  refine lv_aload_n hx hb dL_law_269 rfl (lv_at hl 4 rfl) ?_
  refine lv_aload_n hx hb dL_law_270 rfl (lv_at hl 2 rfl) ?_
  refine lv_iload hx hb dL_law_271 (lv_at hl 1 rfl) ?_
  refine lv_iconst (v := (1 : Int32)) hx hb dL_law_273 (by decide) ?_
  refine lv_iadd hx hb dL_law_274 ?_
  refine W.eq (congrArg (fun z => F0 m 275 ls (.int z :: [.ref b0, .ref (qo 0)])) (nI_add (3 * k) 1)) ?_
  refine va_sld hx hb hX hbl hbA hS (vp_in_nI (n := (3 * k + 1)) (by omega) (by omega)) dL_law_275 ?_
  refine W.eq (congrArg (fun z => F0 m 276 ls (.int (sc z) :: [.ref (qo 0)])) (nI_clamp (n := (3 * k + 1)) (by omega))) ?_
  refine xk_calli ([cX h qb qt, cXB qb z_2.1, cA I (qb 1) 8 z_2.2.1, cXT qb z_2.2.2.1, cA I (qb 3) 40 (z_2.2.2.2 0), cA I (qb 4) 40 (z_2.2.2.2 1), cA I (qb 5) 40 (z_2.2.2.2 2), cA I (qb 6) 40 (z_2.2.2.2 3), cA I (qb 7) 40 (z_2.2.2.2 4), cA I (qb 8) 40 (z_2.2.2.2 5), cXB qt z_1.1.1, cA I (qt 1) 8 z_1.1.2.1, cXT qt z_1.1.2.2.1, cA I (qt 3) 40 (z_1.1.2.2.2 0), cA I (qt 4) 40 (z_1.1.2.2.2 1), cA I (qt 5) 40 (z_1.1.2.2.2 2), cA I (qt 6) 40 (z_1.1.2.2.2 3), cA I (qt 7) 40 (z_1.1.2.2.2 4), cA I (qt 8) 40 (z_1.1.2.2.2 5), cO J ao z_1.2]) ([cX h qb qt] ++ wB I qb z_2 ++ wB I qt z_1.1 ++ [cO J ao z_1.2] ++ wO I qo (qs 0) (qa 0) ((s_X4_ring o a (sc (3 * k + 1))).1) ++ wS I qo qs ((s_X4_ring o a (sc (3 * k + 1))).2) ++ wS I qo qa y) [20, 21, 22, 23, 24, 25, 26, 27, 28, 29, 30, 31, 32, 33, 34] [0, 1, 2, 3, 4, 5, 6, 7, 8, 9, 10, 11, 12, 13, 14, 15, 16, 17, 18, 19] [0, 1, 2, 3, 4, 5, 6, 7, 8, 9, 10, 11, 12, 13, 14, 15, 16, 17, 18, 19, 20, 21, 22, 23, 24, 25, 26, 27, 28, 29, 30, 31, 32, 33, 34] hP hD hS hA (va_runV (As := [.int (sc (3 * k + 1))]) (rest := []) ⟨hx, hb, hml, hown, hts⟩ (c_X4_ring l D I qo qs qa H.size o a y (sc (3 * k + 1)) ) (cwV 1 hts gL_law_X4_ring rfl rfl rfl (by decide +kernel) ⟨Nat.le_of_ble_eq_true rfl, Nat.le_of_ble_eq_true rfl⟩) (xk_preV (wc := wO I qo (qs 0) (qa 0) o ++ wS I qo qs a ++ wS I qo qa y) (q0 := 20) (ci := 4) hN hP hK1 hD [20, 21, 22, 23, 24, 25, 26, 27, 28, 29, 30, 31, 32, 33, 34] rfl rfl rfl rfl) rfl rfl hl.1 rfl (lv_room (Nat.le_of_ble_eq_true rfl)) dL_law_276 ⟨by show _ ≤ 601024; omega, by show _ ≤ 7293034; omega⟩) rfl rfl rfl (by decide) rfl rfl (fun H locs hP hD hS => ?_)
  generalize hz_3 : s_X4_ring o a (sc (3 * k + 1)) = z_3 at hP hD
  refine lv_istore (lv' := [(6, .int (r_X4_ring o a (sc (3 * k + 1)))), (5, .int (x_X2_ring b (sc (3 * k + 1)))), (4, .int (nI (3 * k))), (0, .ref b0), (1, .ref h), (2, .ref (qo 0)), (3, .ref ao)]) hx hb dL_law_279 hl (by decide) rfl (fun ls hl => ?_)
  refine lv_aload_n hx hb dL_law_281 rfl (lv_at hl 5 rfl) ?_
  refine xk_calli ([cX h qb qt, cXB qb z_2.1, cA I (qb 1) 8 z_2.2.1, cXT qb z_2.2.2.1, cA I (qb 3) 40 (z_2.2.2.2 0), cA I (qb 4) 40 (z_2.2.2.2 1), cA I (qb 5) 40 (z_2.2.2.2 2), cA I (qb 6) 40 (z_2.2.2.2 3), cA I (qb 7) 40 (z_2.2.2.2 4), cA I (qb 8) 40 (z_2.2.2.2 5), cXB qt z_1.1.1, cA I (qt 1) 8 z_1.1.2.1, cXT qt z_1.1.2.2.1, cA I (qt 3) 40 (z_1.1.2.2.2 0), cA I (qt 4) 40 (z_1.1.2.2.2 1), cA I (qt 5) 40 (z_1.1.2.2.2 2), cA I (qt 6) 40 (z_1.1.2.2.2 3), cA I (qt 7) 40 (z_1.1.2.2.2 4), cA I (qt 8) 40 (z_1.1.2.2.2 5), cO J ao z_1.2, cMS qo qs z_3.2.1, cA I (qs 1) 40 (z_3.2.2 0), cA I (qs 2) 40 (z_3.2.2 1), cA I (qs 3) 40 (z_3.2.2 2), cA I (qs 4) 40 (z_3.2.2 3), cMS qo qa y.1, cA I (qa 1) 40 (y.2 0), cA I (qa 2) 40 (y.2 1), cA I (qa 3) 40 (y.2 2), cA I (qa 4) 40 (y.2 3)]) ([cX h qb qt] ++ wB I qb z_2 ++ wB I qt z_1.1 ++ [cO J ao z_1.2] ++ wO I qo (qs 0) (qa 0) z_3.1 ++ wS I qo qs z_3.2 ++ wS I qo qa y) [20, 21, 22, 23, 24] [0, 1, 2, 3, 4, 5, 6, 7, 8, 9, 10, 11, 12, 13, 14, 15, 16, 17, 18, 19, 25, 26, 27, 28, 29, 30, 31, 32, 33, 34] [0, 1, 2, 3, 4, 5, 6, 7, 8, 9, 10, 11, 12, 13, 14, 15, 16, 17, 18, 19, 30, 31, 32, 33, 34, 20, 21, 22, 23, 24, 25, 26, 27, 28, 29] hP hD hS hA (va_runV (As := []) (rest := []) ⟨hx, hb, hml, hown, hts⟩ (c_X4_thrown l D I qo (qs 0) (qa 0) H.size z_3.1 ) (cwV 0 hts gL_law_X4_thrown rfl rfl rfl (by decide +kernel) ⟨Nat.le_of_ble_eq_true rfl, Nat.le_of_ble_eq_true rfl⟩) (xk_preV (wc := wO I qo (qs 0) (qa 0) z_3.1) (q0 := 20) (ci := 4) hN hP hK1 hD [20, 21, 22, 23, 24] rfl rfl rfl rfl) rfl rfl hl.1 rfl (lv_room (Nat.le_of_ble_eq_true rfl)) dL_law_282 ⟨by show _ ≤ 601024; omega, by show _ ≤ 7293034; omega⟩) rfl rfl rfl (by decide) rfl rfl (fun H locs hP hD hS => ?_)
  refine lv_iload hx hb dL_law_285 (lv_at hl 1 rfl) ?_
  refine lv_icmp_eq (tgt := 292) hx hb dL_law_287 (by decide) (fun c_1 => ?_) (fun c_1 => ?_)
  · refine lv_iload hx hb dL_law_292 (lv_at hl 1 rfl) ?_
    refine lv_if_ne (tgt := 309) hx hb dL_law_294 (by decide) (fun c_2 => ?_) (fun c_2 => ?_)
    · refine lv_goto (tgt := 961) hx hb dL_law_309 (by decide) ?_
      subst hz_3
      subst hz_2
      refine W.widen (k := 40 + 300 * (k + 1)) (n := 1100 + 2100 * (k + 1)) (by omega) (by omega) ?_
      exact K _ _ _ _ _ _ a3 a4 _ _ hP hD hS ls (lv_sub hl [2, 3, 4, 5, 6] rfl)
    · refine lv_aload_n hx hb dL_law_297 rfl (lv_at hl 6 rfl) ?_
      refine lv_iconst (v := (0 : Int32)) hx hb dL_law_298 (by decide) ?_
      refine va_lald (f := z_1.2) hx hb hK hP 19 1 rfl rfl (vinN (n := 1) (by decide) (by decide)) dL_law_299 ?_
      refine W.eq (congrArg (fun z => F0 m 300 ls (.long (z_1.2 z) :: [])) (show (0 : Int32).toNatClampNeg = 0 by decide)) ?_
      refine lv_iload hx hb dL_law_300 (lv_at hl 0 rfl) ?_
      refine lv_i2l (v := (r_X4_ring o a (sc (3 * k + 1))).toInt64) hx hb dL_law_302 rfl ?_
      refine W.lcmp hx hb dL_law_303 ?_
      refine lv_if_eq (tgt := 309) hx hb dL_law_304 (by decide) (fun c_3 => ?_) (fun c_3 => ?_)
      · refine lv_goto (tgt := 961) hx hb dL_law_309 (by decide) ?_
        subst hz_3
        subst hz_2
        refine W.widen (k := 40 + 300 * (k + 1)) (n := 1100 + 2100 * (k + 1)) (by omega) (by omega) ?_
        exact K _ _ _ _ _ _ a3 a4 _ _ hP hD hS ls (lv_sub hl [2, 3, 4, 5, 6] rfl)
      · exact absurd (by rw [hk_1 c_2, a2 c_2]; exact lg_self _) c_3
  · exact absurd (by subst hz_3; subst hz_2; exact a1.symm) c_1

set_option maxHeartbeats 2000000 in
set_option maxRecDepth 100000 in
theorem law_poise (l : Launch) (hlt : l.stackTraces = false) {p : Program} {e : Env} {s : State} {m : MethodId} {below : List Frame} {meth : Method} {c : Code} {D : va_G} {I J : ClassId} {h ao : Nat} {qb qt qo qs qa : Nat → Nat} {b0 L : Nat} {sc : Nat → Int32} (hL : L ≤ 1536) (C0 : lw_At p s m meth c b0 L sc) (hK : va_K D vwCl [(I, .int), (J, .long)] s) (hN : xNw s) (hXX : xX (fun q : Nat => s.heap.size ≤ q) s s.heap) {k : Nat} (hk : 3 * k + 3 ≤ L) (b z : XBr) (o : MO) (a y : MS) (g : Nat → Int64) (hR : Rel b o a) (hmin : (b.1 0).toInt ≤ 240 * (k : Int)) (K : ∀ (b' z' : XBr) (o' : MO) (a' y' : MS) (g' : Nat → Int64), Rel b' o' a' → (b'.1 0).toInt ≤ 240 * ((k : Int) + 1) → ∀ (H : Heap) (locs : List Loc), va_P D vwCl ([cX h qb qt] ++ wB I qb (b') ++ wB I qt (z') ++ [cO J ao (g')] ++ wO I qo (qs 0) (qa 0) (o') ++ wS I qo qs (a') ++ wS I qo qa (y')) H → va_D (fun q : Nat => s.heap.size ≤ q) ([cX h qb qt] ++ wB I qb (b') ++ wB I qt (z') ++ [cO J ao (g')] ++ wO I qo (qs 0) (qa 0) (o') ++ wS I qo qs (a') ++ wS I qo qa (y')) → va_S (fun q : Nat => s.heap.size ≤ q) s.heap H locs → ∀ ls, lv_has ls 9 [(4, .int (nI (3 * k))), (0, .ref b0), (1, .ref h), (2, .ref (qo 0)), (3, .ref ao)] → W p l e room_1 s m #[Value.ref b0] below meth c H locs (40 + 300 * (k + 1)) (1100 + 2100 * (k + 1)) (lw_Z below #[Value.ref b0] s) (F0 m 961 ls [])) : ∀ (H : Heap) (locs : List Loc), va_P D vwCl ([cX h qb qt] ++ wB I qb b ++ wB I qt z ++ [cO J ao g] ++ wO I qo (qs 0) (qa 0) o ++ wS I qo qs a ++ wS I qo qa y) H → va_D (fun q : Nat => s.heap.size ≤ q) ([cX h qb qt] ++ wB I qb b ++ wB I qt z ++ [cO J ao g] ++ wO I qo (qs 0) (qa 0) o ++ wS I qo qs a ++ wS I qo qa y) → va_S (fun q : Nat => s.heap.size ≤ q) s.heap H locs → ∀ ls, lv_has ls 9 [(4, .int (nI (3 * k))), (0, .ref b0), (1, .ref h), (2, .ref (qo 0)), (3, .ref ao)] → W p l e room_1 s m #[Value.ref b0] below meth c H locs (40 + 300 * k) (1100 + 2100 * k) (lw_Z below #[Value.ref b0] s) (F0 m 312 ls []) := by
  obtain ⟨hx, hb, hr, hml, hown, hts0, hX, hbl, hlocks, hgv⟩ := C0
  have hts : ∀ w ∈ wsL_law, w.before #[Value.ref b0] s = true := fun w h => hts0 w (wsL_law_in w h)
  have hA : ∀ q : Nat, s.heap.size ≤ q → (fun q : Nat => s.heap.size ≤ q) q := fun _ h => h
  have hbA : ¬ (fun q : Nat => s.heap.size ≤ q) b0 := Nat.not_le.mpr hbl
  have hK1 : va_K D vwCl [(I, .int)] s := hK.sub [0] rfl
  have hm9 : (b.1 0).toInt < 1000000000 := by omega
  have hm8 : (b.1 0).toInt < 1000000 := by omega
  obtain ⟨a1, a2, a3, a4'⟩ := ag_poise hR hm8 (sc (3 * k + 1))
  have a4 := Int.le_trans a4' (show (b.1 0).toInt + 240 ≤ 240 * ((k : Int) + 1) by omega)
  intro H locs hP hD hS ls hl
  refine lv_aload_n hx hb dL_law_312 rfl (lv_at hl 2 rfl) ?_
  refine lv_aload_n hx hb dL_law_313 rfl (lv_at hl 1 rfl) ?_
  refine lv_iload hx hb dL_law_314 (lv_at hl 0 rfl) ?_
  refine lv_iconst (v := (1 : Int32)) hx hb dL_law_316 (by decide) ?_
  refine lv_iadd hx hb dL_law_317 ?_
  refine W.eq (congrArg (fun z => F0 m 318 ls (.int z :: [.ref b0, .ref h])) (nI_add (3 * k) 1)) ?_
  refine va_sld hx hb hX hbl hbA hS (vp_in_nI (n := (3 * k + 1)) (by omega) (by omega)) dL_law_318 ?_
  refine W.eq (congrArg (fun z => F0 m 319 ls (.int (sc z) :: [.ref h])) (nI_clamp (n := (3 * k + 1)) (by omega))) ?_
  refine lv_aload_n hx hb dL_law_319 rfl (lv_at hl 4 rfl) ?_
  refine xk_callL ([cMO qo (qs 0) (qa 0) o.1, cA I (qo 1) 40 (o.2 0), cA I (qo 2) 40 (o.2 1), cA I (qo 3) 40 (o.2 2), cA I (qo 4) 8 (o.2 3), cMS qo qs a.1, cA I (qs 1) 40 (a.2 0), cA I (qs 2) 40 (a.2 1), cA I (qs 3) 40 (a.2 2), cA I (qs 4) 40 (a.2 3), cMS qo qa y.1, cA I (qa 1) 40 (y.2 0), cA I (qa 2) 40 (y.2 1), cA I (qa 3) 40 (y.2 2), cA I (qa 4) 40 (y.2 3)]) (fun v : XBr × (Nat → Int64) => [cX h qb qt] ++ wB I qb (s_X2_poise b (sc (3 * k + 1))) ++ wB I qt v.1 ++ [cO J ao v.2] ++ wO I qo (qs 0) (qa 0) o ++ wS I qo qs a ++ wS I qo qa y) [0, 1, 2, 3, 4, 5, 6, 7, 8, 9, 10, 11, 12, 13, 14, 15, 16, 17, 18, 19] [20, 21, 22, 23, 24, 25, 26, 27, 28, 29, 30, 31, 32, 33, 34] [15, 16, 17, 18, 19, 20, 21, 22, 23, 24, 25, 26, 27, 28, 29, 30, 31, 32, 33, 34, 0, 1, 2, 3, 4, 5, 6, 7, 8, 9, 10, 11, 12, 13, 14] hP hD hS hA (vx_runSX (As := [.ref h, .int (sc (3 * k + 1)), .ref ao]) (rest := []) ⟨hx, hb, hml, hown, hts⟩ (c_L_poise l hlt D I J h qb qt ao H.size b z g (sc (3 * k + 1)) ) (vx_cwSW 3 hts gL_law_L_poise rfl rfl rfl (by decide +kernel) ⟨Nat.le_of_ble_eq_true rfl, Nat.le_of_ble_eq_true rfl⟩) (xk_preX (wc := [cX h qb qt] ++ wB I qb b ++ wB I qt z ++ [cO J ao g]) hN hXX hS hA hP hK hD [0, 1, 2, 3, 4, 5, 6, 7, 8, 9, 10, 11, 12, 13, 14, 15, 16, 17, 18, 19] rfl rfl) rfl rfl hl.1 rfl (lv_room (Nat.le_of_ble_eq_true rfl)) dL_law_320 ⟨by show _ ≤ 601024; omega, by show _ ≤ 7293034; omega⟩) rfl rfl rfl (by decide) rfl (fun _ => rfl) (fun z_1 H locs hk_1 hP hD hS => ?_)
  have hP : va_P D vwCl ([cX h qb qt] ++ wB I qb (s_X2_poise b (sc (3 * k + 1))) ++ wB I qt z_1.1 ++ [cO J ao z_1.2] ++ wO I qo (qs 0) (qa 0) o ++ wS I qo qs a ++ wS I qo qa y) H := hP
  have hD : va_D (fun q : Nat => s.heap.size ≤ q) ([cX h qb qt] ++ wB I qb (s_X2_poise b (sc (3 * k + 1))) ++ wB I qt z_1.1 ++ [cO J ao z_1.2] ++ wO I qo (qs 0) (qa 0) o ++ wS I qo qs a ++ wS I qo qa y) := hD
  generalize hz_2 : s_X2_poise b (sc (3 * k + 1)) = z_2 at hP hD
  refine lv_istore (lv' := [(5, .int (x_X2_poise b (sc (3 * k + 1)))), (4, .int (nI (3 * k))), (0, .ref b0), (1, .ref h), (2, .ref (qo 0)), (3, .ref ao)]) hx hb dL_law_323 hl (by decide) rfl (fun ls hl => ?_)
  refine lv_aload_n hx hb dL_law_325 rfl (lv_at hl 4 rfl) ?_
  refine lv_aload_n hx hb dL_law_326 rfl (lv_at hl 2 rfl) ?_
  refine lv_iload hx hb dL_law_327 (lv_at hl 1 rfl) ?_
  refine lv_iconst (v := (1 : Int32)) hx hb dL_law_329 (by decide) ?_
  refine lv_iadd hx hb dL_law_330 ?_
  refine W.eq (congrArg (fun z => F0 m 331 ls (.int z :: [.ref b0, .ref (qo 0)])) (nI_add (3 * k) 1)) ?_
  refine va_sld hx hb hX hbl hbA hS (vp_in_nI (n := (3 * k + 1)) (by omega) (by omega)) dL_law_331 ?_
  refine W.eq (congrArg (fun z => F0 m 332 ls (.int (sc z) :: [.ref (qo 0)])) (nI_clamp (n := (3 * k + 1)) (by omega))) ?_
  refine xk_calli ([cX h qb qt, cXB qb z_2.1, cA I (qb 1) 8 z_2.2.1, cXT qb z_2.2.2.1, cA I (qb 3) 40 (z_2.2.2.2 0), cA I (qb 4) 40 (z_2.2.2.2 1), cA I (qb 5) 40 (z_2.2.2.2 2), cA I (qb 6) 40 (z_2.2.2.2 3), cA I (qb 7) 40 (z_2.2.2.2 4), cA I (qb 8) 40 (z_2.2.2.2 5), cXB qt z_1.1.1, cA I (qt 1) 8 z_1.1.2.1, cXT qt z_1.1.2.2.1, cA I (qt 3) 40 (z_1.1.2.2.2 0), cA I (qt 4) 40 (z_1.1.2.2.2 1), cA I (qt 5) 40 (z_1.1.2.2.2 2), cA I (qt 6) 40 (z_1.1.2.2.2 3), cA I (qt 7) 40 (z_1.1.2.2.2 4), cA I (qt 8) 40 (z_1.1.2.2.2 5), cO J ao z_1.2]) ([cX h qb qt] ++ wB I qb z_2 ++ wB I qt z_1.1 ++ [cO J ao z_1.2] ++ wO I qo (qs 0) (qa 0) ((s_X4_poise o a (sc (3 * k + 1))).1) ++ wS I qo qs ((s_X4_poise o a (sc (3 * k + 1))).2) ++ wS I qo qa y) [20, 21, 22, 23, 24, 25, 26, 27, 28, 29, 30, 31, 32, 33, 34] [0, 1, 2, 3, 4, 5, 6, 7, 8, 9, 10, 11, 12, 13, 14, 15, 16, 17, 18, 19] [0, 1, 2, 3, 4, 5, 6, 7, 8, 9, 10, 11, 12, 13, 14, 15, 16, 17, 18, 19, 20, 21, 22, 23, 24, 25, 26, 27, 28, 29, 30, 31, 32, 33, 34] hP hD hS hA (va_runV (As := [.int (sc (3 * k + 1))]) (rest := []) ⟨hx, hb, hml, hown, hts⟩ (c_X4_poise l D I qo qs qa H.size o a y (sc (3 * k + 1)) ) (cwV 1 hts gL_law_X4_poise rfl rfl rfl (by decide +kernel) ⟨Nat.le_of_ble_eq_true rfl, Nat.le_of_ble_eq_true rfl⟩) (xk_preV (wc := wO I qo (qs 0) (qa 0) o ++ wS I qo qs a ++ wS I qo qa y) (q0 := 20) (ci := 4) hN hP hK1 hD [20, 21, 22, 23, 24, 25, 26, 27, 28, 29, 30, 31, 32, 33, 34] rfl rfl rfl rfl) rfl rfl hl.1 rfl (lv_room (Nat.le_of_ble_eq_true rfl)) dL_law_332 ⟨by show _ ≤ 601024; omega, by show _ ≤ 7293034; omega⟩) rfl rfl rfl (by decide) rfl rfl (fun H locs hP hD hS => ?_)
  generalize hz_3 : s_X4_poise o a (sc (3 * k + 1)) = z_3 at hP hD
  refine lv_istore (lv' := [(6, .int (r_X4_poise o a (sc (3 * k + 1)))), (5, .int (x_X2_poise b (sc (3 * k + 1)))), (4, .int (nI (3 * k))), (0, .ref b0), (1, .ref h), (2, .ref (qo 0)), (3, .ref ao)]) hx hb dL_law_335 hl (by decide) rfl (fun ls hl => ?_)
  refine lv_aload_n hx hb dL_law_337 rfl (lv_at hl 5 rfl) ?_
  refine xk_calli ([cX h qb qt, cXB qb z_2.1, cA I (qb 1) 8 z_2.2.1, cXT qb z_2.2.2.1, cA I (qb 3) 40 (z_2.2.2.2 0), cA I (qb 4) 40 (z_2.2.2.2 1), cA I (qb 5) 40 (z_2.2.2.2 2), cA I (qb 6) 40 (z_2.2.2.2 3), cA I (qb 7) 40 (z_2.2.2.2 4), cA I (qb 8) 40 (z_2.2.2.2 5), cXB qt z_1.1.1, cA I (qt 1) 8 z_1.1.2.1, cXT qt z_1.1.2.2.1, cA I (qt 3) 40 (z_1.1.2.2.2 0), cA I (qt 4) 40 (z_1.1.2.2.2 1), cA I (qt 5) 40 (z_1.1.2.2.2 2), cA I (qt 6) 40 (z_1.1.2.2.2 3), cA I (qt 7) 40 (z_1.1.2.2.2 4), cA I (qt 8) 40 (z_1.1.2.2.2 5), cO J ao z_1.2, cMS qo qs z_3.2.1, cA I (qs 1) 40 (z_3.2.2 0), cA I (qs 2) 40 (z_3.2.2 1), cA I (qs 3) 40 (z_3.2.2 2), cA I (qs 4) 40 (z_3.2.2 3), cMS qo qa y.1, cA I (qa 1) 40 (y.2 0), cA I (qa 2) 40 (y.2 1), cA I (qa 3) 40 (y.2 2), cA I (qa 4) 40 (y.2 3)]) ([cX h qb qt] ++ wB I qb z_2 ++ wB I qt z_1.1 ++ [cO J ao z_1.2] ++ wO I qo (qs 0) (qa 0) z_3.1 ++ wS I qo qs z_3.2 ++ wS I qo qa y) [20, 21, 22, 23, 24] [0, 1, 2, 3, 4, 5, 6, 7, 8, 9, 10, 11, 12, 13, 14, 15, 16, 17, 18, 19, 25, 26, 27, 28, 29, 30, 31, 32, 33, 34] [0, 1, 2, 3, 4, 5, 6, 7, 8, 9, 10, 11, 12, 13, 14, 15, 16, 17, 18, 19, 30, 31, 32, 33, 34, 20, 21, 22, 23, 24, 25, 26, 27, 28, 29] hP hD hS hA (va_runV (As := []) (rest := []) ⟨hx, hb, hml, hown, hts⟩ (c_X4_thrown l D I qo (qs 0) (qa 0) H.size z_3.1 ) (cwV 0 hts gL_law_X4_thrown rfl rfl rfl (by decide +kernel) ⟨Nat.le_of_ble_eq_true rfl, Nat.le_of_ble_eq_true rfl⟩) (xk_preV (wc := wO I qo (qs 0) (qa 0) z_3.1) (q0 := 20) (ci := 4) hN hP hK1 hD [20, 21, 22, 23, 24] rfl rfl rfl rfl) rfl rfl hl.1 rfl (lv_room (Nat.le_of_ble_eq_true rfl)) dL_law_338 ⟨by show _ ≤ 601024; omega, by show _ ≤ 7293034; omega⟩) rfl rfl rfl (by decide) rfl rfl (fun H locs hP hD hS => ?_)
  refine lv_iload hx hb dL_law_341 (lv_at hl 1 rfl) ?_
  refine lv_icmp_eq (tgt := 348) hx hb dL_law_343 (by decide) (fun c_1 => ?_) (fun c_1 => ?_)
  · refine lv_iload hx hb dL_law_348 (lv_at hl 1 rfl) ?_
    refine lv_if_ne (tgt := 365) hx hb dL_law_350 (by decide) (fun c_2 => ?_) (fun c_2 => ?_)
    · refine lv_goto (tgt := 961) hx hb dL_law_365 (by decide) ?_
      subst hz_3
      subst hz_2
      refine W.widen (k := 40 + 300 * (k + 1)) (n := 1100 + 2100 * (k + 1)) (by omega) (by omega) ?_
      exact K _ _ _ _ _ _ a3 a4 _ _ hP hD hS ls (lv_sub hl [2, 3, 4, 5, 6] rfl)
    · refine lv_aload_n hx hb dL_law_353 rfl (lv_at hl 6 rfl) ?_
      refine lv_iconst (v := (0 : Int32)) hx hb dL_law_354 (by decide) ?_
      refine va_lald (f := z_1.2) hx hb hK hP 19 1 rfl rfl (vinN (n := 1) (by decide) (by decide)) dL_law_355 ?_
      refine W.eq (congrArg (fun z => F0 m 356 ls (.long (z_1.2 z) :: [])) (show (0 : Int32).toNatClampNeg = 0 by decide)) ?_
      refine lv_iload hx hb dL_law_356 (lv_at hl 0 rfl) ?_
      refine lv_i2l (v := (r_X4_poise o a (sc (3 * k + 1))).toInt64) hx hb dL_law_358 rfl ?_
      refine W.lcmp hx hb dL_law_359 ?_
      refine lv_if_eq (tgt := 365) hx hb dL_law_360 (by decide) (fun c_3 => ?_) (fun c_3 => ?_)
      · refine lv_goto (tgt := 961) hx hb dL_law_365 (by decide) ?_
        subst hz_3
        subst hz_2
        refine W.widen (k := 40 + 300 * (k + 1)) (n := 1100 + 2100 * (k + 1)) (by omega) (by omega) ?_
        exact K _ _ _ _ _ _ a3 a4 _ _ hP hD hS ls (lv_sub hl [2, 3, 4, 5, 6] rfl)
      · exact absurd (by rw [hk_1 c_2, a2 c_2]; exact lg_self _) c_3
  · exact absurd (by subst hz_3; subst hz_2; exact a1.symm) c_1

set_option maxHeartbeats 2000000 in
set_option maxRecDepth 100000 in
theorem law_setCold (l : Launch) (hlt : l.stackTraces = false) {p : Program} {e : Env} {s : State} {m : MethodId} {below : List Frame} {meth : Method} {c : Code} {D : va_G} {I J : ClassId} {h ao : Nat} {qb qt qo qs qa : Nat → Nat} {b0 L : Nat} {sc : Nat → Int32} (hL : L ≤ 1536) (C0 : lw_At p s m meth c b0 L sc) (hK : va_K D vwCl [(I, .int), (J, .long)] s) (hN : xNw s) (hXX : xX (fun q : Nat => s.heap.size ≤ q) s s.heap) {k : Nat} (hk : 3 * k + 3 ≤ L) (b z : XBr) (o : MO) (a y : MS) (g : Nat → Int64) (hR : Rel b o a) (hmin : (b.1 0).toInt ≤ 240 * (k : Int)) (K : ∀ (b' z' : XBr) (o' : MO) (a' y' : MS) (g' : Nat → Int64), Rel b' o' a' → (b'.1 0).toInt ≤ 240 * ((k : Int) + 1) → ∀ (H : Heap) (locs : List Loc), va_P D vwCl ([cX h qb qt] ++ wB I qb (b') ++ wB I qt (z') ++ [cO J ao (g')] ++ wO I qo (qs 0) (qa 0) (o') ++ wS I qo qs (a') ++ wS I qo qa (y')) H → va_D (fun q : Nat => s.heap.size ≤ q) ([cX h qb qt] ++ wB I qb (b') ++ wB I qt (z') ++ [cO J ao (g')] ++ wO I qo (qs 0) (qa 0) (o') ++ wS I qo qs (a') ++ wS I qo qa (y')) → va_S (fun q : Nat => s.heap.size ≤ q) s.heap H locs → ∀ ls, lv_has ls 9 [(4, .int (nI (3 * k))), (0, .ref b0), (1, .ref h), (2, .ref (qo 0)), (3, .ref ao)] → W p l e room_1 s m #[Value.ref b0] below meth c H locs (40 + 300 * (k + 1)) (1100 + 2100 * (k + 1)) (lw_Z below #[Value.ref b0] s) (F0 m 961 ls [])) : ∀ (H : Heap) (locs : List Loc), va_P D vwCl ([cX h qb qt] ++ wB I qb b ++ wB I qt z ++ [cO J ao g] ++ wO I qo (qs 0) (qa 0) o ++ wS I qo qs a ++ wS I qo qa y) H → va_D (fun q : Nat => s.heap.size ≤ q) ([cX h qb qt] ++ wB I qb b ++ wB I qt z ++ [cO J ao g] ++ wO I qo (qs 0) (qa 0) o ++ wS I qo qs a ++ wS I qo qa y) → va_S (fun q : Nat => s.heap.size ≤ q) s.heap H locs → ∀ ls, lv_has ls 9 [(4, .int (nI (3 * k))), (0, .ref b0), (1, .ref h), (2, .ref (qo 0)), (3, .ref ao)] → W p l e room_1 s m #[Value.ref b0] below meth c H locs (40 + 300 * k) (1100 + 2100 * k) (lw_Z below #[Value.ref b0] s) (F0 m 368 ls []) := by
  obtain ⟨hx, hb, hr, hml, hown, hts0, hX, hbl, hlocks, hgv⟩ := C0
  have hts : ∀ w ∈ wsL_law, w.before #[Value.ref b0] s = true := fun w h => hts0 w (wsL_law_in w h)
  have hA : ∀ q : Nat, s.heap.size ≤ q → (fun q : Nat => s.heap.size ≤ q) q := fun _ h => h
  have hbA : ¬ (fun q : Nat => s.heap.size ≤ q) b0 := Nat.not_le.mpr hbl
  have hK1 : va_K D vwCl [(I, .int)] s := hK.sub [0] rfl
  have hm9 : (b.1 0).toInt < 1000000000 := by omega
  have hm8 : (b.1 0).toInt < 1000000 := by omega
  obtain ⟨a1, a2, a3, a4'⟩ := ag_setCold hR hm8 (sc (3 * k + 1)) (sc (3 * k + 2))
  have a4 := Int.le_trans a4' (show (b.1 0).toInt + 240 ≤ 240 * ((k : Int) + 1) by omega)
  intro H locs hP hD hS ls hl
  refine lv_aload_n hx hb dL_law_368 rfl (lv_at hl 2 rfl) ?_
  refine lv_aload_n hx hb dL_law_369 rfl (lv_at hl 1 rfl) ?_
  refine lv_iload hx hb dL_law_370 (lv_at hl 0 rfl) ?_
  refine lv_iconst (v := (1 : Int32)) hx hb dL_law_372 (by decide) ?_
  refine lv_iadd hx hb dL_law_373 ?_
  refine W.eq (congrArg (fun z => F0 m 374 ls (.int z :: [.ref b0, .ref h])) (nI_add (3 * k) 1)) ?_
  refine va_sld hx hb hX hbl hbA hS (vp_in_nI (n := (3 * k + 1)) (by omega) (by omega)) dL_law_374 ?_
  refine W.eq (congrArg (fun z => F0 m 375 ls (.int (sc z) :: [.ref h])) (nI_clamp (n := (3 * k + 1)) (by omega))) ?_
  refine lv_aload_n hx hb dL_law_375 rfl (lv_at hl 1 rfl) ?_
  refine lv_iload hx hb dL_law_376 (lv_at hl 0 rfl) ?_
  refine lv_iconst (v := (2 : Int32)) hx hb dL_law_378 (by decide) ?_
  refine lv_iadd hx hb dL_law_379 ?_
  refine W.eq (congrArg (fun z => F0 m 380 ls (.int z :: [.ref b0, .int (sc (3 * k + 1)), .ref h])) (nI_add (3 * k) 2)) ?_
  refine va_sld hx hb hX hbl hbA hS (vp_in_nI (n := (3 * k + 2)) (by omega) (by omega)) dL_law_380 ?_
  refine W.eq (congrArg (fun z => F0 m 381 ls (.int (sc z) :: [.int (sc (3 * k + 1)), .ref h])) (nI_clamp (n := (3 * k + 2)) (by omega))) ?_
  refine lv_aload_n hx hb dL_law_381 rfl (lv_at hl 4 rfl) ?_
  refine xk_callL ([cMO qo (qs 0) (qa 0) o.1, cA I (qo 1) 40 (o.2 0), cA I (qo 2) 40 (o.2 1), cA I (qo 3) 40 (o.2 2), cA I (qo 4) 8 (o.2 3), cMS qo qs a.1, cA I (qs 1) 40 (a.2 0), cA I (qs 2) 40 (a.2 1), cA I (qs 3) 40 (a.2 2), cA I (qs 4) 40 (a.2 3), cMS qo qa y.1, cA I (qa 1) 40 (y.2 0), cA I (qa 2) 40 (y.2 1), cA I (qa 3) 40 (y.2 2), cA I (qa 4) 40 (y.2 3)]) (fun v : XBr × (Nat → Int64) => [cX h qb qt] ++ wB I qb (s_X2_setCold b (sc (3 * k + 1)) (sc (3 * k + 2))) ++ wB I qt v.1 ++ [cO J ao v.2] ++ wO I qo (qs 0) (qa 0) o ++ wS I qo qs a ++ wS I qo qa y) [0, 1, 2, 3, 4, 5, 6, 7, 8, 9, 10, 11, 12, 13, 14, 15, 16, 17, 18, 19] [20, 21, 22, 23, 24, 25, 26, 27, 28, 29, 30, 31, 32, 33, 34] [15, 16, 17, 18, 19, 20, 21, 22, 23, 24, 25, 26, 27, 28, 29, 30, 31, 32, 33, 34, 0, 1, 2, 3, 4, 5, 6, 7, 8, 9, 10, 11, 12, 13, 14] hP hD hS hA (vx_runSX (As := [.ref h, .int (sc (3 * k + 1)), .int (sc (3 * k + 2)), .ref ao]) (rest := []) ⟨hx, hb, hml, hown, hts⟩ (c_L_setCold l hlt D I J h qb qt ao H.size b z g (sc (3 * k + 1)) (sc (3 * k + 2)) ) (vx_cwSW 4 hts gL_law_L_setCold rfl rfl rfl (by decide +kernel) ⟨Nat.le_of_ble_eq_true rfl, Nat.le_of_ble_eq_true rfl⟩) (xk_preX (wc := [cX h qb qt] ++ wB I qb b ++ wB I qt z ++ [cO J ao g]) hN hXX hS hA hP hK hD [0, 1, 2, 3, 4, 5, 6, 7, 8, 9, 10, 11, 12, 13, 14, 15, 16, 17, 18, 19] rfl rfl) rfl rfl hl.1 rfl (lv_room (Nat.le_of_ble_eq_true rfl)) dL_law_382 ⟨by show _ ≤ 601024; omega, by show _ ≤ 7293034; omega⟩) rfl rfl rfl (by decide) rfl (fun _ => rfl) (fun z_1 H locs hk_1 hP hD hS => ?_)
  have hP : va_P D vwCl ([cX h qb qt] ++ wB I qb (s_X2_setCold b (sc (3 * k + 1)) (sc (3 * k + 2))) ++ wB I qt z_1.1 ++ [cO J ao z_1.2] ++ wO I qo (qs 0) (qa 0) o ++ wS I qo qs a ++ wS I qo qa y) H := hP
  have hD : va_D (fun q : Nat => s.heap.size ≤ q) ([cX h qb qt] ++ wB I qb (s_X2_setCold b (sc (3 * k + 1)) (sc (3 * k + 2))) ++ wB I qt z_1.1 ++ [cO J ao z_1.2] ++ wO I qo (qs 0) (qa 0) o ++ wS I qo qs a ++ wS I qo qa y) := hD
  generalize hz_2 : s_X2_setCold b (sc (3 * k + 1)) (sc (3 * k + 2)) = z_2 at hP hD
  refine lv_istore (lv' := [(5, .int (x_X2_setCold b (sc (3 * k + 1)) (sc (3 * k + 2)))), (4, .int (nI (3 * k))), (0, .ref b0), (1, .ref h), (2, .ref (qo 0)), (3, .ref ao)]) hx hb dL_law_385 hl (by decide) rfl (fun ls hl => ?_)
  refine lv_aload_n hx hb dL_law_387 rfl (lv_at hl 4 rfl) ?_
  refine lv_aload_n hx hb dL_law_388 rfl (lv_at hl 2 rfl) ?_
  refine lv_iload hx hb dL_law_389 (lv_at hl 1 rfl) ?_
  refine lv_iconst (v := (1 : Int32)) hx hb dL_law_391 (by decide) ?_
  refine lv_iadd hx hb dL_law_392 ?_
  refine W.eq (congrArg (fun z => F0 m 393 ls (.int z :: [.ref b0, .ref (qo 0)])) (nI_add (3 * k) 1)) ?_
  refine va_sld hx hb hX hbl hbA hS (vp_in_nI (n := (3 * k + 1)) (by omega) (by omega)) dL_law_393 ?_
  refine W.eq (congrArg (fun z => F0 m 394 ls (.int (sc z) :: [.ref (qo 0)])) (nI_clamp (n := (3 * k + 1)) (by omega))) ?_
  refine lv_aload_n hx hb dL_law_394 rfl (lv_at hl 2 rfl) ?_
  refine lv_iload hx hb dL_law_395 (lv_at hl 1 rfl) ?_
  refine lv_iconst (v := (2 : Int32)) hx hb dL_law_397 (by decide) ?_
  refine lv_iadd hx hb dL_law_398 ?_
  refine W.eq (congrArg (fun z => F0 m 399 ls (.int z :: [.ref b0, .int (sc (3 * k + 1)), .ref (qo 0)])) (nI_add (3 * k) 2)) ?_
  refine va_sld hx hb hX hbl hbA hS (vp_in_nI (n := (3 * k + 2)) (by omega) (by omega)) dL_law_399 ?_
  refine W.eq (congrArg (fun z => F0 m 400 ls (.int (sc z) :: [.int (sc (3 * k + 1)), .ref (qo 0)])) (nI_clamp (n := (3 * k + 2)) (by omega))) ?_
  refine xk_calli ([cX h qb qt, cXB qb z_2.1, cA I (qb 1) 8 z_2.2.1, cXT qb z_2.2.2.1, cA I (qb 3) 40 (z_2.2.2.2 0), cA I (qb 4) 40 (z_2.2.2.2 1), cA I (qb 5) 40 (z_2.2.2.2 2), cA I (qb 6) 40 (z_2.2.2.2 3), cA I (qb 7) 40 (z_2.2.2.2 4), cA I (qb 8) 40 (z_2.2.2.2 5), cXB qt z_1.1.1, cA I (qt 1) 8 z_1.1.2.1, cXT qt z_1.1.2.2.1, cA I (qt 3) 40 (z_1.1.2.2.2 0), cA I (qt 4) 40 (z_1.1.2.2.2 1), cA I (qt 5) 40 (z_1.1.2.2.2 2), cA I (qt 6) 40 (z_1.1.2.2.2 3), cA I (qt 7) 40 (z_1.1.2.2.2 4), cA I (qt 8) 40 (z_1.1.2.2.2 5), cO J ao z_1.2]) ([cX h qb qt] ++ wB I qb z_2 ++ wB I qt z_1.1 ++ [cO J ao z_1.2] ++ wO I qo (qs 0) (qa 0) (s_X4_setCold o a (sc (3 * k + 1)) (sc (3 * k + 2))) ++ wS I qo qs a ++ wS I qo qa y) [20, 21, 22, 23, 24, 25, 26, 27, 28, 29, 30, 31, 32, 33, 34] [0, 1, 2, 3, 4, 5, 6, 7, 8, 9, 10, 11, 12, 13, 14, 15, 16, 17, 18, 19] [0, 1, 2, 3, 4, 5, 6, 7, 8, 9, 10, 11, 12, 13, 14, 15, 16, 17, 18, 19, 20, 21, 22, 23, 24, 25, 26, 27, 28, 29, 30, 31, 32, 33, 34] hP hD hS hA (va_runV (As := [.int (sc (3 * k + 1)), .int (sc (3 * k + 2))]) (rest := []) ⟨hx, hb, hml, hown, hts⟩ (c_X4_setCold l D I qo qs qa H.size o a y (sc (3 * k + 1)) (sc (3 * k + 2)) ) (cwV 2 hts gL_law_X4_setCold rfl rfl rfl (by decide +kernel) ⟨Nat.le_of_ble_eq_true rfl, Nat.le_of_ble_eq_true rfl⟩) (xk_preV (wc := wO I qo (qs 0) (qa 0) o ++ wS I qo qs a ++ wS I qo qa y) (q0 := 20) (ci := 4) hN hP hK1 hD [20, 21, 22, 23, 24, 25, 26, 27, 28, 29, 30, 31, 32, 33, 34] rfl rfl rfl rfl) rfl rfl hl.1 rfl (lv_room (Nat.le_of_ble_eq_true rfl)) dL_law_400 ⟨by show _ ≤ 601024; omega, by show _ ≤ 7293034; omega⟩) rfl rfl rfl (by decide) rfl rfl (fun H locs hP hD hS => ?_)
  generalize hz_3 : s_X4_setCold o a (sc (3 * k + 1)) (sc (3 * k + 2)) = z_3 at hP hD
  refine lv_istore (lv' := [(6, .int (r_X4_setCold o a (sc (3 * k + 1)) (sc (3 * k + 2)))), (5, .int (x_X2_setCold b (sc (3 * k + 1)) (sc (3 * k + 2)))), (4, .int (nI (3 * k))), (0, .ref b0), (1, .ref h), (2, .ref (qo 0)), (3, .ref ao)]) hx hb dL_law_403 hl (by decide) rfl (fun ls hl => ?_)
  refine lv_aload_n hx hb dL_law_405 rfl (lv_at hl 5 rfl) ?_
  refine xk_calli ([cX h qb qt, cXB qb z_2.1, cA I (qb 1) 8 z_2.2.1, cXT qb z_2.2.2.1, cA I (qb 3) 40 (z_2.2.2.2 0), cA I (qb 4) 40 (z_2.2.2.2 1), cA I (qb 5) 40 (z_2.2.2.2 2), cA I (qb 6) 40 (z_2.2.2.2 3), cA I (qb 7) 40 (z_2.2.2.2 4), cA I (qb 8) 40 (z_2.2.2.2 5), cXB qt z_1.1.1, cA I (qt 1) 8 z_1.1.2.1, cXT qt z_1.1.2.2.1, cA I (qt 3) 40 (z_1.1.2.2.2 0), cA I (qt 4) 40 (z_1.1.2.2.2 1), cA I (qt 5) 40 (z_1.1.2.2.2 2), cA I (qt 6) 40 (z_1.1.2.2.2 3), cA I (qt 7) 40 (z_1.1.2.2.2 4), cA I (qt 8) 40 (z_1.1.2.2.2 5), cO J ao z_1.2, cMS qo qs a.1, cA I (qs 1) 40 (a.2 0), cA I (qs 2) 40 (a.2 1), cA I (qs 3) 40 (a.2 2), cA I (qs 4) 40 (a.2 3), cMS qo qa y.1, cA I (qa 1) 40 (y.2 0), cA I (qa 2) 40 (y.2 1), cA I (qa 3) 40 (y.2 2), cA I (qa 4) 40 (y.2 3)]) ([cX h qb qt] ++ wB I qb z_2 ++ wB I qt z_1.1 ++ [cO J ao z_1.2] ++ wO I qo (qs 0) (qa 0) z_3 ++ wS I qo qs a ++ wS I qo qa y) [20, 21, 22, 23, 24] [0, 1, 2, 3, 4, 5, 6, 7, 8, 9, 10, 11, 12, 13, 14, 15, 16, 17, 18, 19, 25, 26, 27, 28, 29, 30, 31, 32, 33, 34] [0, 1, 2, 3, 4, 5, 6, 7, 8, 9, 10, 11, 12, 13, 14, 15, 16, 17, 18, 19, 30, 31, 32, 33, 34, 20, 21, 22, 23, 24, 25, 26, 27, 28, 29] hP hD hS hA (va_runV (As := []) (rest := []) ⟨hx, hb, hml, hown, hts⟩ (c_X4_thrown l D I qo (qs 0) (qa 0) H.size z_3 ) (cwV 0 hts gL_law_X4_thrown rfl rfl rfl (by decide +kernel) ⟨Nat.le_of_ble_eq_true rfl, Nat.le_of_ble_eq_true rfl⟩) (xk_preV (wc := wO I qo (qs 0) (qa 0) z_3) (q0 := 20) (ci := 4) hN hP hK1 hD [20, 21, 22, 23, 24] rfl rfl rfl rfl) rfl rfl hl.1 rfl (lv_room (Nat.le_of_ble_eq_true rfl)) dL_law_406 ⟨by show _ ≤ 601024; omega, by show _ ≤ 7293034; omega⟩) rfl rfl rfl (by decide) rfl rfl (fun H locs hP hD hS => ?_)
  refine lv_iload hx hb dL_law_409 (lv_at hl 1 rfl) ?_
  refine lv_icmp_eq (tgt := 416) hx hb dL_law_411 (by decide) (fun c_1 => ?_) (fun c_1 => ?_)
  · refine lv_iload hx hb dL_law_416 (lv_at hl 1 rfl) ?_
    refine lv_if_ne (tgt := 433) hx hb dL_law_418 (by decide) (fun c_2 => ?_) (fun c_2 => ?_)
    · refine lv_goto (tgt := 961) hx hb dL_law_433 (by decide) ?_
      subst hz_3
      subst hz_2
      refine W.widen (k := 40 + 300 * (k + 1)) (n := 1100 + 2100 * (k + 1)) (by omega) (by omega) ?_
      exact K _ _ _ _ _ _ a3 a4 _ _ hP hD hS ls (lv_sub hl [2, 3, 4, 5, 6] rfl)
    · refine lv_aload_n hx hb dL_law_421 rfl (lv_at hl 6 rfl) ?_
      refine lv_iconst (v := (0 : Int32)) hx hb dL_law_422 (by decide) ?_
      refine va_lald (f := z_1.2) hx hb hK hP 19 1 rfl rfl (vinN (n := 1) (by decide) (by decide)) dL_law_423 ?_
      refine W.eq (congrArg (fun z => F0 m 424 ls (.long (z_1.2 z) :: [])) (show (0 : Int32).toNatClampNeg = 0 by decide)) ?_
      refine lv_iload hx hb dL_law_424 (lv_at hl 0 rfl) ?_
      refine lv_i2l (v := (r_X4_setCold o a (sc (3 * k + 1)) (sc (3 * k + 2))).toInt64) hx hb dL_law_426 rfl ?_
      refine W.lcmp hx hb dL_law_427 ?_
      refine lv_if_eq (tgt := 433) hx hb dL_law_428 (by decide) (fun c_3 => ?_) (fun c_3 => ?_)
      · refine lv_goto (tgt := 961) hx hb dL_law_433 (by decide) ?_
        subst hz_3
        subst hz_2
        refine W.widen (k := 40 + 300 * (k + 1)) (n := 1100 + 2100 * (k + 1)) (by omega) (by omega) ?_
        exact K _ _ _ _ _ _ a3 a4 _ _ hP hD hS ls (lv_sub hl [2, 3, 4, 5, 6] rfl)
      · exact absurd (by rw [hk_1 c_2, a2 c_2]; exact lg_self _) c_3
  · exact absurd (by subst hz_3; subst hz_2; exact a1.symm) c_1

set_option maxHeartbeats 2000000 in
set_option maxRecDepth 100000 in
theorem law_crack (l : Launch) (hlt : l.stackTraces = false) {p : Program} {e : Env} {s : State} {m : MethodId} {below : List Frame} {meth : Method} {c : Code} {D : va_G} {I J : ClassId} {h ao : Nat} {qb qt qo qs qa : Nat → Nat} {b0 L : Nat} {sc : Nat → Int32} (hL : L ≤ 1536) (C0 : lw_At p s m meth c b0 L sc) (hK : va_K D vwCl [(I, .int), (J, .long)] s) (hN : xNw s) (hXX : xX (fun q : Nat => s.heap.size ≤ q) s s.heap) {k : Nat} (hk : 3 * k + 3 ≤ L) (b z : XBr) (o : MO) (a y : MS) (g : Nat → Int64) (hR : Rel b o a) (hmin : (b.1 0).toInt ≤ 240 * (k : Int)) (K : ∀ (b' z' : XBr) (o' : MO) (a' y' : MS) (g' : Nat → Int64), Rel b' o' a' → (b'.1 0).toInt ≤ 240 * ((k : Int) + 1) → ∀ (H : Heap) (locs : List Loc), va_P D vwCl ([cX h qb qt] ++ wB I qb (b') ++ wB I qt (z') ++ [cO J ao (g')] ++ wO I qo (qs 0) (qa 0) (o') ++ wS I qo qs (a') ++ wS I qo qa (y')) H → va_D (fun q : Nat => s.heap.size ≤ q) ([cX h qb qt] ++ wB I qb (b') ++ wB I qt (z') ++ [cO J ao (g')] ++ wO I qo (qs 0) (qa 0) (o') ++ wS I qo qs (a') ++ wS I qo qa (y')) → va_S (fun q : Nat => s.heap.size ≤ q) s.heap H locs → ∀ ls, lv_has ls 9 [(4, .int (nI (3 * k))), (0, .ref b0), (1, .ref h), (2, .ref (qo 0)), (3, .ref ao)] → W p l e room_1 s m #[Value.ref b0] below meth c H locs (40 + 300 * (k + 1)) (1100 + 2100 * (k + 1)) (lw_Z below #[Value.ref b0] s) (F0 m 961 ls [])) : ∀ (H : Heap) (locs : List Loc), va_P D vwCl ([cX h qb qt] ++ wB I qb b ++ wB I qt z ++ [cO J ao g] ++ wO I qo (qs 0) (qa 0) o ++ wS I qo qs a ++ wS I qo qa y) H → va_D (fun q : Nat => s.heap.size ≤ q) ([cX h qb qt] ++ wB I qb b ++ wB I qt z ++ [cO J ao g] ++ wO I qo (qs 0) (qa 0) o ++ wS I qo qs a ++ wS I qo qa y) → va_S (fun q : Nat => s.heap.size ≤ q) s.heap H locs → ∀ ls, lv_has ls 9 [(4, .int (nI (3 * k))), (0, .ref b0), (1, .ref h), (2, .ref (qo 0)), (3, .ref ao)] → W p l e room_1 s m #[Value.ref b0] below meth c H locs (40 + 300 * k) (1100 + 2100 * k) (lw_Z below #[Value.ref b0] s) (F0 m 436 ls []) := by
  obtain ⟨hx, hb, hr, hml, hown, hts0, hX, hbl, hlocks, hgv⟩ := C0
  have hts : ∀ w ∈ wsL_law, w.before #[Value.ref b0] s = true := fun w h => hts0 w (wsL_law_in w h)
  have hA : ∀ q : Nat, s.heap.size ≤ q → (fun q : Nat => s.heap.size ≤ q) q := fun _ h => h
  have hbA : ¬ (fun q : Nat => s.heap.size ≤ q) b0 := Nat.not_le.mpr hbl
  have hK1 : va_K D vwCl [(I, .int)] s := hK.sub [0] rfl
  have hm9 : (b.1 0).toInt < 1000000000 := by omega
  have hm8 : (b.1 0).toInt < 1000000 := by omega
  obtain ⟨a2, a3, a5⟩ := ag_crack hR
  have a4 : ((s_X2_crack b).1 0).toInt ≤ 240 * ((k : Int) + 1) := by rw [a5]; omega
  intro H locs hP hD hS ls hl
  refine lv_aload_n hx hb dL_law_436 rfl (lv_at hl 2 rfl) ?_
  refine xk_calli ([cO J ao g, cMO qo (qs 0) (qa 0) o.1, cA I (qo 1) 40 (o.2 0), cA I (qo 2) 40 (o.2 1), cA I (qo 3) 40 (o.2 2), cA I (qo 4) 8 (o.2 3), cMS qo qs a.1, cA I (qs 1) 40 (a.2 0), cA I (qs 2) 40 (a.2 1), cA I (qs 3) 40 (a.2 2), cA I (qs 4) 40 (a.2 3), cMS qo qa y.1, cA I (qa 1) 40 (y.2 0), cA I (qa 2) 40 (y.2 1), cA I (qa 3) 40 (y.2 2), cA I (qa 4) 40 (y.2 3)]) ([cX h qb qt] ++ wB I qb (s_X2_crack b) ++ wB I qt z ++ [cO J ao g] ++ wO I qo (qs 0) (qa 0) o ++ wS I qo qs a ++ wS I qo qa y) [0, 1, 2, 3, 4, 5, 6, 7, 8, 9, 10, 11, 12, 13, 14, 15, 16, 17, 18] [19, 20, 21, 22, 23, 24, 25, 26, 27, 28, 29, 30, 31, 32, 33, 34] [16, 17, 18, 19, 20, 21, 22, 23, 24, 25, 26, 27, 28, 29, 30, 31, 32, 33, 34, 0, 1, 2, 3, 4, 5, 6, 7, 8, 9, 10, 11, 12, 13, 14, 15] hP hD hS hA (va_runV (As := []) (rest := []) ⟨hx, hb, hml, hown, hts⟩ (c_X2_crack l D I h qb qt H.size b z ) (cwV 0 hts gL_law_X2_crack rfl rfl rfl (by decide +kernel) ⟨Nat.le_of_ble_eq_true rfl, Nat.le_of_ble_eq_true rfl⟩) (xk_preV (wc := [cX h qb qt] ++ wB I qb b ++ wB I qt z) (q0 := 0) (ci := 2) hN hP hK1 hD [0, 1, 2, 3, 4, 5, 6, 7, 8, 9, 10, 11, 12, 13, 14, 15, 16, 17, 18] rfl rfl rfl rfl) rfl rfl hl.1 rfl (lv_room (Nat.le_of_ble_eq_true rfl)) dL_law_437 ⟨by show _ ≤ 601024; omega, by show _ ≤ 7293034; omega⟩) rfl rfl rfl (by decide) rfl rfl (fun H locs hP hD hS => ?_)
  generalize hz_1 : s_X2_crack b = z_1 at hP hD
  refine lv_aload_n hx hb dL_law_440 rfl (lv_at hl 3 rfl) ?_
  refine xk_calli ([cX h qb qt, cXB qb z_1.1, cA I (qb 1) 8 z_1.2.1, cXT qb z_1.2.2.1, cA I (qb 3) 40 (z_1.2.2.2 0), cA I (qb 4) 40 (z_1.2.2.2 1), cA I (qb 5) 40 (z_1.2.2.2 2), cA I (qb 6) 40 (z_1.2.2.2 3), cA I (qb 7) 40 (z_1.2.2.2 4), cA I (qb 8) 40 (z_1.2.2.2 5), cXB qt z.1, cA I (qt 1) 8 z.2.1, cXT qt z.2.2.1, cA I (qt 3) 40 (z.2.2.2 0), cA I (qt 4) 40 (z.2.2.2 1), cA I (qt 5) 40 (z.2.2.2 2), cA I (qt 6) 40 (z.2.2.2 3), cA I (qt 7) 40 (z.2.2.2 4), cA I (qt 8) 40 (z.2.2.2 5), cO J ao g]) ([cX h qb qt] ++ wB I qb z_1 ++ wB I qt z ++ [cO J ao g] ++ wO I qo (qs 0) (qa 0) ((s_X4_crack o a).1) ++ wS I qo qs ((s_X4_crack o a).2) ++ wS I qo qa y) [20, 21, 22, 23, 24, 25, 26, 27, 28, 29, 30, 31, 32, 33, 34] [0, 1, 2, 3, 4, 5, 6, 7, 8, 9, 10, 11, 12, 13, 14, 15, 16, 17, 18, 19] [0, 1, 2, 3, 4, 5, 6, 7, 8, 9, 10, 11, 12, 13, 14, 15, 16, 17, 18, 19, 20, 21, 22, 23, 24, 25, 26, 27, 28, 29, 30, 31, 32, 33, 34] hP hD hS hA (va_runV (As := []) (rest := [.int (r_X2_crack b)]) ⟨hx, hb, hml, hown, hts⟩ (c_X4_crack l D I qo qs qa H.size o a y ) (cwV 0 hts gL_law_X4_crack rfl rfl rfl (by decide +kernel) ⟨Nat.le_of_ble_eq_true rfl, Nat.le_of_ble_eq_true rfl⟩) (xk_preV (wc := wO I qo (qs 0) (qa 0) o ++ wS I qo qs a ++ wS I qo qa y) (q0 := 20) (ci := 4) hN hP hK1 hD [20, 21, 22, 23, 24, 25, 26, 27, 28, 29, 30, 31, 32, 33, 34] rfl rfl rfl rfl) rfl rfl hl.1 rfl (lv_room (Nat.le_of_ble_eq_true rfl)) dL_law_441 ⟨by show _ ≤ 601024; omega, by show _ ≤ 7293034; omega⟩) rfl rfl rfl (by decide) rfl rfl (fun H locs hP hD hS => ?_)
  generalize hz_2 : s_X4_crack o a = z_2 at hP hD
  refine lv_icmp_eq (tgt := 961) hx hb dL_law_444 (by decide) (fun c_1 => ?_) (fun c_1 => ?_)
  · subst hz_2
    subst hz_1
    refine W.widen (k := 40 + 300 * (k + 1)) (n := 1100 + 2100 * (k + 1)) (by omega) (by omega) ?_
    exact K _ _ _ _ _ _ a3 a4 _ _ hP hD hS ls (lv_sub hl [0, 1, 2, 3, 4] rfl)
  · exact absurd a2 c_1

set_option maxHeartbeats 2000000 in
set_option maxRecDepth 100000 in
theorem law_traveller (l : Launch) (hlt : l.stackTraces = false) {p : Program} {e : Env} {s : State} {m : MethodId} {below : List Frame} {meth : Method} {c : Code} {D : va_G} {I J : ClassId} {h ao : Nat} {qb qt qo qs qa : Nat → Nat} {b0 L : Nat} {sc : Nat → Int32} (hL : L ≤ 1536) (C0 : lw_At p s m meth c b0 L sc) (hK : va_K D vwCl [(I, .int), (J, .long)] s) (hN : xNw s) (hXX : xX (fun q : Nat => s.heap.size ≤ q) s s.heap) {k : Nat} (hk : 3 * k + 3 ≤ L) (b z : XBr) (o : MO) (a y : MS) (g : Nat → Int64) (hR : Rel b o a) (hmin : (b.1 0).toInt ≤ 240 * (k : Int)) (K : ∀ (b' z' : XBr) (o' : MO) (a' y' : MS) (g' : Nat → Int64), Rel b' o' a' → (b'.1 0).toInt ≤ 240 * ((k : Int) + 1) → ∀ (H : Heap) (locs : List Loc), va_P D vwCl ([cX h qb qt] ++ wB I qb (b') ++ wB I qt (z') ++ [cO J ao (g')] ++ wO I qo (qs 0) (qa 0) (o') ++ wS I qo qs (a') ++ wS I qo qa (y')) H → va_D (fun q : Nat => s.heap.size ≤ q) ([cX h qb qt] ++ wB I qb (b') ++ wB I qt (z') ++ [cO J ao (g')] ++ wO I qo (qs 0) (qa 0) (o') ++ wS I qo qs (a') ++ wS I qo qa (y')) → va_S (fun q : Nat => s.heap.size ≤ q) s.heap H locs → ∀ ls, lv_has ls 9 [(4, .int (nI (3 * k))), (0, .ref b0), (1, .ref h), (2, .ref (qo 0)), (3, .ref ao)] → W p l e room_1 s m #[Value.ref b0] below meth c H locs (40 + 300 * (k + 1)) (1100 + 2100 * (k + 1)) (lw_Z below #[Value.ref b0] s) (F0 m 961 ls [])) : ∀ (H : Heap) (locs : List Loc), va_P D vwCl ([cX h qb qt] ++ wB I qb b ++ wB I qt z ++ [cO J ao g] ++ wO I qo (qs 0) (qa 0) o ++ wS I qo qs a ++ wS I qo qa y) H → va_D (fun q : Nat => s.heap.size ≤ q) ([cX h qb qt] ++ wB I qb b ++ wB I qt z ++ [cO J ao g] ++ wO I qo (qs 0) (qa 0) o ++ wS I qo qs a ++ wS I qo qa y) → va_S (fun q : Nat => s.heap.size ≤ q) s.heap H locs → ∀ ls, lv_has ls 9 [(4, .int (nI (3 * k))), (0, .ref b0), (1, .ref h), (2, .ref (qo 0)), (3, .ref ao)] → W p l e room_1 s m #[Value.ref b0] below meth c H locs (40 + 300 * k) (1100 + 2100 * k) (lw_Z below #[Value.ref b0] s) (F0 m 449 ls []) := by
  obtain ⟨hx, hb, hr, hml, hown, hts0, hX, hbl, hlocks, hgv⟩ := C0
  have hts : ∀ w ∈ wsL_law, w.before #[Value.ref b0] s = true := fun w h => hts0 w (wsL_law_in w h)
  have hA : ∀ q : Nat, s.heap.size ≤ q → (fun q : Nat => s.heap.size ≤ q) q := fun _ h => h
  have hbA : ¬ (fun q : Nat => s.heap.size ≤ q) b0 := Nat.not_le.mpr hbl
  have hK1 : va_K D vwCl [(I, .int)] s := hK.sub [0] rfl
  have hm9 : (b.1 0).toInt < 1000000000 := by omega
  have hm8 : (b.1 0).toInt < 1000000 := by omega
  obtain ⟨a1, a2, a3, a4'⟩ := ag_traveller hR hm8 (sc (3 * k + 1)) (sc (3 * k + 2))
  have a4 := Int.le_trans a4' (show (b.1 0).toInt + 240 ≤ 240 * ((k : Int) + 1) by omega)
  intro H locs hP hD hS ls hl
  refine lv_aload_n hx hb dL_law_449 rfl (lv_at hl 2 rfl) ?_
  refine lv_aload_n hx hb dL_law_450 rfl (lv_at hl 1 rfl) ?_
  refine lv_iload hx hb dL_law_451 (lv_at hl 0 rfl) ?_
  refine lv_iconst (v := (1 : Int32)) hx hb dL_law_453 (by decide) ?_
  refine lv_iadd hx hb dL_law_454 ?_
  refine W.eq (congrArg (fun z => F0 m 455 ls (.int z :: [.ref b0, .ref h])) (nI_add (3 * k) 1)) ?_
  refine va_sld hx hb hX hbl hbA hS (vp_in_nI (n := (3 * k + 1)) (by omega) (by omega)) dL_law_455 ?_
  refine W.eq (congrArg (fun z => F0 m 456 ls (.int (sc z) :: [.ref h])) (nI_clamp (n := (3 * k + 1)) (by omega))) ?_
  refine lv_aload_n hx hb dL_law_456 rfl (lv_at hl 1 rfl) ?_
  refine lv_iload hx hb dL_law_457 (lv_at hl 0 rfl) ?_
  refine lv_iconst (v := (2 : Int32)) hx hb dL_law_459 (by decide) ?_
  refine lv_iadd hx hb dL_law_460 ?_
  refine W.eq (congrArg (fun z => F0 m 461 ls (.int z :: [.ref b0, .int (sc (3 * k + 1)), .ref h])) (nI_add (3 * k) 2)) ?_
  refine va_sld hx hb hX hbl hbA hS (vp_in_nI (n := (3 * k + 2)) (by omega) (by omega)) dL_law_461 ?_
  refine W.eq (congrArg (fun z => F0 m 462 ls (.int (sc z) :: [.int (sc (3 * k + 1)), .ref h])) (nI_clamp (n := (3 * k + 2)) (by omega))) ?_
  refine lv_aload_n hx hb dL_law_462 rfl (lv_at hl 4 rfl) ?_
  refine xk_callL ([cMO qo (qs 0) (qa 0) o.1, cA I (qo 1) 40 (o.2 0), cA I (qo 2) 40 (o.2 1), cA I (qo 3) 40 (o.2 2), cA I (qo 4) 8 (o.2 3), cMS qo qs a.1, cA I (qs 1) 40 (a.2 0), cA I (qs 2) 40 (a.2 1), cA I (qs 3) 40 (a.2 2), cA I (qs 4) 40 (a.2 3), cMS qo qa y.1, cA I (qa 1) 40 (y.2 0), cA I (qa 2) 40 (y.2 1), cA I (qa 3) 40 (y.2 2), cA I (qa 4) 40 (y.2 3)]) (fun v : XBr × (Nat → Int64) => [cX h qb qt] ++ wB I qb b ++ wB I qt v.1 ++ [cO J ao v.2] ++ wO I qo (qs 0) (qa 0) o ++ wS I qo qs a ++ wS I qo qa y) [0, 1, 2, 3, 4, 5, 6, 7, 8, 9, 10, 11, 12, 13, 14, 15, 16, 17, 18, 19] [20, 21, 22, 23, 24, 25, 26, 27, 28, 29, 30, 31, 32, 33, 34] [15, 16, 17, 18, 19, 20, 21, 22, 23, 24, 25, 26, 27, 28, 29, 30, 31, 32, 33, 34, 0, 1, 2, 3, 4, 5, 6, 7, 8, 9, 10, 11, 12, 13, 14] hP hD hS hA (vx_runSX (As := [.ref h, .int (sc (3 * k + 1)), .int (sc (3 * k + 2)), .ref ao]) (rest := []) ⟨hx, hb, hml, hown, hts⟩ (c_L_traveller l hlt D I J h qb qt ao H.size b z g (sc (3 * k + 1)) (sc (3 * k + 2)) hR.nB) (vx_cwSW 4 hts gL_law_L_traveller rfl rfl rfl (by decide +kernel) ⟨Nat.le_of_ble_eq_true rfl, Nat.le_of_ble_eq_true rfl⟩) (xk_preX (wc := [cX h qb qt] ++ wB I qb b ++ wB I qt z ++ [cO J ao g]) hN hXX hS hA hP hK hD [0, 1, 2, 3, 4, 5, 6, 7, 8, 9, 10, 11, 12, 13, 14, 15, 16, 17, 18, 19] rfl rfl) rfl rfl hl.1 rfl (lv_room (Nat.le_of_ble_eq_true rfl)) dL_law_463 ⟨by show _ ≤ 601024; omega, by show _ ≤ 7293034; omega⟩) rfl rfl rfl (by decide) rfl (fun _ => rfl) (fun z_1 H locs hk_1 hP hD hS => ?_)
  have hP : va_P D vwCl ([cX h qb qt] ++ wB I qb b ++ wB I qt z_1.1 ++ [cO J ao z_1.2] ++ wO I qo (qs 0) (qa 0) o ++ wS I qo qs a ++ wS I qo qa y) H := hP
  have hD : va_D (fun q : Nat => s.heap.size ≤ q) ([cX h qb qt] ++ wB I qb b ++ wB I qt z_1.1 ++ [cO J ao z_1.2] ++ wO I qo (qs 0) (qa 0) o ++ wS I qo qs a ++ wS I qo qa y) := hD
  refine lv_istore (lv' := [(5, .int (x_X2_traveller b (sc (3 * k + 1)) (sc (3 * k + 2)))), (4, .int (nI (3 * k))), (0, .ref b0), (1, .ref h), (2, .ref (qo 0)), (3, .ref ao)]) hx hb dL_law_466 hl (by decide) rfl (fun ls hl => ?_)
  refine lv_aload_n hx hb dL_law_468 rfl (lv_at hl 4 rfl) ?_
  refine lv_aload_n hx hb dL_law_469 rfl (lv_at hl 2 rfl) ?_
  refine lv_iload hx hb dL_law_470 (lv_at hl 1 rfl) ?_
  refine lv_iconst (v := (1 : Int32)) hx hb dL_law_472 (by decide) ?_
  refine lv_iadd hx hb dL_law_473 ?_
  refine W.eq (congrArg (fun z => F0 m 474 ls (.int z :: [.ref b0, .ref (qo 0)])) (nI_add (3 * k) 1)) ?_
  refine va_sld hx hb hX hbl hbA hS (vp_in_nI (n := (3 * k + 1)) (by omega) (by omega)) dL_law_474 ?_
  refine W.eq (congrArg (fun z => F0 m 475 ls (.int (sc z) :: [.ref (qo 0)])) (nI_clamp (n := (3 * k + 1)) (by omega))) ?_
  refine lv_aload_n hx hb dL_law_475 rfl (lv_at hl 2 rfl) ?_
  refine lv_iload hx hb dL_law_476 (lv_at hl 1 rfl) ?_
  refine lv_iconst (v := (2 : Int32)) hx hb dL_law_478 (by decide) ?_
  refine lv_iadd hx hb dL_law_479 ?_
  refine W.eq (congrArg (fun z => F0 m 480 ls (.int z :: [.ref b0, .int (sc (3 * k + 1)), .ref (qo 0)])) (nI_add (3 * k) 2)) ?_
  refine va_sld hx hb hX hbl hbA hS (vp_in_nI (n := (3 * k + 2)) (by omega) (by omega)) dL_law_480 ?_
  refine W.eq (congrArg (fun z => F0 m 481 ls (.int (sc z) :: [.int (sc (3 * k + 1)), .ref (qo 0)])) (nI_clamp (n := (3 * k + 2)) (by omega))) ?_
  refine xk_calli ([cX h qb qt, cXB qb b.1, cA I (qb 1) 8 b.2.1, cXT qb b.2.2.1, cA I (qb 3) 40 (b.2.2.2 0), cA I (qb 4) 40 (b.2.2.2 1), cA I (qb 5) 40 (b.2.2.2 2), cA I (qb 6) 40 (b.2.2.2 3), cA I (qb 7) 40 (b.2.2.2 4), cA I (qb 8) 40 (b.2.2.2 5), cXB qt z_1.1.1, cA I (qt 1) 8 z_1.1.2.1, cXT qt z_1.1.2.2.1, cA I (qt 3) 40 (z_1.1.2.2.2 0), cA I (qt 4) 40 (z_1.1.2.2.2 1), cA I (qt 5) 40 (z_1.1.2.2.2 2), cA I (qt 6) 40 (z_1.1.2.2.2 3), cA I (qt 7) 40 (z_1.1.2.2.2 4), cA I (qt 8) 40 (z_1.1.2.2.2 5), cO J ao z_1.2]) ([cX h qb qt] ++ wB I qb b ++ wB I qt z_1.1 ++ [cO J ao z_1.2] ++ wO I qo (qs 0) (qa 0) (s_X4_traveller o a (sc (3 * k + 1)) (sc (3 * k + 2))) ++ wS I qo qs a ++ wS I qo qa y) [20, 21, 22, 23, 24, 25, 26, 27, 28, 29, 30, 31, 32, 33, 34] [0, 1, 2, 3, 4, 5, 6, 7, 8, 9, 10, 11, 12, 13, 14, 15, 16, 17, 18, 19] [0, 1, 2, 3, 4, 5, 6, 7, 8, 9, 10, 11, 12, 13, 14, 15, 16, 17, 18, 19, 20, 21, 22, 23, 24, 25, 26, 27, 28, 29, 30, 31, 32, 33, 34] hP hD hS hA (va_runV (As := [.int (sc (3 * k + 1)), .int (sc (3 * k + 2))]) (rest := []) ⟨hx, hb, hml, hown, hts⟩ (c_X4_traveller l D I qo qs qa H.size o a y (sc (3 * k + 1)) (sc (3 * k + 2)) hR.nO) (cwV 2 hts gL_law_X4_traveller rfl rfl rfl (by decide +kernel) ⟨Nat.le_of_ble_eq_true rfl, Nat.le_of_ble_eq_true rfl⟩) (xk_preV (wc := wO I qo (qs 0) (qa 0) o ++ wS I qo qs a ++ wS I qo qa y) (q0 := 20) (ci := 4) hN hP hK1 hD [20, 21, 22, 23, 24, 25, 26, 27, 28, 29, 30, 31, 32, 33, 34] rfl rfl rfl rfl) rfl rfl hl.1 rfl (lv_room (Nat.le_of_ble_eq_true rfl)) dL_law_481 ⟨by show _ ≤ 601024; omega, by show _ ≤ 7293034; omega⟩) rfl rfl rfl (by decide) rfl rfl (fun H locs hP hD hS => ?_)
  generalize hz_2 : s_X4_traveller o a (sc (3 * k + 1)) (sc (3 * k + 2)) = z_2 at hP hD
  refine lv_istore (lv' := [(6, .int (r_X4_traveller o a (sc (3 * k + 1)) (sc (3 * k + 2)))), (5, .int (x_X2_traveller b (sc (3 * k + 1)) (sc (3 * k + 2)))), (4, .int (nI (3 * k))), (0, .ref b0), (1, .ref h), (2, .ref (qo 0)), (3, .ref ao)]) hx hb dL_law_484 hl (by decide) rfl (fun ls hl => ?_)
  refine lv_aload_n hx hb dL_law_486 rfl (lv_at hl 5 rfl) ?_
  refine xk_calli ([cX h qb qt, cXB qb b.1, cA I (qb 1) 8 b.2.1, cXT qb b.2.2.1, cA I (qb 3) 40 (b.2.2.2 0), cA I (qb 4) 40 (b.2.2.2 1), cA I (qb 5) 40 (b.2.2.2 2), cA I (qb 6) 40 (b.2.2.2 3), cA I (qb 7) 40 (b.2.2.2 4), cA I (qb 8) 40 (b.2.2.2 5), cXB qt z_1.1.1, cA I (qt 1) 8 z_1.1.2.1, cXT qt z_1.1.2.2.1, cA I (qt 3) 40 (z_1.1.2.2.2 0), cA I (qt 4) 40 (z_1.1.2.2.2 1), cA I (qt 5) 40 (z_1.1.2.2.2 2), cA I (qt 6) 40 (z_1.1.2.2.2 3), cA I (qt 7) 40 (z_1.1.2.2.2 4), cA I (qt 8) 40 (z_1.1.2.2.2 5), cO J ao z_1.2, cMS qo qs a.1, cA I (qs 1) 40 (a.2 0), cA I (qs 2) 40 (a.2 1), cA I (qs 3) 40 (a.2 2), cA I (qs 4) 40 (a.2 3), cMS qo qa y.1, cA I (qa 1) 40 (y.2 0), cA I (qa 2) 40 (y.2 1), cA I (qa 3) 40 (y.2 2), cA I (qa 4) 40 (y.2 3)]) ([cX h qb qt] ++ wB I qb b ++ wB I qt z_1.1 ++ [cO J ao z_1.2] ++ wO I qo (qs 0) (qa 0) z_2 ++ wS I qo qs a ++ wS I qo qa y) [20, 21, 22, 23, 24] [0, 1, 2, 3, 4, 5, 6, 7, 8, 9, 10, 11, 12, 13, 14, 15, 16, 17, 18, 19, 25, 26, 27, 28, 29, 30, 31, 32, 33, 34] [0, 1, 2, 3, 4, 5, 6, 7, 8, 9, 10, 11, 12, 13, 14, 15, 16, 17, 18, 19, 30, 31, 32, 33, 34, 20, 21, 22, 23, 24, 25, 26, 27, 28, 29] hP hD hS hA (va_runV (As := []) (rest := []) ⟨hx, hb, hml, hown, hts⟩ (c_X4_thrown l D I qo (qs 0) (qa 0) H.size z_2 ) (cwV 0 hts gL_law_X4_thrown rfl rfl rfl (by decide +kernel) ⟨Nat.le_of_ble_eq_true rfl, Nat.le_of_ble_eq_true rfl⟩) (xk_preV (wc := wO I qo (qs 0) (qa 0) z_2) (q0 := 20) (ci := 4) hN hP hK1 hD [20, 21, 22, 23, 24] rfl rfl rfl rfl) rfl rfl hl.1 rfl (lv_room (Nat.le_of_ble_eq_true rfl)) dL_law_487 ⟨by show _ ≤ 601024; omega, by show _ ≤ 7293034; omega⟩) rfl rfl rfl (by decide) rfl rfl (fun H locs hP hD hS => ?_)
  refine lv_iload hx hb dL_law_490 (lv_at hl 1 rfl) ?_
  refine lv_icmp_eq (tgt := 497) hx hb dL_law_492 (by decide) (fun c_1 => ?_) (fun c_1 => ?_)
  · refine lv_iload hx hb dL_law_497 (lv_at hl 1 rfl) ?_
    refine lv_if_ne (tgt := 514) hx hb dL_law_499 (by decide) (fun c_2 => ?_) (fun c_2 => ?_)
    · refine lv_goto (tgt := 961) hx hb dL_law_514 (by decide) ?_
      subst hz_2
      refine W.widen (k := 40 + 300 * (k + 1)) (n := 1100 + 2100 * (k + 1)) (by omega) (by omega) ?_
      exact K _ _ _ _ _ _ a3 a4 _ _ hP hD hS ls (lv_sub hl [2, 3, 4, 5, 6] rfl)
    · refine lv_aload_n hx hb dL_law_502 rfl (lv_at hl 6 rfl) ?_
      refine lv_iconst (v := (0 : Int32)) hx hb dL_law_503 (by decide) ?_
      refine va_lald (f := z_1.2) hx hb hK hP 19 1 rfl rfl (vinN (n := 1) (by decide) (by decide)) dL_law_504 ?_
      refine W.eq (congrArg (fun z => F0 m 505 ls (.long (z_1.2 z) :: [])) (show (0 : Int32).toNatClampNeg = 0 by decide)) ?_
      refine lv_iload hx hb dL_law_505 (lv_at hl 0 rfl) ?_
      refine lv_i2l (v := (r_X4_traveller o a (sc (3 * k + 1)) (sc (3 * k + 2))).toInt64) hx hb dL_law_507 rfl ?_
      refine W.lcmp hx hb dL_law_508 ?_
      refine lv_if_eq (tgt := 514) hx hb dL_law_509 (by decide) (fun c_3 => ?_) (fun c_3 => ?_)
      · refine lv_goto (tgt := 961) hx hb dL_law_514 (by decide) ?_
        subst hz_2
        refine W.widen (k := 40 + 300 * (k + 1)) (n := 1100 + 2100 * (k + 1)) (by omega) (by omega) ?_
        exact K _ _ _ _ _ _ a3 a4 _ _ hP hD hS ls (lv_sub hl [2, 3, 4, 5, 6] rfl)
      · exact absurd (by rw [hk_1 c_2, a2 c_2]; exact lg_self _) c_3
  · exact absurd (by subst hz_2; exact a1.symm) c_1

