def m_d1 (o : MO) (a : MS) : Nat → Int64
  | 0 => 1021
  | k + 1 => m_d1 o a k * 31 + (r_X3_counted o a (nI k)).toInt64
def m_d2 (f : Nat → Int32) (d : Int64) : Nat → Int64
  | 0 => d
  | k + 1 => m_d2 f d k * 31 + (f k).toInt64
def m_d3i (o : MO) (a : MS) (k : Nat) (d : Int64) : Nat → Int64
  | 0 => d
  | j + 1 => m_d3i o a k d j * 31 + (r_X4_told o a (nI k) (nI j)).toInt64
def m_d3 (o : MO) (a : MS) (d : Int64) : Nat → Int64
  | 0 => d
  | k + 1 => m_d3i o a k (m_d3 o a d k) 7
def m_dig (o : MO) (a : MS) : Int64 := m_d3 o a (m_d2 (o.2 3) (m_d1 o a 12) 8) (o.1 1).toNatClampNeg
def r_X4_digest (o : MO) (a : MS) : Int64 := m_dig (xs o.1 0 (0 : Int32), o.2) a
def s_X4_digest (o : MO) (a : MS) : MO := (xs o.1 0 (0 : Int32), o.2)

set_option maxHeartbeats 800000 in
set_option maxRecDepth 100000 in
theorem c_X4_digest (l : Launch) (D : va_G) (I : ClassId) (qo qs qa : Nat → Nat) (sz : Nat) (o : MO) (a : MS) (z : MS) (hn : nOk (o.1 1)) : xMl l D [(I, .int)] yX4_digest wsX4_digest { frames := 3, cells := 280, slots := 1960, locals := 64 } [.ref (qo 0)] sz (wO I qo (qs 0) (qa 0) o ++ wS I qo qs a ++ wS I qo qa z) (r_X4_digest o a) (wO I qo (qs 0) (qa 0) (s_X4_digest o a) ++ wS I qo qs a ++ wS I qo qa z) 280 1960 := by
  refine xk_start (cc := cX4_digest) (maxL := 5) (ret := (some .long)) (Qf := fun A => xQl D [(I, .int)] A (r_X4_digest o a) (wO I qo (qs 0) (qa 0) (s_X4_digest o a) ++ wS I qo qs a ++ wS I qo qa z)) (by decide) rfl (Nat.le_of_ble_eq_true rfl) ?_
  intro p e s m below meth c A H ls hst hAe hsz hl
  obtain ⟨hx, hb, hr, hts, hown, hlocks, hml, hin, hN, hK, hP, hD, hA, hS⟩ := hst
  have hl : lv_has ls 5 [(0, .ref (qo 0))] := hl
  have hP : va_P D vwCl (wO I qo (qs 0) (qa 0) o ++ wS I qo qs a ++ wS I qo qa z) H := hP
  have hinX4 : ∀ w ∈ u_ws RX4 TX4 8, w ∈ wsX4_digest := by decide +kernel
  have w_1 := hts (.fieldLink RX4 34 "BridgeBellsModel" "thrown" "I") (by decide +kernel)
  have w_2 := hts (.constantLong RX4 117 (1021)) (by decide +kernel)
  have w_3 := hts (.fieldLink RX4 38 "BridgeBellsModel" "travellers" "I") (by decide +kernel)
  have w_4 := hts (.constantLong RX4 119 (31)) (by decide +kernel)
  have w_5 := hts (.fieldLink RX4 19 "BridgeBellsModel" "cold" "[I") (by decide +kernel)
  have w_6 := hts (.fieldLink RX4 27 "BridgeBellsModel" "s" "LBridgeBellsModel$State;") (by decide +kernel)
  have hN1 : o.1 1 = nI (o.1 1).toNatClampNeg := nOk_nI hn
  have hN40 : (o.1 1).toNatClampNeg ≤ 40 := nOk_le hn
  refine lv_aload_n hx hb dX4_digest_0 rfl (lv_at hl 0 rfl) ?_
  refine lv_iconst (v := (0 : Int32)) hx hb dX4_digest_1 (by decide) ?_
  refine va_put (D := D) (ci := 4) (v := .int (0 : Int32)) (ty := tyX4 0) (C := RX4) (T := TX4) (N := 8) hx hb hts hinX4 tyX4 tyX4_ok nmX4 hown hK hP hD hS 0 rfl rfl 0 (by decide) w_1 (fun _ h9 => h9) rfl (tyX4_ok 0 (by decide)) rfl rfl (Nat.le_of_ble_eq_true rfl) dX4_digest_2 (fun H locs hP hD hS => ?_)
  have hP : va_P D vwCl (wO I qo (qs 0) (qa 0) (xs o.1 0 (0 : Int32), o.2) ++ wS I qo qs a ++ wS I qo qa z) H := hP
  have hD : va_D A (wO I qo (qs 0) (qa 0) (xs o.1 0 (0 : Int32), o.2) ++ wS I qo qs a ++ wS I qo qa z) := hD
  refine lv_ldc2 (v := (1021 : Int64)) hx hb hown w_2 dX4_digest_5 ?_
  refine lv_lstore_n (lv' := [(1, .long (1021 : Int64)), (0, .ref (qo 0))]) hx hb dX4_digest_8 rfl hl (by decide) rfl (fun ls hl => ?_)
  refine lv_iconst (v := (0 : Int32)) hx hb dX4_digest_9 (by decide) ?_
  refine lv_istore_n (lv' := [(3, .int (0 : Int32)), (1, .long (1021 : Int64)), (0, .ref (qo 0))]) hx hb dX4_digest_10 rfl hl (by decide) rfl (fun ls hl => ?_)
  have loop3 : ∀ (r k : Nat), r + k = (o.1 1).toNatClampNeg → ∀ (H : Heap) (locs : List Loc), va_P D vwCl (wO I qo (qs 0) (qa 0) (xs o.1 0 (0 : Int32), o.2) ++ wS I qo qs a ++ wS I qo qa z) H → va_D A (wO I qo (qs 0) (qa 0) (xs o.1 0 (0 : Int32), o.2) ++ wS I qo qs a ++ wS I qo qa z) → va_S A s.heap H locs → ∀ ls, lv_has ls 5 [(3, .int (nI k)), (1, .long (m_d3 (xs o.1 0 (0 : Int32), o.2) a (m_d2 (o.2 3) (m_d1 (xs o.1 0 (0 : Int32), o.2) a 12) 8) k)), (0, .ref (qo 0))] → W p l e { frames := 3, cells := 280, slots := 1960, locals := 64 } s m #[.ref (qo 0)] below meth c H locs (7 * k) (49 * k) (MQ below (xQl D [(I, .int)] A (m_dig (xs o.1 0 (0 : Int32), o.2) a) (wO I qo (qs 0) (qa 0) (xs o.1 0 (0 : Int32), o.2) ++ wS I qo qs a ++ wS I qo qa z)) #[.ref (qo 0)] s 280 1960 A) (F0 m 69 ls []) := by
    intro r
    induction r with
    | zero =>
      intro k hk H locs hP hD hS ls hl
      refine lv_iload_n hx hb dX4_digest_69 rfl (lv_at hl 0 rfl) ?_
      refine lv_aload_n hx hb dX4_digest_70 rfl (lv_at hl 2 rfl) ?_
      refine va_get (D := D) (ci := 4) (v := .int (o.1 1)) (C := RX4) (T := TX4) (N := 8) hx hb hts hinX4 hown hK hP 0 rfl rfl 1 (by decide) w_3 (fun _ h9 => h9) rfl dX4_digest_71 ?_
      refine lv_icmp_ge (tgt := 114) hx hb dX4_digest_74 (by decide) (fun c_1 => ?_) (fun c_1 => ?_)
      · refine lv_lload_n hx hb dX4_digest_114 rfl (lv_at hl 1 rfl) ?_
        refine W.widen (k := 280) (n := 1960) (by omega) (by omega) ?_
        exact xk_lret (wf := fun z : MO × MS × MS => wO I qo (qs 0) (qa 0) z.1 ++ wS I qo qs z.2.1 ++ wS I qo qa z.2.2) (u := ((xs o.1 0 (0 : Int32), o.2), a, z)) (u1 := ((xs o.1 0 (0 : Int32), o.2), a, z)) hx hb hr hlocks hP hK hD hS (by show _ = m_d3 (xs o.1 0 (0 : Int32), o.2) a (m_d2 (o.2 3) (m_d1 (xs o.1 0 (0 : Int32), o.2) a 12) 8) (o.1 1).toNatClampNeg; rw [show k = (o.1 1).toNatClampNeg by omega]) rfl dX4_digest_115
      · exact absurd (by rw [hN1]; exact nI_le (by omega) (by omega)) c_1
    | succ r ih =>
      intro k hk H locs hP hD hS ls hl
      refine lv_iload_n hx hb dX4_digest_69 rfl (lv_at hl 0 rfl) ?_
      refine lv_aload_n hx hb dX4_digest_70 rfl (lv_at hl 2 rfl) ?_
      refine va_get (D := D) (ci := 4) (v := .int (o.1 1)) (C := RX4) (T := TX4) (N := 8) hx hb hts hinX4 hown hK hP 0 rfl rfl 1 (by decide) w_3 (fun _ h9 => h9) rfl dX4_digest_71 ?_
      refine lv_icmp_ge (tgt := 114) hx hb dX4_digest_74 (by decide) (fun c_2 => ?_) (fun c_2 => ?_)
      · exact absurd c_2 (by rw [hN1]; exact nI_ge (by omega) (by omega))
      · refine lv_iconst (v := (0 : Int32)) hx hb dX4_digest_77 (by decide) ?_
        refine lv_istore (lv' := [(4, .int (0 : Int32)), (3, .int (nI k)), (1, .long (m_d3 (xs o.1 0 (0 : Int32), o.2) a (m_d2 (o.2 3) (m_d1 (xs o.1 0 (0 : Int32), o.2) a 12) 8) k)), (0, .ref (qo 0))]) hx hb dX4_digest_78 hl (by decide) rfl (fun ls hl => ?_)
        have inner : ∀ (r2 j : Nat), r2 + j = 7 → ∀ (H : Heap) (locs : List Loc), va_P D vwCl (wO I qo (qs 0) (qa 0) (xs o.1 0 (0 : Int32), o.2) ++ wS I qo qs a ++ wS I qo qa z) H → va_D A (wO I qo (qs 0) (qa 0) (xs o.1 0 (0 : Int32), o.2) ++ wS I qo qs a ++ wS I qo qa z) → va_S A s.heap H locs → ∀ ls, lv_has ls 5 [(4, .int (nI j)), (1, .long (m_d3i (xs o.1 0 (0 : Int32), o.2) a k (m_d3 (xs o.1 0 (0 : Int32), o.2) a (m_d2 (o.2 3) (m_d1 (xs o.1 0 (0 : Int32), o.2) a 12) 8) k) j)), (3, .int (nI k)), (0, .ref (qo 0))] → W p l e { frames := 3, cells := 280, slots := 1960, locals := 64 } s m #[.ref (qo 0)] below meth c H locs (7 * k + j) (49 * k + 7 * j) (MQ below (xQl D [(I, .int)] A (m_dig (xs o.1 0 (0 : Int32), o.2) a) (wO I qo (qs 0) (qa 0) (xs o.1 0 (0 : Int32), o.2) ++ wS I qo qs a ++ wS I qo qa z)) #[.ref (qo 0)] s 280 1960 A) (F0 m 80 ls []) := by
          intro r2
          induction r2 with
          | zero =>
            intro j hj H locs hP hD hS ls hl
            have hj7 : j = 7 := by omega
            subst hj7
            refine lv_iload hx hb dX4_digest_80 (lv_at hl 0 rfl) ?_
            refine lv_bipush (v := (6 : Int32)) hx hb dX4_digest_82 (by decide) ?_
            refine lv_icmp_gt (tgt := 108) hx hb dX4_digest_84 (by decide) (fun c_3 => ?_) (fun c_3 => ?_)
            · refine lv_iinc (v := (nI (k + 1))) (lv' := [(3, .int (nI (k + 1))), (4, .int (nI 7)), (1, .long (m_d3i (xs o.1 0 (0 : Int32), o.2) a k (m_d3 (xs o.1 0 (0 : Int32), o.2) a (m_d2 (o.2 3) (m_d1 (xs o.1 0 (0 : Int32), o.2) a 12) 8) k) 7)), (0, .ref (qo 0))]) hx hb dX4_digest_108 hl (k := 2) rfl (nI_succ k).symm (by decide) rfl (fun ls hl => ?_)
              refine lv_goto (tgt := 69) hx hb dX4_digest_111 (by decide) ?_
              refine W.widen (k := 7 * (k + 1)) (n := 49 * (k + 1)) (by omega) (by omega) ?_
              exact ih (k + 1) (by omega) _ _ hP hD hS ls (lv_sub hl [0, 2, 3] rfl)
            · exact absurd (lt_nI (k := 6) (by decide) (by omega) (by omega)) c_3
          | succ r2 ih2 =>
            intro j hj H locs hP hD hS ls hl
            refine lv_iload hx hb dX4_digest_80 (lv_at hl 0 rfl) ?_
            refine lv_bipush (v := (6 : Int32)) hx hb dX4_digest_82 (by decide) ?_
            refine lv_icmp_gt (tgt := 108) hx hb dX4_digest_84 (by decide) (fun c_4 => ?_) (fun c_4 => ?_)
            · exact absurd c_4 (nlt_nI (k := 6) (by decide) (by omega) (by omega))
            · refine lv_lload_n hx hb dX4_digest_87 rfl (lv_at hl 1 rfl) ?_
              refine lv_ldc2 (v := (31 : Int64)) hx hb hown w_4 dX4_digest_88 ?_
              refine lv_lmul hx hb dX4_digest_91 ?_
              refine lv_aload_n hx hb dX4_digest_92 rfl (lv_at hl 3 rfl) ?_
              refine lv_iload_n hx hb dX4_digest_93 rfl (lv_at hl 2 rfl) ?_
              refine lv_iload hx hb dX4_digest_94 (lv_at hl 0 rfl) ?_
              refine xk_calli ([cMS qo qa z.1, cA I (qa 1) 40 (z.2 0), cA I (qa 2) 40 (z.2 1), cA I (qa 3) 40 (z.2 2), cA I (qa 4) 40 (z.2 3)]) (wO I qo (qs 0) (qa 0) (xs o.1 0 (0 : Int32), o.2) ++ wS I qo qs a ++ wS I qo qa z) [0, 1, 2, 3, 4, 5, 6, 7, 8, 9] [10, 11, 12, 13, 14] [5, 6, 7, 8, 9, 10, 11, 12, 13, 14, 0, 1, 2, 3, 4] hP hD hS hA (va_runV (As := [.int (nI k), .int (nI j)]) (rest := [.long ((m_d3i (xs o.1 0 (0 : Int32), o.2) a k (m_d3 (xs o.1 0 (0 : Int32), o.2) a (m_d2 (o.2 3) (m_d1 (xs o.1 0 (0 : Int32), o.2) a 12) 8) k) j) * (31 : Int64))]) ⟨hx, hb, hml, hown, hts⟩ (c_X4_told l D I qo qs (qa 0) H.size (xs o.1 0 (0 : Int32), o.2) a (nI k) (nI j) (in_nI (k := k) (by omega) hN40) (vp_in_nI (n := j) (by omega) (by omega))) (cwV 2 hts gX4_digest_X4_told rfl rfl rfl (by decide +kernel) ⟨Nat.le_of_ble_eq_true rfl, Nat.le_of_ble_eq_true rfl⟩) (xk_preV (wc := wO I qo (qs 0) (qa 0) (xs o.1 0 (0 : Int32), o.2) ++ wS I qo qs a) (q0 := 0) (ci := 4) hN hP hK hD [0, 1, 2, 3, 4, 5, 6, 7, 8, 9] rfl rfl rfl rfl) rfl rfl hl.1 rfl (lv_room (Nat.le_of_ble_eq_true rfl)) dX4_digest_96 ⟨by show 7 * k + j + 1 ≤ 280; omega, by show 49 * k + 7 * j + 7 ≤ 1960; omega⟩) rfl rfl rfl (by decide) rfl rfl (fun H locs hP hD hS => ?_)
              refine lv_i2l (v := (r_X4_told (xs o.1 0 (0 : Int32), o.2) a (nI k) (nI j)).toInt64) hx hb dX4_digest_99 rfl ?_
              refine lv_ladd hx hb dX4_digest_100 ?_
              refine lv_lstore_n (lv' := [(1, .long (((m_d3i (xs o.1 0 (0 : Int32), o.2) a k (m_d3 (xs o.1 0 (0 : Int32), o.2) a (m_d2 (o.2 3) (m_d1 (xs o.1 0 (0 : Int32), o.2) a 12) 8) k) j) * (31 : Int64)) + (r_X4_told (xs o.1 0 (0 : Int32), o.2) a (nI k) (nI j)).toInt64)), (4, .int (nI j)), (3, .int (nI k)), (0, .ref (qo 0))]) hx hb dX4_digest_101 rfl hl (by decide) rfl (fun ls hl => ?_)
              refine lv_iinc (v := (nI (j + 1))) (lv' := [(4, .int (nI (j + 1))), (1, .long (((m_d3i (xs o.1 0 (0 : Int32), o.2) a k (m_d3 (xs o.1 0 (0 : Int32), o.2) a (m_d2 (o.2 3) (m_d1 (xs o.1 0 (0 : Int32), o.2) a 12) 8) k) j) * (31 : Int64)) + (r_X4_told (xs o.1 0 (0 : Int32), o.2) a (nI k) (nI j)).toInt64)), (3, .int (nI k)), (0, .ref (qo 0))]) hx hb dX4_digest_102 hl (k := 1) rfl (nI_succ j).symm (by decide) rfl (fun ls hl => ?_)
              refine lv_goto (tgt := 80) hx hb dX4_digest_105 (by decide) ?_
              refine W.widen (k := 7 * k + (j + 1)) (n := 49 * k + 7 * (j + 1)) (by omega) (by omega) ?_
              exact ih2 (j + 1) (by omega) _ _ hP hD hS ls (lv_sub hl [0, 1, 2, 3] rfl)
        exact inner 7 0 (by omega) _ _ hP hD hS ls (lv_sub hl [0, 2, 1, 3] rfl)
  have loop2 : ∀ (r k : Nat), r + k = 8 → ∀ (H : Heap) (locs : List Loc), va_P D vwCl (wO I qo (qs 0) (qa 0) (xs o.1 0 (0 : Int32), o.2) ++ wS I qo qs a ++ wS I qo qa z) H → va_D A (wO I qo (qs 0) (qa 0) (xs o.1 0 (0 : Int32), o.2) ++ wS I qo qs a ++ wS I qo qa z) → va_S A s.heap H locs → ∀ ls, lv_has ls 5 [(3, .int (nI k)), (1, .long (m_d2 (o.2 3) (m_d1 (xs o.1 0 (0 : Int32), o.2) a 12) k)), (0, .ref (qo 0))] → W p l e { frames := 3, cells := 280, slots := 1960, locals := 64 } s m #[.ref (qo 0)] below meth c H locs 0 0 (MQ below (xQl D [(I, .int)] A (m_dig (xs o.1 0 (0 : Int32), o.2) a) (wO I qo (qs 0) (qa 0) (xs o.1 0 (0 : Int32), o.2) ++ wS I qo qs a ++ wS I qo qa z)) #[.ref (qo 0)] s 280 1960 A) (F0 m 41 ls []) := by
    intro r
    induction r with
    | zero =>
      intro k hk H locs hP hD hS ls hl
      have hk8 : k = 8 := by omega
      subst hk8
      refine lv_iload_n hx hb dX4_digest_41 rfl (lv_at hl 0 rfl) ?_
      refine lv_bipush (v := (8 : Int32)) hx hb dX4_digest_42 (by decide) ?_
      refine lv_icmp_ge (tgt := 67) hx hb dX4_digest_44 (by decide) (fun c_5 => ?_) (fun c_5 => ?_)
      · refine lv_iconst (v := (0 : Int32)) hx hb dX4_digest_67 (by decide) ?_
        refine lv_istore_n (lv' := [(3, .int (0 : Int32)), (1, .long (m_d2 (o.2 3) (m_d1 (xs o.1 0 (0 : Int32), o.2) a 12) 8)), (0, .ref (qo 0))]) hx hb dX4_digest_68 rfl hl (by decide) rfl (fun ls hl => ?_)
        exact loop3 (o.1 1).toNatClampNeg 0 (by omega) _ _ hP hD hS ls (lv_sub hl [0, 1, 2] rfl)
      · exact absurd (show (8 : Int32) ≤ nI 8 by decide) c_5
    | succ r ih =>
      intro k hk H locs hP hD hS ls hl
      refine lv_iload_n hx hb dX4_digest_41 rfl (lv_at hl 0 rfl) ?_
      refine lv_bipush (v := (8 : Int32)) hx hb dX4_digest_42 (by decide) ?_
      refine lv_icmp_ge (tgt := 67) hx hb dX4_digest_44 (by decide) (fun c_6 => ?_) (fun c_6 => ?_)
      · exact absurd c_6 (nI_ge (a := k) (b := 8) (by omega) (by omega))
      · refine lv_lload_n hx hb dX4_digest_47 rfl (lv_at hl 1 rfl) ?_
        refine lv_ldc2 (v := (31 : Int64)) hx hb hown w_4 dX4_digest_48 ?_
        refine lv_lmul hx hb dX4_digest_51 ?_
        refine lv_aload_n hx hb dX4_digest_52 rfl (lv_at hl 2 rfl) ?_
        refine va_get (D := D) (ci := 4) (v := .ref (qo 4)) (C := RX4) (T := TX4) (N := 8) hx hb hts hinX4 hown hK hP 0 rfl rfl 5 (by decide) w_5 (fun _ h9 => h9) rfl dX4_digest_53 ?_
        refine lv_iload_n hx hb dX4_digest_56 rfl (lv_at hl 0 rfl) ?_
        refine va_iald (f := (o.2 3)) hx hb hK hP 4 0 rfl rfl (show vp_in (nI k) 8 from (vp_in_nI (n := k) (by omega) (by omega))) dX4_digest_57 ?_
        refine W.eq (congrArg (fun z => F0 m 58 ls (.int ((o.2 3) z) :: [.long ((m_d2 (o.2 3) (m_d1 (xs o.1 0 (0 : Int32), o.2) a 12) k) * (31 : Int64))])) (nI_clamp (n := k) (by omega))) ?_
        refine lv_i2l (v := ((o.2 3) k).toInt64) hx hb dX4_digest_58 rfl ?_
        refine lv_ladd hx hb dX4_digest_59 ?_
        refine lv_lstore_n (lv' := [(1, .long (((m_d2 (o.2 3) (m_d1 (xs o.1 0 (0 : Int32), o.2) a 12) k) * (31 : Int64)) + ((o.2 3) k).toInt64)), (3, .int (nI k)), (0, .ref (qo 0))]) hx hb dX4_digest_60 rfl hl (by decide) rfl (fun ls hl => ?_)
        refine lv_iinc (v := (nI (k + 1))) (lv' := [(3, .int (nI (k + 1))), (1, .long (((m_d2 (o.2 3) (m_d1 (xs o.1 0 (0 : Int32), o.2) a 12) k) * (31 : Int64)) + ((o.2 3) k).toInt64)), (0, .ref (qo 0))]) hx hb dX4_digest_61 hl (k := 1) rfl (nI_succ k).symm (by decide) rfl (fun ls hl => ?_)
        refine lv_goto (tgt := 41) hx hb dX4_digest_64 (by decide) ?_
        exact ih (k + 1) (by omega) _ _ hP hD hS ls (lv_sub hl [0, 1, 2] rfl)
  have loop1 : ∀ (r k : Nat), r + k = 12 → ∀ (H : Heap) (locs : List Loc), va_P D vwCl (wO I qo (qs 0) (qa 0) (xs o.1 0 (0 : Int32), o.2) ++ wS I qo qs a ++ wS I qo qa z) H → va_D A (wO I qo (qs 0) (qa 0) (xs o.1 0 (0 : Int32), o.2) ++ wS I qo qs a ++ wS I qo qa z) → va_S A s.heap H locs → ∀ ls, lv_has ls 5 [(3, .int (nI k)), (1, .long (m_d1 (xs o.1 0 (0 : Int32), o.2) a k)), (0, .ref (qo 0))] → W p l e { frames := 3, cells := 280, slots := 1960, locals := 64 } s m #[.ref (qo 0)] below meth c H locs 0 0 (MQ below (xQl D [(I, .int)] A (m_dig (xs o.1 0 (0 : Int32), o.2) a) (wO I qo (qs 0) (qa 0) (xs o.1 0 (0 : Int32), o.2) ++ wS I qo qs a ++ wS I qo qa z)) #[.ref (qo 0)] s 280 1960 A) (F0 m 11 ls []) := by
    intro r
    induction r with
    | zero =>
      intro k hk H locs hP hD hS ls hl
      have hk8 : k = 12 := by omega
      subst hk8
      refine lv_iload_n hx hb dX4_digest_11 rfl (lv_at hl 0 rfl) ?_
      refine lv_bipush (v := (11 : Int32)) hx hb dX4_digest_12 (by decide) ?_
      refine lv_icmp_gt (tgt := 39) hx hb dX4_digest_14 (by decide) (fun c_7 => ?_) (fun c_7 => ?_)
      · refine lv_iconst (v := (0 : Int32)) hx hb dX4_digest_39 (by decide) ?_
        refine lv_istore_n (lv' := [(3, .int (0 : Int32)), (1, .long (m_d1 (xs o.1 0 (0 : Int32), o.2) a 12)), (0, .ref (qo 0))]) hx hb dX4_digest_40 rfl hl (by decide) rfl (fun ls hl => ?_)
        exact loop2 8 0 (by omega) _ _ hP hD hS ls (lv_sub hl [0, 1, 2] rfl)
      · exact absurd (lt_nI (k := 11) (by decide) (by omega) (by omega)) c_7
    | succ r ih =>
      intro k hk H locs hP hD hS ls hl
      refine lv_iload_n hx hb dX4_digest_11 rfl (lv_at hl 0 rfl) ?_
      refine lv_bipush (v := (11 : Int32)) hx hb dX4_digest_12 (by decide) ?_
      refine lv_icmp_gt (tgt := 39) hx hb dX4_digest_14 (by decide) (fun c_8 => ?_) (fun c_8 => ?_)
      · exact absurd c_8 (nlt_nI (k := 11) (by decide) (by omega) (by omega))
      · refine lv_lload_n hx hb dX4_digest_17 rfl (lv_at hl 1 rfl) ?_
        refine lv_ldc2 (v := (31 : Int64)) hx hb hown w_4 dX4_digest_18 ?_
        refine lv_lmul hx hb dX4_digest_21 ?_
        refine lv_aload_n hx hb dX4_digest_22 rfl (lv_at hl 2 rfl) ?_
        refine va_get (D := D) (ci := 4) (v := .ref (qs 0)) (C := RX4) (T := TX4) (N := 8) hx hb hts hinX4 hown hK hP 0 rfl rfl 6 (by decide) w_6 (fun _ h9 => h9) rfl dX4_digest_23 ?_
        refine lv_iload_n hx hb dX4_digest_26 rfl (lv_at hl 0 rfl) ?_
        refine xk_calli ([cMS qo qa z.1, cA I (qa 1) 40 (z.2 0), cA I (qa 2) 40 (z.2 1), cA I (qa 3) 40 (z.2 2), cA I (qa 4) 40 (z.2 3)]) (wO I qo (qs 0) (qa 0) (xs o.1 0 (0 : Int32), o.2) ++ wS I qo qs a ++ wS I qo qa z) [0, 1, 2, 3, 4, 5, 6, 7, 8, 9] [10, 11, 12, 13, 14] [5, 6, 7, 8, 9, 10, 11, 12, 13, 14, 0, 1, 2, 3, 4] hP hD hS hA (va_runV (As := [.int (nI k)]) (rest := [.long ((m_d1 (xs o.1 0 (0 : Int32), o.2) a k) * (31 : Int64))]) ⟨hx, hb, hml, hown, hts⟩ (c_X3_counted l D I qo (qs 0) (qa 0) qs H.size (xs o.1 0 (0 : Int32), o.2) a (nI k) hn) (cwV 1 hts gX4_digest_X3_counted rfl rfl rfl (by decide +kernel) ⟨Nat.le_of_ble_eq_true rfl, Nat.le_of_ble_eq_true rfl⟩) (xk_preV (wc := wO I qo (qs 0) (qa 0) (xs o.1 0 (0 : Int32), o.2) ++ wS I qo qs a) (q0 := 5) (ci := 3) hN hP hK hD [0, 1, 2, 3, 4, 5, 6, 7, 8, 9] rfl rfl rfl rfl) rfl rfl hl.1 rfl (lv_room (Nat.le_of_ble_eq_true rfl)) dX4_digest_27 ⟨Nat.le_of_ble_eq_true rfl, Nat.le_of_ble_eq_true rfl⟩) rfl rfl rfl (by decide) rfl rfl (fun H locs hP hD hS => ?_)
        refine lv_i2l (v := (r_X3_counted (xs o.1 0 (0 : Int32), o.2) a (nI k)).toInt64) hx hb dX4_digest_30 rfl ?_
        refine lv_ladd hx hb dX4_digest_31 ?_
        refine lv_lstore_n (lv' := [(1, .long (((m_d1 (xs o.1 0 (0 : Int32), o.2) a k) * (31 : Int64)) + (r_X3_counted (xs o.1 0 (0 : Int32), o.2) a (nI k)).toInt64)), (3, .int (nI k)), (0, .ref (qo 0))]) hx hb dX4_digest_32 rfl hl (by decide) rfl (fun ls hl => ?_)
        refine lv_iinc (v := (nI (k + 1))) (lv' := [(3, .int (nI (k + 1))), (1, .long (((m_d1 (xs o.1 0 (0 : Int32), o.2) a k) * (31 : Int64)) + (r_X3_counted (xs o.1 0 (0 : Int32), o.2) a (nI k)).toInt64)), (0, .ref (qo 0))]) hx hb dX4_digest_33 hl (k := 1) rfl (nI_succ k).symm (by decide) rfl (fun ls hl => ?_)
        refine lv_goto (tgt := 11) hx hb dX4_digest_36 (by decide) ?_
        exact ih (k + 1) (by omega) _ _ hP hD hS ls (lv_sub hl [0, 1, 2] rfl)
  exact loop1 12 0 (by omega) _ _ hP hD hS ls (lv_sub hl [0, 1, 2] rfl)
