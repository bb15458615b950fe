theorem tail_p (o : MO) (a : MS) : (m_tail o a).1 5 = a.1 5 ∧ (m_tail o a).1 0 = a.1 0 + 1 := by
  unfold m_tail
  repeat' split
  all_goals exact ⟨rfl, rfl⟩
theorem rest_p (o : MO) (a : MS) : (m_rest o a).1 5 = a.1 5 ∧ (m_rest o a).1 0 = a.1 0 + 1 := tail_p o _
theorem passM_p {o : MO} {a : MS} (hn : nOk (o.1 1)) (hp : pOk (a.1 5)) : pOk ((s_X3_pass o a).1 5) := by
  have h1 := nextOk (a := a) hn
  unfold s_X3_pass
  repeat' split
  all_goals rw [(rest_p o _).1]
  all_goals first
    | exact Or.inl rfl
    | exact hp
    | exact serve_p hp (h1.resolve_left (by assumption))
theorem passM_m (o : MO) (a : MS) : (s_X3_pass o a).1 0 = a.1 0 + 1 := by
  unfold s_X3_pass
  repeat' split
  all_goals rw [(rest_p o _).2]
  all_goals first | rfl | exact congrArg (· + 1) (serveM_m o a _)
/-- k minutes -/
def mit (o : MO) : Nat → MS → MS
  | 0, a => a
  | k + 1, a => mit o k (s_X3_pass o a)
def s_X3_pass_ (o : MO) (a : MS) (mi : Int32) : MS := mit o mi.toNatClampNeg a

set_option maxHeartbeats 800000 in
set_option maxRecDepth 100000 in
theorem c_X3_pass_ (l : Launch) (D : va_G) (I : ClassId) (qo : Nat → Nat) (ps pa : Nat) (qs : Nat → Nat) (sz : Nat) (o : MO) (a : MS) (mi : Int32) (hn : nOk (o.1 1)) (hp : pOk (a.1 5)) (hm1 : 0 ≤ (a.1 0).toInt) (hm2 : (a.1 0).toInt < 1000000000) (h1 : 0 ≤ mi.toInt) (h2 : mi.toInt ≤ 240) : xMv l D [(I, .int)] yX3_pass_ wsX3_pass_ { frames := 4, cells := 0, slots := 0, locals := 79 } [.ref (qs 0), .int mi] sz (wO I qo ps pa o ++ wS I qo qs a) (wO I qo ps pa o ++ wS I qo qs (s_X3_pass_ o a mi)) 0 0 := by
  refine xk_start (cc := cX3_pass_) (maxL := 3) (ret := none) (Qf := fun A => xQv D [(I, .int)] A (wO I qo ps pa o ++ wS I qo qs (s_X3_pass_ o a mi))) (by decide) rfl (Nat.le_of_ble_eq_true rfl) ?_
  intro p e s m below meth c A H ls hst hAe hsz hl
  obtain ⟨hx, hb, hr, hts, hown, hlocks, hml, hin, hN, hK, hP, hD, hA, hS⟩ := hst
  have hl : lv_has ls 3 [(0, .ref (qs 0)), (1, .int mi)] := hl
  have hP : va_P D vwCl (wO I qo ps pa o ++ wS I qo qs a) H := hP
  have hmi : mi = nI mi.toNatClampNeg := Int32.toInt_inj.mp (by rw [nI_toInt (by rw [clampInt]; omega), clampInt]; omega)
  have hml9 : mi.toNatClampNeg ≤ 240 := by rw [clampInt]; omega
  refine lv_iconst (v := (0 : Int32)) hx hb dX3_pass__0 (by decide) ?_
  refine lv_istore_n (lv' := [(2, .int (0 : Int32)), (0, .ref (qs 0)), (1, .int mi)]) hx hb dX3_pass__1 rfl hl (by decide) rfl (fun ls hl => ?_)
  have loop : ∀ (r k : Nat) (a : MS), r + k = mi.toNatClampNeg → pOk (a.1 5) → 0 ≤ (a.1 0).toInt → (a.1 0).toInt + r < 2000000000 → ∀ (H : Heap) (locs : List Loc), va_P D vwCl (wO I qo ps pa o ++ wS I qo qs (a)) H → va_D A (wO I qo ps pa o ++ wS I qo qs (a)) → va_S A s.heap H locs → ∀ ls, lv_has ls 3 [(2, .int (nI k)), (0, .ref (qs 0)), (1, .int mi)] → W p l e { frames := 4, cells := 0, slots := 0, locals := 79 } s m #[.ref (qs 0), .int mi] below meth c H locs 0 0 (MQ below (xQv D [(I, .int)] A (wO I qo ps pa o ++ wS I qo qs (mit o r a))) #[.ref (qs 0), .int mi] s 0 0 A) (F0 m 2 ls []) := by
    intro r
    induction r with
    | zero =>
      intro k a hk hp hm1 hm2 H locs hP hD hS ls hl
      refine lv_iload_n hx hb dX3_pass__2 rfl (lv_at hl 0 rfl) ?_
      refine lv_iload_n hx hb dX3_pass__3 rfl (lv_at hl 2 rfl) ?_
      refine lv_icmp_ge (tgt := 17) hx hb dX3_pass__4 (by decide) (fun c_1 => ?_) (fun c_1 => ?_)
      · exact xk_vret (wf := fun z : MO × MS => wO I qo ps pa z.1 ++ wS I qo qs z.2) (u := (o, a)) (u1 := (o, mit o 0 a)) hx hb hr hlocks hP hK hD hS rfl dX3_pass__17
      · exact absurd (by rw [hmi]; exact nI_le (by omega) (by omega)) c_1
    | succ r ih =>
      intro k a hk hp hm1 hm2 H locs hP hD hS ls hl
      refine lv_iload_n hx hb dX3_pass__2 rfl (lv_at hl 0 rfl) ?_
      refine lv_iload_n hx hb dX3_pass__3 rfl (lv_at hl 2 rfl) ?_
      refine lv_icmp_ge (tgt := 17) hx hb dX3_pass__4 (by decide) (fun c_2 => ?_) (fun c_2 => ?_)
      · exact absurd c_2 (by rw [hmi]; exact nI_ge (by omega) (by omega))
      · refine lv_aload_n hx hb dX3_pass__7 rfl (lv_at hl 1 rfl) ?_
        refine xk_callv ([]) (wO I qo ps pa o ++ wS I qo qs (s_X3_pass o a)) [0, 1, 2, 3, 4, 5, 6, 7, 8, 9] [] [0, 1, 2, 3, 4, 5, 6, 7, 8, 9] hP hD hS hA (va_runV (As := []) (rest := []) ⟨hx, hb, hml, hown, hts⟩ (c_X3_pass l D I qo ps pa qs H.size o a hn hp ⟨hm1, by omega⟩) (cwV 0 hts gX3_pass__X3_pass rfl rfl rfl (by decide +kernel) ⟨Nat.le_of_ble_eq_true rfl, Nat.le_of_ble_eq_true rfl⟩) (xk_preV (wc := wO I qo ps pa o ++ wS I qo qs a) (q0 := 5) (ci := 3) hN hP hK hD [0, 1, 2, 3, 4, 5, 6, 7, 8, 9] rfl rfl rfl rfl) rfl rfl hl.1 rfl (lv_room (Nat.le_of_ble_eq_true rfl)) dX3_pass__8 ⟨Nat.le_of_ble_eq_true rfl, Nat.le_of_ble_eq_true rfl⟩) rfl rfl rfl (by decide) rfl rfl (fun H locs hP hD hS => ?_)
        generalize hz_1 : s_X3_pass o a = z_1 at hP hD
        refine lv_iinc (v := (nI (k + 1))) (lv' := [(2, .int (nI (k + 1))), (0, .ref (qs 0)), (1, .int mi)]) hx hb dX3_pass__11 hl (k := 0) rfl (nI_succ k).symm (by decide) rfl (fun ls hl => ?_)
        refine lv_goto (tgt := 2) hx hb dX3_pass__14 (by decide) ?_
        subst hz_1
        exact ih (k + 1) (s_X3_pass o a) (by omega) (passM_p hn hp) (by rw [passM_m]; exact (p1_m hm1 (by omega)).1) (by rw [passM_m, (p1_m hm1 (by omega)).2]; omega) _ _ hP hD hS ls hl
  exact loop _ 0 a (by omega) hp hm1 (by omega) _ _ hP hD hS ls hl

def r_X3_counted (o : MO) (a : MS) (wh : Int32) : Int32 :=
  if wh = (0 : Int32) then
    (a.1 0)
  else
    if wh = (1 : Int32) then
      (a.1 1)
    else
      if wh = (2 : Int32) then
        (a.1 2)
      else
        if wh = (3 : Int32) then
          (a.1 3)
        else
          if wh = (4 : Int32) then
            (a.1 4)
          else
            if wh = (5 : Int32) then
              (o.1 1)
            else
              if wh = (6 : Int32) then
                (r_X3_are o a (0 : Int32) (1 : Int32))
              else
                if wh = (7 : Int32) then
                  (r_X3_are o a (0 : Int32) (0 : Int32))
                else
                  if wh = (8 : Int32) then
                    (r_X3_are o a (2 : Int32) (2 : Int32))
                  else
                    if wh = (9 : Int32) then
                      (r_X3_sumWaited o a)
                    else
                      if wh = (10 : Int32) then
                        (a.1 5)
                      else
                        (r_X3_next o a)
set_option maxHeartbeats 800000 in
set_option maxRecDepth 100000 in
theorem c_X3_counted (l : Launch) (D : va_G) (I : ClassId) (qo : Nat → Nat) (ps pa : Nat) (qs : Nat → Nat) (sz : Nat) (o : MO) (a : MS) (wh : Int32) (hn : nOk (o.1 1)) : xMi l D [(I, .int)] yX3_counted wsX3_counted { frames := 2, cells := 0, slots := 0, locals := 43 } [.ref (qs 0), .int wh] sz (wO I qo ps pa o ++ wS I qo qs a) (r_X3_counted o a wh) (wO I qo ps pa o ++ wS I qo qs a) 0 0 := by
  refine xk_start (cc := cX3_counted) (maxL := 2) (ret := (some .int)) (Qf := fun A => xQi D [(I, .int)] A (r_X3_counted o a wh) (wO I qo ps pa o ++ wS I qo qs a)) (by decide) rfl (Nat.le_of_ble_eq_true rfl) ?_
  intro p e s m below meth c A H ls hst hAe hsz hl
  obtain ⟨hx, hb, hr, hts, hown, hlocks, hml, hin, hN, hK, hP, hD, hA, hS⟩ := hst
  have hl : lv_has ls 2 [(0, .ref (qs 0)), (1, .int wh)] := hl
  have hP : va_P D vwCl (wO I qo ps pa o ++ wS I qo qs a) H := hP
  have hinX3 : ∀ w ∈ u_ws RX3 TX3 12, w ∈ wsX3_counted := by decide +kernel
  have hinX4 : ∀ w ∈ u_ws RX4 TX4 8, w ∈ wsX3_counted := by decide +kernel
  have w_1 := hts (.fieldLink RX3 41 "BridgeBellsModel$State" "minute" "I") (by decide +kernel)
  have w_2 := hts (.fieldLink RX3 44 "BridgeBellsModel$State" "angle" "I") (by decide +kernel)
  have w_3 := hts (.fieldLink RX3 15 "BridgeBellsModel$State" "poise" "I") (by decide +kernel)
  have w_4 := hts (.fieldLink RX3 47 "BridgeBellsModel$State" "ice" "I") (by decide +kernel)
  have w_5 := hts (.fieldLink RX3 50 "BridgeBellsModel$State" "code" "I") (by decide +kernel)
  have w_6 := hts (.fieldLink RX3 3 "BridgeBellsModel$State" "this$0" "LBridgeBellsModel;") (by decide +kernel)
  have w_7 := hts (.fieldLink RX3 19 "BridgeBellsModel$State" "passer" "I") (by decide +kernel)
  refine lv_iload_n hx hb dX3_counted_0 rfl (lv_at hl 1 rfl) ?_
  by_cases c_1 : wh = (0 : Int32)
  · refine lv_tableIn (off := 59) (tgt := 60) hx hb dX3_counted_1 (by rw [c_1]; decide) (by rw [c_1]; decide) (by rw [c_1]; rfl) (by decide) ?_
    refine lv_aload_n hx hb dX3_counted_60 rfl (lv_at hl 0 rfl) ?_
    refine va_get (D := D) (ci := 3) (v := .int (a.1 0)) (C := RX3) (T := TX3) (N := 12) hx hb hts hinX3 hown hK hP 5 rfl rfl 0 (by decide) w_1 (fun _ h9 => h9) rfl dX3_counted_61 ?_
    exact xk_iret (wf := fun z : MO × MS => wO I qo ps pa z.1 ++ wS I qo qs z.2) (u := (o, a)) (u1 := (o, a)) hx hb hr rfl hlocks hP hK hD hS (by unfold r_X3_counted; rw [if_pos c_1]) rfl dX3_counted_64
  by_cases c_2 : wh = (1 : Int32)
  · refine lv_tableIn (off := 64) (tgt := 65) hx hb dX3_counted_1 (by rw [c_2]; decide) (by rw [c_2]; decide) (by rw [c_2]; rfl) (by decide) ?_
    refine lv_aload_n hx hb dX3_counted_65 rfl (lv_at hl 0 rfl) ?_
    refine va_get (D := D) (ci := 3) (v := .int (a.1 1)) (C := RX3) (T := TX3) (N := 12) hx hb hts hinX3 hown hK hP 5 rfl rfl 1 (by decide) w_2 (fun _ h9 => h9) rfl dX3_counted_66 ?_
    exact xk_iret (wf := fun z : MO × MS => wO I qo ps pa z.1 ++ wS I qo qs z.2) (u := (o, a)) (u1 := (o, a)) hx hb hr rfl hlocks hP hK hD hS (by unfold r_X3_counted; rw [if_neg c_1, if_pos c_2]) rfl dX3_counted_69
  by_cases c_3 : wh = (2 : Int32)
  · refine lv_tableIn (off := 69) (tgt := 70) hx hb dX3_counted_1 (by rw [c_3]; decide) (by rw [c_3]; decide) (by rw [c_3]; rfl) (by decide) ?_
    refine lv_aload_n hx hb dX3_counted_70 rfl (lv_at hl 0 rfl) ?_
    refine va_get (D := D) (ci := 3) (v := .int (a.1 2)) (C := RX3) (T := TX3) (N := 12) hx hb hts hinX3 hown hK hP 5 rfl rfl 2 (by decide) w_3 (fun _ h9 => h9) rfl dX3_counted_71 ?_
    exact xk_iret (wf := fun z : MO × MS => wO I qo ps pa z.1 ++ wS I qo qs z.2) (u := (o, a)) (u1 := (o, a)) hx hb hr rfl hlocks hP hK hD hS (by unfold r_X3_counted; rw [if_neg c_1, if_neg c_2, if_pos c_3]) rfl dX3_counted_74
  by_cases c_4 : wh = (3 : Int32)
  · refine lv_tableIn (off := 74) (tgt := 75) hx hb dX3_counted_1 (by rw [c_4]; decide) (by rw [c_4]; decide) (by rw [c_4]; rfl) (by decide) ?_
    refine lv_aload_n hx hb dX3_counted_75 rfl (lv_at hl 0 rfl) ?_
    refine va_get (D := D) (ci := 3) (v := .int (a.1 3)) (C := RX3) (T := TX3) (N := 12) hx hb hts hinX3 hown hK hP 5 rfl rfl 3 (by decide) w_4 (fun _ h9 => h9) rfl dX3_counted_76 ?_
    exact xk_iret (wf := fun z : MO × MS => wO I qo ps pa z.1 ++ wS I qo qs z.2) (u := (o, a)) (u1 := (o, a)) hx hb hr rfl hlocks hP hK hD hS (by unfold r_X3_counted; rw [if_neg c_1, if_neg c_2, if_neg c_3, if_pos c_4]) rfl dX3_counted_79
  by_cases c_5 : wh = (4 : Int32)
  · refine lv_tableIn (off := 79) (tgt := 80) hx hb dX3_counted_1 (by rw [c_5]; decide) (by rw [c_5]; decide) (by rw [c_5]; rfl) (by decide) ?_
    refine lv_aload_n hx hb dX3_counted_80 rfl (lv_at hl 0 rfl) ?_
    refine va_get (D := D) (ci := 3) (v := .int (a.1 4)) (C := RX3) (T := TX3) (N := 12) hx hb hts hinX3 hown hK hP 5 rfl rfl 4 (by decide) w_5 (fun _ h9 => h9) rfl dX3_counted_81 ?_
    exact xk_iret (wf := fun z : MO × MS => wO I qo ps pa z.1 ++ wS I qo qs z.2) (u := (o, a)) (u1 := (o, a)) hx hb hr rfl hlocks hP hK hD hS (by unfold r_X3_counted; rw [if_neg c_1, if_neg c_2, if_neg c_3, if_neg c_4, if_pos c_5]) rfl dX3_counted_84
  by_cases c_6 : wh = (5 : Int32)
  · refine lv_tableIn (off := 84) (tgt := 85) hx hb dX3_counted_1 (by rw [c_6]; decide) (by rw [c_6]; decide) (by rw [c_6]; rfl) (by decide) ?_
    refine lv_aload_n hx hb dX3_counted_85 rfl (lv_at hl 0 rfl) ?_
    refine va_get (D := D) (ci := 3) (v := .ref (qo 0)) (C := RX3) (T := TX3) (N := 12) hx hb hts hinX3 hown hK hP 5 rfl rfl 11 (by decide) w_6 (fun _ h9 => h9) rfl dX3_counted_86 ?_
    refine va_getN (D := D) (ci := 4) (v := .int (o.1 1)) (C := RX4) (T := TX4) (N := 8) hx hb hts hinX4 hown hK hP 0 rfl rfl 1 (by decide) (hN.use 12 rfl) (fun _ h9 => h9) rfl dX3_counted_89 ?_
    exact xk_iret (wf := fun z : MO × MS => wO I qo ps pa z.1 ++ wS I qo qs z.2) (u := (o, a)) (u1 := (o, a)) hx hb hr rfl hlocks hP hK hD hS (by unfold r_X3_counted; rw [if_neg c_1, if_neg c_2, if_neg c_3, if_neg c_4, if_neg c_5, if_pos c_6]) rfl dX3_counted_92
  by_cases c_7 : wh = (6 : Int32)
  · refine lv_tableIn (off := 92) (tgt := 93) hx hb dX3_counted_1 (by rw [c_7]; decide) (by rw [c_7]; decide) (by rw [c_7]; rfl) (by decide) ?_
    refine lv_aload_n hx hb dX3_counted_93 rfl (lv_at hl 0 rfl) ?_
    refine lv_iconst (v := (0 : Int32)) hx hb dX3_counted_94 (by decide) ?_
    refine lv_iconst (v := (1 : Int32)) hx hb dX3_counted_95 (by decide) ?_
    refine xk_calli ([]) (wO I qo ps pa o ++ wS I qo qs a) [0, 1, 2, 3, 4, 5, 6, 7, 8, 9] [] [0, 1, 2, 3, 4, 5, 6, 7, 8, 9] hP hD hS hA (va_runV (As := [.int (0 : Int32), .int (1 : Int32)]) (rest := []) ⟨hx, hb, hml, hown, hts⟩ (c_X3_are l D I qo ps pa qs H.size o a (0 : Int32) (1 : Int32) hn) (cwV 2 hts gX3_counted_X3_are rfl rfl rfl (by decide +kernel) ⟨Nat.le_of_ble_eq_true rfl, Nat.le_of_ble_eq_true rfl⟩) (xk_preV (wc := wO I qo ps pa o ++ wS I qo qs a) (q0 := 5) (ci := 3) hN hP hK hD [0, 1, 2, 3, 4, 5, 6, 7, 8, 9] rfl rfl rfl rfl) rfl rfl hl.1 rfl (lv_room (Nat.le_of_ble_eq_true rfl)) dX3_counted_96 ⟨Nat.le_of_ble_eq_true rfl, Nat.le_of_ble_eq_true rfl⟩) rfl rfl rfl (by decide) rfl rfl (fun H locs hP hD hS => ?_)
    exact xk_iret (wf := fun z : MO × MS => wO I qo ps pa z.1 ++ wS I qo qs z.2) (u := (o, a)) (u1 := (o, a)) hx hb hr rfl hlocks hP hK hD hS (by unfold r_X3_counted; rw [if_neg c_1, if_neg c_2, if_neg c_3, if_neg c_4, if_neg c_5, if_neg c_6, if_pos c_7]) rfl dX3_counted_99
  by_cases c_8 : wh = (7 : Int32)
  · refine lv_tableIn (off := 99) (tgt := 100) hx hb dX3_counted_1 (by rw [c_8]; decide) (by rw [c_8]; decide) (by rw [c_8]; rfl) (by decide) ?_
    refine lv_aload_n hx hb dX3_counted_100 rfl (lv_at hl 0 rfl) ?_
    refine lv_iconst (v := (0 : Int32)) hx hb dX3_counted_101 (by decide) ?_
    refine lv_iconst (v := (0 : Int32)) hx hb dX3_counted_102 (by decide) ?_
    refine xk_calli ([]) (wO I qo ps pa o ++ wS I qo qs a) [0, 1, 2, 3, 4, 5, 6, 7, 8, 9] [] [0, 1, 2, 3, 4, 5, 6, 7, 8, 9] hP hD hS hA (va_runV (As := [.int (0 : Int32), .int (0 : Int32)]) (rest := []) ⟨hx, hb, hml, hown, hts⟩ (c_X3_are l D I qo ps pa qs H.size o a (0 : Int32) (0 : Int32) hn) (cwV 2 hts gX3_counted_X3_are rfl rfl rfl (by decide +kernel) ⟨Nat.le_of_ble_eq_true rfl, Nat.le_of_ble_eq_true rfl⟩) (xk_preV (wc := wO I qo ps pa o ++ wS I qo qs a) (q0 := 5) (ci := 3) hN hP hK hD [0, 1, 2, 3, 4, 5, 6, 7, 8, 9] rfl rfl rfl rfl) rfl rfl hl.1 rfl (lv_room (Nat.le_of_ble_eq_true rfl)) dX3_counted_103 ⟨Nat.le_of_ble_eq_true rfl, Nat.le_of_ble_eq_true rfl⟩) rfl rfl rfl (by decide) rfl rfl (fun H locs hP hD hS => ?_)
    exact xk_iret (wf := fun z : MO × MS => wO I qo ps pa z.1 ++ wS I qo qs z.2) (u := (o, a)) (u1 := (o, a)) hx hb hr rfl hlocks hP hK hD hS (by unfold r_X3_counted; rw [if_neg c_1, if_neg c_2, if_neg c_3, if_neg c_4, if_neg c_5, if_neg c_6, if_neg c_7, if_pos c_8]) rfl dX3_counted_106
  by_cases c_9 : wh = (8 : Int32)
  · refine lv_tableIn (off := 106) (tgt := 107) hx hb dX3_counted_1 (by rw [c_9]; decide) (by rw [c_9]; decide) (by rw [c_9]; rfl) (by decide) ?_
    refine lv_aload_n hx hb dX3_counted_107 rfl (lv_at hl 0 rfl) ?_
    refine lv_iconst (v := (2 : Int32)) hx hb dX3_counted_108 (by decide) ?_
    refine lv_iconst (v := (2 : Int32)) hx hb dX3_counted_109 (by decide) ?_
    refine xk_calli ([]) (wO I qo ps pa o ++ wS I qo qs a) [0, 1, 2, 3, 4, 5, 6, 7, 8, 9] [] [0, 1, 2, 3, 4, 5, 6, 7, 8, 9] hP hD hS hA (va_runV (As := [.int (2 : Int32), .int (2 : Int32)]) (rest := []) ⟨hx, hb, hml, hown, hts⟩ (c_X3_are l D I qo ps pa qs H.size o a (2 : Int32) (2 : Int32) hn) (cwV 2 hts gX3_counted_X3_are rfl rfl rfl (by decide +kernel) ⟨Nat.le_of_ble_eq_true rfl, Nat.le_of_ble_eq_true rfl⟩) (xk_preV (wc := wO I qo ps pa o ++ wS I qo qs a) (q0 := 5) (ci := 3) hN hP hK hD [0, 1, 2, 3, 4, 5, 6, 7, 8, 9] rfl rfl rfl rfl) rfl rfl hl.1 rfl (lv_room (Nat.le_of_ble_eq_true rfl)) dX3_counted_110 ⟨Nat.le_of_ble_eq_true rfl, Nat.le_of_ble_eq_true rfl⟩) rfl rfl rfl (by decide) rfl rfl (fun H locs hP hD hS => ?_)
    exact xk_iret (wf := fun z : MO × MS => wO I qo ps pa z.1 ++ wS I qo qs z.2) (u := (o, a)) (u1 := (o, a)) hx hb hr rfl hlocks hP hK hD hS (by unfold r_X3_counted; rw [if_neg c_1, if_neg c_2, if_neg c_3, if_neg c_4, if_neg c_5, if_neg c_6, if_neg c_7, if_neg c_8, if_pos c_9]) rfl dX3_counted_113
  by_cases c_10 : wh = (9 : Int32)
  · refine lv_tableIn (off := 113) (tgt := 114) hx hb dX3_counted_1 (by rw [c_10]; decide) (by rw [c_10]; decide) (by rw [c_10]; rfl) (by decide) ?_
    refine lv_aload_n hx hb dX3_counted_114 rfl (lv_at hl 0 rfl) ?_
    refine xk_calli ([]) (wO I qo ps pa o ++ wS I qo qs a) [0, 1, 2, 3, 4, 5, 6, 7, 8, 9] [] [0, 1, 2, 3, 4, 5, 6, 7, 8, 9] hP hD hS hA (va_runV (As := []) (rest := []) ⟨hx, hb, hml, hown, hts⟩ (c_X3_sumWaited l D I qo ps pa qs H.size o a hn) (cwV 0 hts gX3_counted_X3_sumWaited rfl rfl rfl (by decide +kernel) ⟨Nat.le_of_ble_eq_true rfl, Nat.le_of_ble_eq_true rfl⟩) (xk_preV (wc := wO I qo ps pa o ++ wS I qo qs a) (q0 := 5) (ci := 3) hN hP hK hD [0, 1, 2, 3, 4, 5, 6, 7, 8, 9] rfl rfl rfl rfl) rfl rfl hl.1 rfl (lv_room (Nat.le_of_ble_eq_true rfl)) dX3_counted_115 ⟨Nat.le_of_ble_eq_true rfl, Nat.le_of_ble_eq_true rfl⟩) rfl rfl rfl (by decide) rfl rfl (fun H locs hP hD hS => ?_)
    exact xk_iret (wf := fun z : MO × MS => wO I qo ps pa z.1 ++ wS I qo qs z.2) (u := (o, a)) (u1 := (o, a)) hx hb hr rfl hlocks hP hK hD hS (by unfold r_X3_counted; rw [if_neg c_1, if_neg c_2, if_neg c_3, if_neg c_4, if_neg c_5, if_neg c_6, if_neg c_7, if_neg c_8, if_neg c_9, if_pos c_10]) rfl dX3_counted_118
  by_cases c_11 : wh = (10 : Int32)
  · refine lv_tableIn (off := 118) (tgt := 119) hx hb dX3_counted_1 (by rw [c_11]; decide) (by rw [c_11]; decide) (by rw [c_11]; rfl) (by decide) ?_
    refine lv_aload_n hx hb dX3_counted_119 rfl (lv_at hl 0 rfl) ?_
    refine va_get (D := D) (ci := 3) (v := .int (a.1 5)) (C := RX3) (T := TX3) (N := 12) hx hb hts hinX3 hown hK hP 5 rfl rfl 5 (by decide) w_7 (fun _ h9 => h9) rfl dX3_counted_120 ?_
    exact xk_iret (wf := fun z : MO × MS => wO I qo ps pa z.1 ++ wS I qo qs z.2) (u := (o, a)) (u1 := (o, a)) hx hb hr rfl hlocks hP hK hD hS (by unfold r_X3_counted; rw [if_neg c_1, if_neg c_2, if_neg c_3, if_neg c_4, if_neg c_5, if_neg c_6, if_neg c_7, if_neg c_8, if_neg c_9, if_neg c_10, if_pos c_11]) rfl dX3_counted_123
  have t_c_1 : wh.toInt < 0 ∨ 10 < wh.toInt := by
    have g_c_1 := lv_neT c_1 (a := 0) (by decide)
    have g_c_2 := lv_neT c_2 (a := 1) (by decide)
    have g_c_3 := lv_neT c_3 (a := 2) (by decide)
    have g_c_4 := lv_neT c_4 (a := 3) (by decide)
    have g_c_5 := lv_neT c_5 (a := 4) (by decide)
    have g_c_6 := lv_neT c_6 (a := 5) (by decide)
    have g_c_7 := lv_neT c_7 (a := 6) (by decide)
    have g_c_8 := lv_neT c_8 (a := 7) (by decide)
    have g_c_9 := lv_neT c_9 (a := 8) (by decide)
    have g_c_10 := lv_neT c_10 (a := 9) (by decide)
    have g_c_11 := lv_neT c_11 (a := 10) (by decide)
    omega
  refine lv_tableOut (tgt := 124) hx hb dX3_counted_1 t_c_1 (by decide) ?_
  refine lv_aload_n hx hb dX3_counted_124 rfl (lv_at hl 0 rfl) ?_
  refine xk_calli ([]) (wO I qo ps pa o ++ wS I qo qs a) [0, 1, 2, 3, 4, 5, 6, 7, 8, 9] [] [0, 1, 2, 3, 4, 5, 6, 7, 8, 9] hP hD hS hA (va_runV (As := []) (rest := []) ⟨hx, hb, hml, hown, hts⟩ (c_X3_next l D I qo ps pa qs H.size o a hn) (cwV 0 hts gX3_counted_X3_next rfl rfl rfl (by decide +kernel) ⟨Nat.le_of_ble_eq_true rfl, Nat.le_of_ble_eq_true rfl⟩) (xk_preV (wc := wO I qo ps pa o ++ wS I qo qs a) (q0 := 5) (ci := 3) hN hP hK hD [0, 1, 2, 3, 4, 5, 6, 7, 8, 9] rfl rfl rfl rfl) rfl rfl hl.1 rfl (lv_room (Nat.le_of_ble_eq_true rfl)) dX3_counted_125 ⟨Nat.le_of_ble_eq_true rfl, Nat.le_of_ble_eq_true rfl⟩) rfl rfl rfl (by decide) rfl rfl (fun H locs hP hD hS => ?_)
  exact xk_iret (wf := fun z : MO × MS => wO I qo ps pa z.1 ++ wS I qo qs z.2) (u := (o, a)) (u1 := (o, a)) hx hb hr rfl hlocks hP hK hD hS (by unfold r_X3_counted; rw [if_neg c_1, if_neg c_2, if_neg c_3, if_neg c_4, if_neg c_5, if_neg c_6, if_neg c_7, if_neg c_8, if_neg c_9, if_neg c_10, if_neg c_11]) rfl dX3_counted_128

