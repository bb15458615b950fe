/-! what each op owes -/
theorem ag_come {b : XBr} {o : MO} {a : MS} (h : Rel b o a) (hm : (b.1 0).toInt < 1000000) (bg mn : Int32) (hbg : bg = 0 ∨ bg = 1) : Agree b (x_X2_come b bg mn) (r_X2_come b bg mn) (r_X4_come o a bg mn) (s_X2_come b bg mn) (s_X4_come o a bg mn).1 (s_X4_come o a bg mn).2 := by
  sorry
theorem ag_leave {b : XBr} {o : MO} {a : MS} (h : Rel b o a) (hm : (b.1 0).toInt < 1000000) (k : Int32)  : Agree b (x_X2_leave b k) (r_X2_leave b k) (r_X4_leave o a k) (s_X2_leave b k) (s_X4_leave o a k).1 (s_X4_leave o a k).2 := by
  sorry
theorem ag_ring {b : XBr} {o : MO} {a : MS} (h : Rel b o a) (hm : (b.1 0).toInt < 1000000) (nc : Int32)  : Agree b (x_X2_ring b nc) (r_X2_ring b nc) (r_X4_ring o a nc) (s_X2_ring b nc) (s_X4_ring o a nc).1 (s_X4_ring o a nc).2 := by
  sorry
theorem ag_poise {b : XBr} {o : MO} {a : MS} (h : Rel b o a) (hm : (b.1 0).toInt < 1000000) (cp : Int32)  : Agree b (x_X2_poise b cp) (r_X2_poise b cp) (r_X4_poise o a cp) (s_X2_poise b cp) (s_X4_poise o a cp).1 (s_X4_poise o a cp).2 := by
  sorry
theorem ag_setCold {b : XBr} {o : MO} {a : MS} (h : Rel b o a) (hm : (b.1 0).toInt < 1000000) (k cv : Int32)  : Agree b (x_X2_setCold b k cv) (r_X2_setCold b k cv) (r_X4_setCold o a k cv) (s_X2_setCold b k cv) (s_X4_setCold o a k cv) a := by
  sorry
theorem ag_traveller {b : XBr} {o : MO} {a : MS} (h : Rel b o a) (hm : (b.1 0).toInt < 1000000) (k wh : Int32)  : Agree b (x_X2_traveller b k wh) (r_X2_traveller b k wh) (r_X4_traveller o a k wh) b (s_X4_traveller o a k wh) a := by
  sorry
theorem ag_count {b : XBr} {o : MO} {a : MS} (h : Rel b o a) (hm : (b.1 0).toInt < 1000000) (wh : Int32)  : Agree b (x_X2_count b wh) (r_X2_count b wh) (r_X4_count o a wh) b (s_X4_count o a wh) a := by
  sorry
theorem ag_pass {b : XBr} {o : MO} {a : MS} (h : Rel b o a) (hm : (b.1 0).toInt < 1000000) (mi : Int32)  : Agree b (x_X2_pass b mi) (r_X2_pass b mi) (r_X4_pass o a mi) (s_X2_pass b mi) (s_X4_pass o a mi).1 (s_X4_pass o a mi).2 := by
  sorry
theorem ag_when {b : XBr} {o : MO} {a : MS} (h : Rel b o a) (hm : (b.1 0).toInt < 1000000) (k : Int32)  : Agree b (x_X2_when b k) (r_X2_when b k) (r_X4_when o a k) b (s_X4_when o a k) a := by
  sorry
theorem ag_foresee {b : XBr} {o : MO} {a : MS} (h : Rel b o a) (hm : (b.1 0).toInt < 1000000) (mi wh : Int32)  : Agree b (x_X2_foresee b mi wh) (r_X2_foresee b mi wh) (r_X4_foresee o a mi wh) b (s_X4_foresee o a mi wh) a := by
  sorry
theorem ag_bestCode {b : XBr} {o : MO} {a : MS} (h : Rel b o a) (hm : (b.1 0).toInt < 1000000) (mi : Int32)  : Agree b (x_X2_bestCode b mi) (r_X2_bestCode b mi) (r_X4_bestCode o a mi) b (s_X4_bestCode o a mi) a := by
  sorry
theorem ag_bestPoise {b : XBr} {o : MO} {a : MS} (h : Rel b o a) (hm : (b.1 0).toInt < 1000000) (mi : Int32)  : Agree b (x_X2_bestPoise b mi) (r_X2_bestPoise b mi) (r_X4_bestPoise o a mi) b (s_X4_bestPoise o a mi) a := by
  sorry
theorem ag_crack {b : XBr} {o : MO} {a : MS} (h : Rel b o a) : r_X2_crack b = r_X4_crack o a ∧ Rel (s_X2_crack b) (s_X4_crack o a).1 (s_X4_crack o a).2 ∧ (s_X2_crack b).1 0 = b.1 0 := by
  sorry
theorem ag_speed {b : XBr} {o : MO} {a : MS} (h : Rel b o a) (up : Int32) : r_X2_speed b up = r_X4_speed o a up ∧ Rel b (s_X4_speed o a up) a := by
  sorry
theorem ag_mean {b : XBr} {o : MO} {a : MS} (h : Rel b o a) : r_X2_mean b = r_X4_mean o a ∧ Rel b (s_X4_mean o a) a := by
  sorry
theorem ag_digest {b : XBr} {o : MO} {a : MS} (h : Rel b o a) : r_X2_digest b = r_X4_digest o a ∧ Rel b (s_X4_digest o a) a := by
  sorry
