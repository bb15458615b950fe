/-! pure rows: small numbers -/
def nOk (x : Int32) : Prop := 0 ≤ x.toInt ∧ x.toInt ≤ 40
abbrev imx (x y : Int32) : Int32 := if x < y then y else x
abbrev imn (x y : Int32) : Int32 := if y < x then y else x
theorem clampInt (x : Int32) : x.toNatClampNeg = x.toInt.toNat := rfl
theorem vinN {x : Int32} {n : Nat} (h0 : 0 ≤ x.toInt) (h1 : x.toInt < (n : Int)) : vp_in x n := by
  intro h
  rcases h with h | h
  · have h2 := Int32.lt_iff_toInt_lt.mp h
    have h3 : (0 : Int32).toInt = 0 := by decide
    omega
  · rw [clampInt] at h
    omega
theorem vin40 {x : Int32} (h0 : 0 ≤ x.toInt) (h1 : x.toInt < 40) : vp_in x 40 := vinN h0 h1
theorem nOk_le {x : Int32} (h : nOk x) : x.toNatClampNeg ≤ 40 := by
  rw [clampInt]
  have := h.1
  have := h.2
  omega
theorem i_bm {a : Int} (h1 : -2147483648 ≤ a) (h2 : a < 2147483648) : a.bmod 4294967296 = a := by
  rw [Int.bmod_def]
  split <;> omega
theorem i_m1 {k : Int} (h : 0 ≤ k ∧ k < 100) : (k + (-1 : Int32).toInt).bmod (2 ^ 32) = k - 1 := by
  have h3 : (-1 : Int32).toInt = -1 := by decide
  rw [h3]
  exact i_bm (by omega) (by omega)
theorem toInt_addS {x y : Int32} (h1 : -2147483648 ≤ x.toInt + y.toInt) (h2 : x.toInt + y.toInt < 2147483648) : (x + y).toInt = x.toInt + y.toInt := by
  rw [Int32.toInt_add]
  exact i_bm h1 h2
theorem toInt_subS {x y : Int32} (h1 : -2147483648 ≤ x.toInt - y.toInt) (h2 : x.toInt - y.toInt < 2147483648) : (x - y).toInt = x.toInt - y.toInt := by
  rw [Int32.toInt_sub]
  exact i_bm h1 h2
theorem nOk_m1 {x : Int32} (h : nOk x) : (x - 1).toInt = (x.toNatClampNeg : Int) - 1 := by
  have h3 : (1 : Int32).toInt = 1 := by decide
  have h1 := h.1
  have h2 := h.2
  rw [toInt_subS (by omega) (by omega), clampInt, h3]
  omega
theorem nOk_p1 {x : Int32} (h : nOk x) (h2 : x.toInt < 40) : nOk (x + 1) := by
  have h3 : (1 : Int32).toInt = 1 := by decide
  have h1 := h.1
  unfold nOk
  rw [toInt_addS (by omega) (by omega), h3]
  omega
def mOk (x : Int32) : Prop := 0 ≤ x.toInt ∧ x.toInt < 2000000000
theorem d60 {x : Int32} (h : 0 ≤ x.toInt) : (x / (60 : Int32)).toInt = x.toInt / 60 := by
  have h3 : (60 : Int32).toInt = 60 := by decide
  rw [Int32.toInt_div_of_ne_right _ _ (by decide), h3, Int.tdiv_eq_ediv_of_nonneg h]
theorem d8 {x : Int32} (h : 0 ≤ x.toInt) : (x / (8 : Int32)).toInt = x.toInt / 8 := by
  have h3 : (8 : Int32).toInt = 8 := by decide
  rw [Int32.toInt_div_of_ne_right _ _ (by decide), h3, Int.tdiv_eq_ediv_of_nonneg h]
theorem r8 {y : Int32} (h : 0 ≤ y.toInt) (h2 : y.toInt < 2000000000) : (y - y / (8 : Int32) * (8 : Int32)).toInt = y.toInt - y.toInt / 8 * 8 := by
  have h3 : (8 : Int32).toInt = 8 := by decide
  have h4 : (y / (8 : Int32) * (8 : Int32)).toInt = y.toInt / 8 * 8 := by
    rw [Int32.toInt_mul, d8 h, h3]
    exact i_bm (by omega) (by omega)
  rw [toInt_subS (by rw [h4]; omega) (by rw [h4]; omega), h4]
theorem hr_in {x : Int32} (h : mOk x) : vp_in ((x / (60 : Int32)) - (x / (60 : Int32)) / (8 : Int32) * (8 : Int32)) 8 := by
  have h0 := h.1
  have h1 := h.2
  have h2 := d60 h0
  have h3 := r8 (y := x / (60 : Int32)) (by rw [h2]; omega) (by rw [h2]; omega)
  exact vinN (by rw [h3]; omega) (by rw [h3]; omega)
theorem xor8 {y : Int32} (h : 0 ≤ y.toInt) : 0 ≤ y ^^^ (8 : Int32) := by
  have h' : 0 ≤ y.toBitVec.toInt := h
  have h1 : y.toBitVec.msb = false := by
    rw [BitVec.msb_eq_toInt]
    exact decide_eq_false (by omega)
  have h2 : (y ^^^ (8 : Int32)).toBitVec.msb = false := by
    rw [Int32.toBitVec_xor, BitVec.msb_xor, h1]
    decide
  rw [BitVec.msb_eq_toInt] at h2
  have h3 := of_decide_eq_false h2
  rw [Int32.le_iff_toInt_le]
  have h4 : (0 : Int32).toInt = 0 := by decide
  rw [h4]
  show 0 ≤ (y ^^^ (8 : Int32)).toBitVec.toInt
  omega
