/-! THE TWO SIDES TOGETHER: the bridge b, the model's outer part o and state a -/
def RelN (n : Nat) (b : XBr) (o : MO) (a : MS) : Prop :=
  (n ≤ 40 ∧ o.1 1 = nI n ∧ b.2.2.1 0 = nI n) ∧
  (b.1 0 = a.1 0 ∧ b.1 1 = a.1 1 ∧ b.1 2 = a.1 2 ∧ b.1 3 = a.1 3 ∧ b.1 4 = a.1 4 ∧ b.1 6 = a.1 5 ∧ b.1 8 = a.1 6) ∧
  (∀ j, j < 8 → b.2.1 j = o.2 3 j) ∧
  (∀ k, k < n → b.2.2.2 0 k = o.2 0 k ∧ b.2.2.2 1 k = o.2 1 k ∧ b.2.2.2 2 k = a.2 0 k ∧ b.2.2.2 3 k = o.2 2 k ∧ b.2.2.2 4 k = a.2 3 k) ∧
  (∀ k, k < n → a.2 1 k = (if a.2 0 k = 0 then a.1 0 else b.2.2.2 5 k) - o.2 2 k) ∧
  (∀ k, k < n → a.2 2 k = if nI k = a.1 5 then b.1 7 else 0) ∧
  (b.2.2.1 1 = m_cnt o a 2 2 n ∧ b.2.2.1 2 = m_cnt o a 0 1 n ∧ b.2.2.1 3 = m_cnt o a 0 0 n ∧ b.2.2.1 4 = m_first o a 1 n 0 ∧ b.2.2.1 5 = m_first o a 0 n 0 ∧ b.1 5 = m_sum (a.2 1) n) ∧
  (∀ k, k < n → (o.2 0 k = 0 ∨ o.2 0 k = 1) ∧ 1 ≤ (o.2 1 k).toInt ∧ (o.2 1 k).toInt ≤ 6 ∧ 0 ≤ (a.2 1 k).toInt ∧ (a.2 1 k).toInt ≤ (a.1 0).toInt) ∧
  (a.1 5 = -1 ∨ ∃ j, j < n ∧ a.1 5 = nI j ∧ a.2 0 j = 1 ∧ 1 ≤ (b.1 7).toInt ∧ (b.1 7).toInt ≤ 6) ∧
  (0 ≤ (a.1 1).toInt ∧ (a.1 1).toInt ≤ 60 ∧ 0 ≤ (a.1 2).toInt ∧ (a.1 2).toInt ≤ 30 ∧ (a.1 6 = 0 ∨ a.1 6 = 1) ∧ 0 ≤ (a.1 0).toInt ∧ 0 ≤ (a.1 4).toInt ∧ (a.1 4).toInt ≤ 4) ∧
  (∀ k, n ≤ k → k < 40 → a.2 0 k = 0 ∧ a.2 1 k = 0 ∧ a.2 2 k = 0)
def Rel (b : XBr) (o : MO) (a : MS) : Prop := ∃ n : Nat, RelN n b o a
theorem nOk_n {n : Nat} (h : n ≤ 40) : nOk (nI n) := by
  unfold nOk
  rw [nI_toInt (by omega)]
  omega
theorem Rel.nO {b : XBr} {o : MO} {a : MS} (h : Rel b o a) : nOk (o.1 1) := by
  obtain ⟨n, ⟨h1, h2, h3⟩, -⟩ := h
  rw [h2]
  exact nOk_n h1
theorem Rel.nB {b : XBr} {o : MO} {a : MS} (h : Rel b o a) : nOk (b.2.2.1 0) := by
  obtain ⟨n, ⟨h1, h2, h3⟩, -⟩ := h
  rw [h3]
  exact nOk_n h1
theorem Rel.me {b : XBr} {o : MO} {a : MS} (h : Rel b o a) : b.1 0 = a.1 0 := by
  obtain ⟨n, -, ⟨h1, -⟩, -⟩ := h
  exact h1
theorem Rel.m0 {b : XBr} {o : MO} {a : MS} (h : Rel b o a) : 0 ≤ (b.1 0).toInt := by
  rw [h.me]
  obtain ⟨n, -, -, -, -, -, -, -, -, -, ⟨-, -, -, -, -, h1, -⟩, -⟩ := h
  exact h1
theorem Rel.z {b : XBr} {o : MO} {a : MS} (h : Rel b o a) : b.1 8 = 0 ∨ b.1 8 = 1 := by
  obtain ⟨n, -, ⟨-, -, -, -, -, -, h8⟩, -, -, -, -, -, -, -, ⟨-, -, -, -, h1, -⟩, -⟩ := h
  rw [h8]
  exact h1
theorem Rel.p {b : XBr} {o : MO} {a : MS} (h : Rel b o a) : pOk (a.1 5) := by
  obtain ⟨n, ⟨h1, -, -⟩, -, -, -, -, -, -, -, h9, -, -⟩ := h
  rcases h9 with h9 | ⟨j, hj, h9, -⟩
  · exact Or.inl h9
  · rw [h9]
    exact Or.inr (vp_in_nI (by omega) (by omega))
/-- what an op owes: the same refusal, the same answer, the two sides together, at most 240 minutes more -/
def Agree (b : XBr) (x r r' : Int32) (b' : XBr) (o' : MO) (a' : MS) : Prop := x = o'.1 0 ∧ (x = 0 → r = r') ∧ Rel b' o' a' ∧ (b'.1 0).toInt ≤ (b.1 0).toInt + 240
theorem Rel.start : Rel B0 O0 S0 := by
  refine ⟨0, ⟨by decide, by decide, by decide⟩, ⟨rfl, rfl, rfl, rfl, rfl, rfl, rfl⟩, fun _ _ => rfl, fun k hk => absurd hk (Nat.not_lt_zero k), fun k hk => absurd hk (Nat.not_lt_zero k), fun k hk => absurd hk (Nat.not_lt_zero k), ⟨rfl, rfl, rfl, rfl, rfl, rfl⟩, fun k hk => absurd hk (Nat.not_lt_zero k), Or.inl rfl, ⟨by decide, by decide, by decide, by decide, Or.inl rfl, by decide, by decide, by decide⟩, fun _ _ _ => ⟨rfl, rfl, rfl⟩⟩
