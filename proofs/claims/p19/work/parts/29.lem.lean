/-! what the law's walk asks besides -/
def lwC (p : Program) (s : State) (m : MethodId) (c : Code) (b0 L : Nat) (sc : Nat → Int32) (D : va_G) (I : ClassId) : Prop :=
  p.tables.exec = Jvm.exec ∧ c.code = cL_law ∧ c.maxLocals = 33 ∧ s.vm.findClass RL = some m.cls ∧ (∀ w ∈ wsL_law, w.before #[Value.ref b0] s = true) ∧ va_X b0 L sc s s.heap ∧ b0 < s.heap.size ∧ va_K D vwCl [(I, .int)] s ∧ xNw s ∧ xX (fun q : Nat => s.heap.size ≤ q) s s.heap ∧ (Cond.arrayOver (.array .int)).before #[Value.ref b0] s = true
theorem cf_up {cf : Nat → Int32} {f : Nat → Int32} {k : Nat} (h : ∀ j, j < k → cf j = f j) : ∀ j, j < k + 1 → upd cf k (f k) j = f j := by
  intro j hj
  by_cases c : j = k
  · subst c
    exact upd_at _ _ _
  · rw [upd_ne c]
    exact h j (by omega)
theorem lt40_n {n : Nat} (h : ¬ (40 : Int32) ≤ nI n) (hn : n ≤ 40) : n < 40 := by
  by_cases c : n = 40
  · subst c
    exact absurd (by decide) h
  · omega
theorem pos_nI {n : Nat} (h : ¬ nI n = 0) : 0 < n := by
  by_cases c : n = 0
  · subst c
    exact absurd rfl h
  · omega
theorem pos0_nI {n : Nat} (h : nI n = 0) (hn : n ≤ 40) : n = 0 := nI_inj (by omega) (by omega) h
theorem pos_le {n : Nat} (h : ¬ nI n ≤ 0) : 0 < n := by
  by_cases c : n = 0
  · subst c
    exact absurd (by decide) h
  · omega
theorem code4 {n : Nat} {b : XBr} (h : Iv n b) : b.1 4 ≤ 4 := by
  have e4 : (4 : Int32).toInt = 4 := by decide
  obtain ⟨-, ⟨-, -, -, -, -, -, q, -⟩, -⟩ := h
  rw [ile]
  omega
theorem poise0 {n : Nat} {b : XBr} (h : Iv n b) : ¬ b.1 2 < 0 := by
  obtain ⟨-, ⟨-, -, -, q, -⟩, -⟩ := h
  rw [ilt, i0]
  omega
theorem row_a {G : Nat → Nat → Int32} {r : Nat → Nat} {b : XBr} {k w : Nat} (h : ∀ x, x < w → G (r k) x = fc b k x) : ∀ x, x < w + 1 → xa G (r k) (upd (G (r k)) w (fc b k w)) (r k) x = fc b k x := by
  intro x hx
  rw [xa_eq]
  by_cases c : x = w
  · subst c
    exact upd_at _ _ _
  · rw [upd_ne c]
    exact h x (by omega)
theorem rows_b {n : Nat} {G : Nat → Nat → Int32} {r : Nat → Nat} {b : XBr} {k : Nat} {g : Nat → Int32} (hinj : ∀ i j : Nat, i < n → j < n → r i = r j → i = j) (hk : k < n) (h : ∀ i, i < k → ∀ x, x < 7 → G (r i) x = fc b i x) : ∀ i, i < k → ∀ x, x < 7 → xa G (r k) g (r i) x = fc b i x := by
  intro i hi x hx
  rw [xa_ne (fun e => by
    have := hinj i k (by omega) hk e
    omega)]
  exact h i hi x hx
theorem rows_all {G : Nat → Nat → Int32} {r : Nat → Nat} {b : XBr} {k : Nat} (h1 : ∀ i, i < k → ∀ x, x < 7 → G (r i) x = fc b i x) (h2 : ∀ x, x < 7 → G (r k) x = fc b k x) : ∀ i, i < k + 1 → ∀ x, x < 7 → G (r i) x = fc b i x := by
  intro i hi x hx
  by_cases c : i = k
  · subst c
    exact h2 x hx
  · exact h1 i (by omega) x hx
theorem tf4 (b : XBr) {f : Nat → Int32} : ∀ w, w < 4 → upd (upd (upd (upd f 0 (fo b 0)) 1 (fo b 1)) 2 (fo b 2)) 3 (fo b 3) w = fo b w := by
  intro w hw
  rcases (show w = 0 ∨ w = 1 ∨ w = 2 ∨ w = 3 by omega) with rfl | rfl | rfl | rfl
  · rfl
  · rfl
  · rfl
  · rfl
theorem gsA {b : XBr} {i : Nat} (c : nI i = b.1 6) : (1 : Int32) = gsI b i := (if_pos c).symm
theorem gsB {b : XBr} {i : Nat} (c : ¬ nI i = b.1 6) (d : bgI b = 0) : (0 : Int32) = gsI b i := by
  unfold gsI
  rw [if_neg c, if_pos d]
theorem gsC {b : XBr} {i : Nat} {nx : Int32} (c : ¬ nI i = b.1 6) (d : ¬ bgI b = 0) (e : nx = r_X0_servedNext b) (f : nI i = nx) : (1 : Int32) = gsI b i := by
  unfold gsI
  rw [if_neg c, if_neg d, if_pos (f.trans e)]
theorem gsD {b : XBr} {i : Nat} {nx : Int32} (c : ¬ nI i = b.1 6) (d : ¬ bgI b = 0) (e : nx = r_X0_servedNext b) (f : ¬ nI i = nx) : (0 : Int32) = gsI b i := by
  unfold gsI
  rw [if_neg c, if_neg d, if_neg (fun q => f (q.trans e.symm))]
