/-! ===== guard: fewer are fewer ===== -/
theorem half_and (x A : Nat) : (x &&& A) / 2 = x / 2 &&& A / 2 := by
  apply Nat.eq_of_testBit_eq
  intro i
  rw [Nat.testBit_and, Nat.testBit_div_two, Nat.testBit_div_two, Nat.testBit_div_two, Nat.testBit_and]
theorem par_and {x A : Nat} (h : x &&& A = x) : x % 2 ≤ A % 2 := by
  have h1 : (x &&& A).testBit 0 = x.testBit 0 := by rw [h]
  rw [Nat.testBit_and, Nat.testBit_zero, Nat.testBit_zero] at h1
  by_cases h2 : x % 2 = 1
  · rw [decide_eq_true h2, Bool.true_and] at h1
    have := of_decide_eq_true h1
    omega
  · omega
theorem pcN_lt : ∀ m x A, x < 2 ^ m → A < 2 ^ m → x &&& A = x → pcN m x < pcN m A ∨ x = A := by
  intro m
  induction m with
  | zero => intro x A hx hA h; exact Or.inr (by simp at hx hA; omega)
  | succ m ih =>
    intro x A hx hA h
    have h2 : x / 2 &&& A / 2 = x / 2 := by rw [← half_and, h]
    have h3 := par_and h
    rw [Nat.pow_succ] at hx hA
    have e1 : pcN (m + 1) x = x % 2 + pcN m (x / 2) := rfl
    have e2 : pcN (m + 1) A = A % 2 + pcN m (A / 2) := rfl
    rcases ih (x / 2) (A / 2) (by omega) (by omega) h2 with h4 | h4
    · exact Or.inl (by omega)
    · by_cases h5 : x % 2 = A % 2
      · exact Or.inr (by omega)
      · rw [h4] at e1; exact Or.inl (by omega)
theorem sub_nat {x A : Nat} (hx : x < 256) (h : nI x &&& (nI A ^^^ -1) = 0) : x &&& A = x := by
  apply Nat.eq_of_testBit_eq
  intro i
  rw [Nat.testBit_and]
  cases hb : x.testBit i with
  | false => rfl
  | true =>
    have hi : i < 32 := by
      rcases Nat.lt_or_ge i 8 with z | z
      · omega
      · rw [tb_f hx z] at hb; cases hb
    have hb2 : bt (nI x) i = true := (bt_n x hi).trans hb
    have h3 : bt (nI x &&& (nI A ^^^ -1)) i = false := by rw [h, b_0]
    rw [b_and, b_not hi, hb2, Bool.true_and, bt_n A hi] at h3
    cases hA2 : A.testBit i with
    | true => rfl
    | false => rw [hA2] at h3; cases h3
