/-! ===== the least set ===== -/
def Best (g : Nat → Bool) (c : Nat → Nat) (n : Nat) (b : Int32) : Prop := (b = -1 ∧ ∀ x, x < n → g x = false) ∨ ∃ x, x < n ∧ b = nI x ∧ g x = true ∧ ∀ y, y < n → g y = true → c x < c y ∨ (c x = c y ∧ x ≤ y)
theorem Best_0 (g : Nat → Bool) (c : Nat → Nat) : Best g c 0 (-1) := Or.inl ⟨rfl, fun x hx => absurd hx (by omega)⟩
theorem Best_eq {g : Nat → Bool} {c : Nat → Nat} {n : Nat} {b b' : Int32} (h : Best g c n b) (h' : Best g c n b') : b = b' := by
  rcases h with ⟨h1, h2⟩ | ⟨x, h1, h2, h3, h4⟩
  · rcases h' with ⟨k1, k2⟩ | ⟨y, k1, k2, k3, k4⟩
    · rw [h1, k1]
    · rw [h2 y k1] at k3; cases k3
  · rcases h' with ⟨k1, k2⟩ | ⟨y, k1, k2, k3, k4⟩
    · rw [k2 x h1] at h3; cases h3
    · have e : x = y := by
        have z1 := h4 y k1 k3
        have z2 := k4 x h1 h3
        omega
      rw [h2, k2, e]
theorem Best_no {g : Nat → Bool} {c : Nat → Nat} {n : Nat} {b : Int32} (h : Best g c n b) (hg : g n = false) : Best g c (n + 1) b := by
  rcases h with ⟨h1, h2⟩ | ⟨x, h1, h2, h3, h4⟩
  · refine Or.inl ⟨h1, fun x hx => ?_⟩
    by_cases e : x = n
    · subst e; exact hg
    · exact h2 x (by omega)
  · refine Or.inr ⟨x, by omega, h2, h3, fun y hy gy => ?_⟩
    by_cases e : y = n
    · subst e; rw [hg] at gy; cases gy
    · exact h4 y (by omega) gy
theorem Best_keep {g : Nat → Bool} {c : Nat → Nat} {n x : Nat} (hn : n < 2 ^ 31) (hx : x < 2 ^ 31) (h : Best g c n (nI x)) (hc : c x ≤ c n) : Best g c (n + 1) (nI x) := by
  rcases h with ⟨h1, h2⟩ | ⟨x', h1, h2, h3, h4⟩
  · have : (0 : Int32) ≤ nI x := by rw [← nI_0, nI_leI (by omega) hx]; omega
    rw [h1] at this
    exact absurd this (by decide)
  · have e : x = x' := (nI_eq hx (by omega)).mp h2
    subst e
    refine Or.inr ⟨x, by omega, rfl, h3, fun y hy gy => ?_⟩
    by_cases e : y = n
    · subst e; omega
    · exact h4 y (by omega) gy
theorem Best_new {g : Nat → Bool} {c : Nat → Nat} {n : Nat} {b : Int32} (h : Best g c n b) (hg : g n = true) (hc : ∀ x, x < n → b = nI x → c n < c x) : Best g c (n + 1) (nI n) := by
  refine Or.inr ⟨n, by omega, rfl, hg, fun y hy gy => ?_⟩
  by_cases e : y = n
  · subst e; exact Or.inr ⟨rfl, Nat.le_refl _⟩
  · rcases h with ⟨h1, h2⟩ | ⟨x, h1, h2, h3, h4⟩
    · rw [h2 y (by omega)] at gy; cases gy
    · have z1 := h4 y (by omega) gy
      have z2 := hc x h1 h2
      omega
theorem Best_up {g : Nat → Bool} {c : Nat → Nat} {n m : Nat} {b : Int32} (hnm : n ≤ m) (hg : ∀ x, n ≤ x → x < m → g x = false) (h : Best g c n b) : Best g c m b := by
  induction m with
  | zero => have e : n = 0 := by omega
            subst e; exact h
  | succ m ih =>
    by_cases e : n = m + 1
    · subst e; exact h
    · exact Best_no (ih (by omega) (fun x h1 h2 => hg x h1 (by omega))) (hg m (by omega) (by omega))
/-- the first of one size after none of a smaller one is the best -/
theorem Best_sz {g : Nat → Bool} {c : Nat → Nat} {n x s : Nat} (hx : x < n) (hg : g x = true) (hs : c x = s) (h1 : ∀ y, y < n → g y = true → s ≤ c y) (h2 : ∀ y, y < x → g y = true → c y ≠ s) : Best g c n (nI x) := by
  refine Or.inr ⟨x, hx, rfl, hg, fun y hy gy => ?_⟩
  have z1 := h1 y hy gy
  by_cases e : c y = s
  · refine Or.inr ⟨by omega, ?_⟩
    rcases Nat.lt_or_ge y x with z | z
    · exact absurd e (h2 y z gy)
    · exact z
  · exact Or.inl (by omega)
theorem sub_le {x A : Nat} (hx : x < 256) (hA : A < 256) (h : nI x &&& (nI A ^^^ -1) = 0) : x ≤ A := by
  have e : x &&& A = x := by
    apply Nat.eq_of_testBit_eq
    intro i
    rw [Nat.testBit_and]
    cases hb : x.testBit i with
    | false => rfl
    | true =>
      have hi : i < 32 := by
        rcases Nat.lt_or_ge i 8 with z | z
        · omega
        · rw [tb_f hx z] at hb; cases hb
      have hb2 : bt (nI x) i = true := (bt_n x hi).trans hb
      have h3 : bt (nI x &&& (nI A ^^^ -1)) i = false := by rw [h, b_0]
      rw [b_and, b_not hi, hb2, Bool.true_and, bt_n A hi] at h3
      cases hA2 : A.testBit i with
      | true => rfl
      | false => rw [hA2] at h3; cases h3
  rw [← e]
  exact Nat.and_le_right
