/-! ===== words for the answers of the shallow functions ===== -/
theorem w_bd {α β : Type} (a : α) (s : gx_R) (k : α → gx_R → Option β) : z_bd (some (a, s)) k = k a s := rfl
theorem w_ck {α : Type} (x : Option α) : z_ck true x = x := rfl
def bI (b : Bool) : Int32 := match b with | true => 1 | false => 0
theorem bI_0 (b : Bool) : bI b = 0 ↔ b = false := by cases b <;> decide
theorem bI_1 (b : Bool) : bI b = 1 ↔ b = true := by cases b <;> decide
theorem bI_t : bI true = 1 := rfl
theorem bI_f : bI false = 0 := rfl
theorem bI_bo (b : Bool) : z_bo (bI b) = true := by cases b <;> decide
theorem bo_0 : z_bo 0 = true := by decide
theorem bo_1 : z_bo 1 = true := by decide
theorem ix_n {k n : Nat} (hk : k < 2 ^ 31) : z_ix (nI k) n = decide (k < n) := by
  have h1 : decide (nI k < 0) = false := decide_eq_false (nI_pos hk)
  have h2 : Nat.blt k n = decide (k < n) := by
    cases h : Nat.blt k n with
    | true => exact (decide_eq_true (Nat.blt_eq.mp h)).symm
    | false => exact (decide_eq_false (fun q => by rw [Nat.blt_eq.mpr q] at h; cases h)).symm
  simp only [z_ix, h1, nI_clamp hk, Bool.not_false, Bool.true_and, h2]
theorem ix_t {k n : Nat} (h : k < n) (hn : n < 2 ^ 31) : z_ix (nI k) n = true := z_ix_iff.mpr (vp_in_nI h hn)
theorem ix_ex {a : Int32} {n : Nat} (h : z_ix a n = true) (hn : n < 2 ^ 31) : ∃ k, k < n ∧ a = nI k := vp_in_of (z_ix_in h) hn
theorem cl_n {k : Nat} (h : k < 2 ^ 31) : (nI k).toNatClampNeg = k := nI_clamp h
theorem ix_lt {a : Int32} {n : Nat} (hn : n < 2 ^ 31) : z_ix a n = true ↔ ¬ a < 0 ∧ a < nI n := by
  constructor
  · intro h
    obtain ⟨k, hk, rfl⟩ := ix_ex h hn
    exact ⟨nI_pos (by omega), nI_lt hk hn⟩
  · rintro ⟨h1, h2⟩
    obtain ⟨k, hk, rfl⟩ := nI_of h1
    exact ix_t ((nI_ltI hk hn).mp h2) hn
theorem up_e (σ : gx_R) (k j : Nat) (x : Int32) : gx_up σ k j x k j = x := by simp [gx_up]
theorem up_c (σ : gx_R) {k k' : Nat} (j j' : Nat) (x : Int32) (h : k' ≠ k) : gx_up σ k j x k' j' = σ k' j' := by simp [gx_up, h]
theorem up_p (σ : gx_R) (k : Nat) {j j' : Nat} (x : Int32) (h : j' ≠ j) : gx_up σ k j x k j' = σ k j' := by simp [gx_up, h]
example (a b : Int32) (h : a < b) (h2 : b ≤ 9) (h3 : 0 ≤ a) : ¬ (10 ≤ a) := by grind
example (a b : Int32) (h : a < b) (h2 : b ≤ 9) (h3 : 0 ≤ a) : a + 1 ≤ 9 := by grind
example (σ : gx_R) (a : Int32) (j : Nat) (h : j < 8) : gx_up (gx_up σ 10 j a) 12 j 0 10 j = a := by grind [gx_up]
