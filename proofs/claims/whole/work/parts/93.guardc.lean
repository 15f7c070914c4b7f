/-! ===== guard: the class's search ===== -/
def gG (wk : Nat → Int32) (B : Nat) (G : Int32) (x : Nat) : Bool := decide (nI x &&& (nI B ^^^ -1) = 0) && decide (wk x &&& G = 0)
def InvG (g : Nat → Bool) (B k : Nat) (b : Int32) : Prop := ∃ x, b = nI x ∧ (x < k ∨ x = B) ∧ g x = true ∧ ∀ y, (y < k ∨ y = B) → g y = true → pcN 8 x < pcN 8 y ∨ (pcN 8 x = pcN 8 y ∧ x ≤ y)
theorem guardC {σ1 : gx_R} {A B p : Nat} {wk : Nat → Int32} {G : Int32} (hB : B < 256) (hwk : ∀ x, x < 256 → Cl_spread ((1 : Int32) <<< (nI p &&& 31)) (nI A &&& (nI x ^^^ -1)) σ1 = some (wk x, σ1)) : ∀ m k n b, k + m = B → m < n → InvG (gG wk B G) B k b → ∃ v, Qu_leastGuard_24 n (nI p) G (nI A) (nI B) b (nI k) σ1 = some (v, σ1) ∧ InvG (gG wk B G) B B v := by
  intro m
  induction m with
  | zero =>
    intro k n b hk hn hI
    obtain ⟨n, rfl⟩ : ∃ q, n = q + 1 := ⟨n - 1, by omega⟩
    have e : k = B := by omega
    subst e
    exact ⟨b, by rw [Qu_leastGuard_24, Qu_leastGuard_24_B, if_pos Int32.le_rfl], hI⟩
  | succ m ih =>
    intro k n b hk hn hI
    obtain ⟨n, rfl⟩ : ∃ q, n = q + 1 := ⟨n - 1, by omega⟩
    have c1 : ¬ nI B ≤ nI k := by rw [nI_leI (by omega) (by omega)]; omega
    obtain ⟨x, rfl, hx, hg, hb⟩ := id hI
    have p1 := pcN_8 x
    have p2 := pcN_8 k
    have x8 : x < 256 := by omega
    have no : gG wk B G k = false → InvG (gG wk B G) B (k + 1) (nI x) := by
      intro h
      refine ⟨x, rfl, by omega, hg, fun y hy gy => ?_⟩
      by_cases e : y = k
      · subst e; rw [h] at gy; cases gy
      · exact hb y (by omega) gy
    rw [Qu_leastGuard_24, Qu_leastGuard_24_B, if_neg c1, bitCount_v (by omega), w_bd, bitCount_v x8, w_bd]
    by_cases hc : pcN 8 x ≤ pcN 8 k
    · rw [if_pos ((nI_leI (by omega) (by omega)).mpr hc), Qu_leastGuard_35, if_pos rfl, Qu_leastGuard_60, nI_1]
      refine ih (k + 1) n (nI x) (by omega) (by omega) ⟨x, rfl, by omega, hg, fun y hy gy => ?_⟩
      by_cases e : y = k
      · subst e
        by_cases hxB : x = B
        · subst hxB
          have hs := of_decide_eq_true (Bool.and_eq_true_iff.mp gy).1
          rcases pcN_lt 8 y x (by omega) (by omega) (sub_nat (by omega) hs) with z | z <;> omega
        · omega
      · exact hb y (by omega) gy
    · rw [if_neg (fun z => hc ((nI_leI (by omega) (by omega)).mp z)), Qu_leastGuard_35, if_neg (by decide)]
      by_cases hs : nI k &&& (nI B ^^^ -1) = 0
      · rw [if_pos hs, hwk k (by omega), w_bd]
        by_cases hw : wk k &&& G = 0
        · have hgk : gG wk B G k = true := by unfold gG; rw [decide_eq_true hs, decide_eq_true hw]; rfl
          rw [if_pos hw, Qu_leastGuard_60, nI_1]
          refine ih (k + 1) n (nI k) (by omega) (by omega) ⟨k, rfl, by omega, hgk, fun y hy gy => ?_⟩
          by_cases e : y = k
          · subst e; exact Or.inr ⟨rfl, Nat.le_refl _⟩
          · have := hb y (by omega) gy; omega
        · have hgk : gG wk B G k = false := by unfold gG; rw [decide_eq_false hw, Bool.and_false]
          rw [if_neg hw, Qu_leastGuard_60, nI_1]
          exact ih (k + 1) n (nI x) (by omega) (by omega) (no hgk)
      · have hgk : gG wk B G k = false := by unfold gG; rw [decide_eq_false hs, Bool.false_and]
        rw [if_neg hs, Qu_leastGuard_60, nI_1]
        exact ih (k + 1) n (nI x) (by omega) (by omega) (no hgk)
