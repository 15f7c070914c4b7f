/-! ===== a set of people ===== -/
theorem every_v {P : Nat} (hP : P ≤ 8) : ((1 : Int32) <<< (nI P &&& 31)) - 1 = nI (2 ^ P - 1) := by
  rcases (show P = 0 ∨ P = 1 ∨ P = 2 ∨ P = 3 ∨ P = 4 ∨ P = 5 ∨ P = 6 ∨ P = 7 ∨ P = 8 by omega) with rfl | rfl | rfl | rfl | rfl | rfl | rfl | rfl | rfl <;> decide
theorem pow_8 {P : Nat} (hP : P ≤ 8) : 2 ^ P ≤ 256 := Nat.pow_le_pow_right (n := 2) (j := 8) (by omega) hP
theorem group_sub {P : Nat} (hP : P ≤ 8) (a : Int32) : a &&& (nI (2 ^ P - 1) ^^^ -1) = 0 ↔ ∃ k, k < 2 ^ P ∧ a = nI k := by
  have h2 := pow_8 hP
  have h3 : 0 < 2 ^ P := Nat.two_pow_pos P
  constructor
  · intro h
    obtain ⟨k, hk, rfl⟩ := set_n (x := a) (fun i hi hb => by
      have h4 : bt (a &&& (nI (2 ^ P - 1) ^^^ -1)) i = false := by rw [h, b_0]
      rw [b_and, b_not hi, hb, Bool.true_and, bt_n _ hi, Nat.testBit_two_pow_sub_one] at h4
      have : i < P := by simpa using h4
      omega)
    have := sub_le hk (show 2 ^ P - 1 < 256 by omega) h
    exact ⟨k, by omega, rfl⟩
  · rintro ⟨k, hk, rfl⟩
    apply b_ext
    intro i hi
    rw [b_0, b_and, b_not hi, bt_n _ hi, bt_n _ hi, Nat.testBit_two_pow_sub_one]
    by_cases h : i < P
    · rw [decide_eq_true h]; simp
    · rw [Nat.testBit_lt_two_pow (Nat.lt_of_lt_of_le hk (Nat.pow_le_pow_right (n := 2) (by omega) (show P ≤ i by omega)))]; rfl
def gpB (P : Nat) (a : Int32) : Bool := decide (¬ a < 1 ∧ ¬ nI (2 ^ P - 1) < a)
theorem gp_n {P : Nat} {a : Int32} (hP : P ≤ 8) (h : gpB P a = true) : ∃ k, 1 ≤ k ∧ k < 2 ^ P ∧ a = nI k := by
  have h2 := pow_8 hP
  have h3 : 0 < 2 ^ P := Nat.two_pow_pos P
  obtain ⟨h4, h5⟩ := of_decide_eq_true h
  by_cases h6 : 1 ≤ 2 ^ P - 1
  · obtain ⟨k, k1, k2, k3⟩ := in_nat (l := 1) (u := 2 ^ P - 1) (by omega) h6 h4 h5
    exact ⟨k, k1, by omega, k3⟩
  · rw [show 2 ^ P - 1 = 0 by omega] at h5
    have h7 : ¬ (0 : Int32) < a := h5
    exact absurd (by grind) h4
theorem isSet_v {τ : gx_R} {P : Nat} (hP : P ≤ 8) (h0 : τ 110 0 = nI P) (a : Int32) : Md_isSet a τ = some (bI (gpB P a), τ) := by
  rw [Md_isSet, show (0 : Int32).toNatClampNeg = 0 from rfl, h0, every_v hP, Md_in_v, w_bd, bI_bo, w_ck]; rfl
theorem isGroup_v {σ : gx_R} {P : Nat} (hP : P ≤ 8) (h0 : σ 2 0 = nI P) (a : Int32) : Fo_isGroup a 1 8 σ = some (bI (gpB P a), σ) := by
  obtain ⟨c, hc⟩ : ∃ c, Jd_bitCount a σ = some (c, σ) := ⟨_, rfl⟩
  rw [Fo_isGroup, hc, w_bd, Fo_everyone, w_bd, h0, every_v hP]
  have h2 := pow_8 hP
  have h3 : 0 < 2 ^ P := Nat.two_pow_pos P
  by_cases hs : a &&& (nI (2 ^ P - 1) ^^^ -1) = 0
  · obtain ⟨k, hk, rfl⟩ := (group_sub hP a).mp hs
    have hk8 : k < 256 := by omega
    rw [bitCount_v hk8] at hc
    have e : c = nI (pcN 8 k) := by cases hc; rfl
    subst e
    have p8 := pcN_8 k
    have z8 : ¬ (8 : Int32) < nI (pcN 8 k) := fun z => by have := (nI_ltI (a := 8) (by omega) (by omega)).mp z; omega
    have zk : ¬ nI (2 ^ P - 1) < nI k := fun z => by have := (nI_ltI (by omega) (by omega)).mp z; omega
    rw [if_pos hs]
    by_cases k0 : k = 0
    · subst k0
      rw [if_pos (by decide), show gpB P (nI 0) = false from decide_eq_false (fun z => z.1 (by decide))]; rfl
    · have pk : 1 ≤ pcN 8 k := (by decide +kernel : ∀ k, k < 256 → k ≠ 0 → 1 ≤ pcN 8 k) k hk8 k0
      have z1 : ¬ nI (pcN 8 k) < 1 := fun z => by have := (nI_ltI (b := 1) (by omega) (by omega)).mp z; omega
      have z2 : ¬ nI k < 1 := fun z => by have := (nI_ltI (b := 1) (by omega) (by omega)).mp z; omega
      rw [if_neg z1, if_neg z8, show gpB P (nI k) = true from decide_eq_true ⟨z2, zk⟩]; rfl
  · have hg : gpB P a = false := by
      cases h : gpB P a with
      | false => rfl
      | true =>
        obtain ⟨k, -, k2, k3⟩ := gp_n hP h
        exact absurd ((group_sub hP a).mpr ⟨k, k2, k3⟩) hs
    rw [if_neg hs, hg]; rfl
