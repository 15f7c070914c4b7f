/-! ===== how likely enough sleep on ===== -/
def SimL (f g : gx_R → Option (Int64 × gx_R)) (σ τ : gx_R) : Prop := ∃ v σ' τ', f σ = some (v, σ') ∧ g τ = some (v, τ') ∧ Rel σ' τ' ∧ (∀ k, 109 ≤ k → σ' k = σ k) ∧ ∀ k, k < 109 → τ' k = τ k
theorem SimL_ro {f g : gx_R → Option (Int64 × gx_R)} {σ τ : gx_R} (r : Rel σ τ) (v : Int64) (h1 : f σ = some (v, σ)) (h2 : g τ = some (v, τ)) : SimL f g σ τ := ⟨v, σ, τ, h1, h2, r, fun _ _ => rfl, fun _ _ => rfl⟩
def lQ (n : Nat) : Int64 := lI (n : Int)
theorem lQ_mul (a b : Nat) : lQ a * lQ b = lQ (a * b) := by unfold lQ; rw [lI_mul, Int.natCast_mul]
theorem lQ_add (a b : Nat) : lQ a + lQ b = lQ (a + b) := by unfold lQ; rw [lI_add, Int.natCast_add]
theorem lQ_sub {a b : Nat} (h : b ≤ a) : lQ a - lQ b = lQ (a - b) := by unfold lQ; rw [lI_sub, Int.ofNat_sub h]
theorem lQ_div {a b : Nat} (h : a < 9223372036854775808) (h2 : b < 9223372036854775808) : lQ a / lQ b = lQ (a / b) := by
  unfold lQ
  rw [lI_div (by omega) (by omega) (by omega) (by omega), ← Int.ofNat_tdiv]
theorem lQ_eq {a b : Nat} (h : a < 9223372036854775808) (h2 : b < 9223372036854775808) : lQ a = lQ b ↔ a = b := by
  unfold lQ
  rw [lI_eq (by omega) (by omega) (by omega) (by omega)]
  omega
theorem lQ_mod {a b : Nat} (h : a < 9223372036854775808) (h2 : b < 9223372036854775808) : lQ a - lQ a / lQ b * lQ b = lQ (a % b) := by
  rw [lQ_div h h2, lQ_mul, lQ_sub (Nat.div_mul_le_self a b)]
  have := Nat.div_add_mod a b
  rw [Nat.mul_comm] at this
  congr 1
  omega
theorem powS_L (x n : Nat) (σ : gx_R) (hn : n < 100) : ∀ m j f, j + m = n → m < f → Sf_power_4 f (lQ x) (nI n) (lQ (x ^ j)) (nI j) σ = some (lQ (x ^ n), σ) := by
  intro m
  induction m with
  | zero =>
    intro j f h1 h2
    obtain ⟨f, rfl⟩ : ∃ q, f = q + 1 := ⟨f - 1, by omega⟩
    obtain rfl : j = n := by omega
    rw [Sf_power_4, Sf_power_4_B, if_pos ((nI_leI (by omega) (by omega)).mpr (Nat.le_refl _))]
  | succ m ih =>
    intro j f h1 h2
    obtain ⟨f, rfl⟩ : ∃ q, f = q + 1 := ⟨f - 1, by omega⟩
    rw [Sf_power_4, Sf_power_4_B, if_neg (fun z => by have := (nI_leI (by omega) (by omega)).mp z; omega), lQ_mul, ← Nat.pow_succ, show nI j + 1 = nI (j + 1) from nI_add j 1]
    exact ih (j + 1) f (by omega) (by omega)
theorem powS (x n : Nat) (σ : gx_R) (hn : n < 100) : Sf_power (lQ x) (nI n) σ = some (lQ (x ^ n), σ) := powS_L x n σ hn n 0 z_FU (by omega) (by have := z_FU_ge; omega)
theorem powM_L (x n : Nat) (σ : gx_R) (hn : n < 100) : ∀ m j f, j + m = n → m < f → Md_power_4 f (lQ x) (nI n) (lQ (x ^ j)) (nI j) σ = some (lQ (x ^ n), σ) := by
  intro m
  induction m with
  | zero =>
    intro j f h1 h2
    obtain ⟨f, rfl⟩ : ∃ q, f = q + 1 := ⟨f - 1, by omega⟩
    obtain rfl : j = n := by omega
    rw [Md_power_4, Md_power_4_B, if_pos ((nI_leI (by omega) (by omega)).mpr (Nat.le_refl _))]
  | succ m ih =>
    intro j f h1 h2
    obtain ⟨f, rfl⟩ : ∃ q, f = q + 1 := ⟨f - 1, by omega⟩
    rw [Md_power_4, Md_power_4_B, if_neg (fun z => by have := (nI_leI (by omega) (by omega)).mp z; omega), lQ_mul, ← Nat.pow_succ, show nI j + 1 = nI (j + 1) from nI_add j 1]
    exact ih (j + 1) f (by omega) (by omega)
theorem powM (x n : Nat) (σ : gx_R) (hn : n < 100) : Md_power (lQ x) (nI n) σ = some (lQ (x ^ n), σ) := powM_L x n σ hn n 0 z_FU (by omega) (by have := z_FU_ge; omega)
/-- in how many ways -/
def cN (k : Nat) : Nat → Nat
  | 0 => 1
  | j + 1 => cN k j * (k - j) / (j + 1)
def dN (k j : Nat) : Nat → Nat
  | 0 => 1
  | i + 1 => dN k j i * (k - j + (i + 1)) / (i + 1)
theorem cN_s : ∀ k, k < 6 → ∀ j, j < 6 → j ≤ k → (lQ (cN k j) * (nI k - nI j).toInt64) / (nI j + (1 : Int32)).toInt64 = lQ (cN k (j + 1)) ∧ z_nzl ((nI j + (1 : Int32)).toInt64) = true := by decide +kernel
def dC (k j i : Nat) : Bool := decide ((lQ (dN k j i) * ((nI k - nI j) + nI (i + 1)).toInt64) / (nI (i + 1)).toInt64 = lQ (dN k j (i + 1))) && z_nzl ((nI (i + 1)).toInt64)
theorem dN_t : ∀ k, k < 6 → ∀ j, j < 6 → ∀ i, i < 6 → (decide (j ≤ k) && decide (i < j)) = true → dC k j i = true := by decide +kernel
theorem dN_s (k : Nat) (hk : k < 6) (j : Nat) (hj : j < 6) (h : j ≤ k) (i : Nat) (hi : i < 6) (h2 : i < j) : (lQ (dN k j i) * ((nI k - nI j) + nI (i + 1)).toInt64) / (nI (i + 1)).toInt64 = lQ (dN k j (i + 1)) ∧ z_nzl ((nI (i + 1)).toInt64) = true := by
  obtain ⟨h3, h4⟩ := Bool.and_eq_true_iff.mp (dN_t k hk j hj i hi (by rw [decide_eq_true h, decide_eq_true h2]; rfl))
  exact ⟨of_decide_eq_true h3, h4⟩
theorem dN_c : ∀ k, k < 6 → ∀ j, j < 6 → j ≤ k → dN k j j = cN k j := by decide +kernel
theorem choices_L {k j : Nat} (hk : k < 6) (hj : j ≤ k) (σ : gx_R) : ∀ m i f, i + m = j → m < f → Md_choices_4 f (nI k) (nI j) (lQ (dN k j i)) (nI (i + 1)) σ = some (lQ (cN k j), σ) := by
  intro m
  induction m with
  | zero =>
    intro i f h1 h2
    obtain ⟨f, rfl⟩ : ∃ q, f = q + 1 := ⟨f - 1, by omega⟩
    obtain rfl : i = j := by omega
    rw [Md_choices_4, Md_choices_4_B, if_pos ((nI_ltI (by omega) (by omega)).mpr (by omega)), dN_c k hk i (by omega) hj]
  | succ m ih =>
    intro i f h1 h2
    obtain ⟨f, rfl⟩ : ∃ q, f = q + 1 := ⟨f - 1, by omega⟩
    obtain ⟨e1, e2⟩ := dN_s k hk j (by omega) hj i (by omega) (by omega)
    rw [Md_choices_4, Md_choices_4_B, if_neg (fun z => by have := (nI_ltI (by omega) (by omega)).mp z; omega), e1, e2, w_ck, show nI (i + 1) + 1 = nI (i + 1 + 1) from nI_add (i + 1) 1]
    exact ih (i + 1) f (by omega) (by omega)
theorem choices_v {k j : Nat} (hk : k < 6) (hj : j ≤ k) (σ : gx_R) : Md_choices (nI k) (nI j) σ = some (lQ (cN k j), σ) := choices_L hk hj σ j 0 z_FU (by omega) (by have := z_FU_ge; omega)
/-- the ways in which m at least sleep on, counted for the first j -/
def sN (k m s w : Nat) : Nat → Nat
  | 0 => 0
  | j + 1 => if m ≤ j then sN k m s w j + cN k j * s ^ j * w ^ (k - j) else sN k m s w j
theorem sN_0 {k m s w : Nat} : ∀ j, j ≤ m → sN k m s w j = 0 := by
  intro j
  induction j with
  | zero => intro _; rfl
  | succ j ih => intro h; rw [sN, if_neg (by omega)]; exact ih (by omega)
theorem atLeast_L {k m s w : Nat} (hk : k < 6) (hm : m < 6) (σ : gx_R) : ∀ i j f, j + i = k + 1 → i < f → Sf_atLeast_6 f (nI k) (nI m) (lQ s) (lQ w) (lQ (sN k m s w j)) (lQ (cN k j)) (nI j) σ = some (lQ (sN k m s w (k + 1)), σ) := by
  intro i
  induction i with
  | zero =>
    intro j f h1 h2
    obtain ⟨f, rfl⟩ : ∃ q, f = q + 1 := ⟨f - 1, by omega⟩
    obtain rfl : j = k + 1 := by omega
    rw [Sf_atLeast_6, Sf_atLeast_6_B, if_pos ((nI_ltI (by omega) (by omega)).mpr (by omega))]
  | succ i ih =>
    intro j f h1 h2
    obtain ⟨f, rfl⟩ : ∃ q, f = q + 1 := ⟨f - 1, by omega⟩
    obtain ⟨e1, e2⟩ := cN_s k hk j (by omega) (by omega)
    have e3 : nI j + 1 = nI (j + 1) := nI_add j 1
    have hi := ih (j + 1) f (by omega) (by omega)
    rw [Sf_atLeast_6, Sf_atLeast_6_B, if_neg (fun z => by have := (nI_ltI (by omega) (by omega)).mp z; omega)]
    by_cases h : j < m
    · rw [if_pos ((nI_ltI (by omega) (by omega)).mpr h), Sf_atLeast_26, e1, e2, w_ck, e3]
      rw [sN, if_neg (by omega)] at hi
      exact hi
    · rw [if_neg (fun z => h ((nI_ltI (by omega) (by omega)).mp z)), powS _ _ _ (by omega), w_bd, show nI k - nI j = nI (k - j) from pk_sub (by omega), powS _ _ _ (by omega), w_bd, Sf_atLeast_26, e1, e2, w_ck, e3, lQ_mul, lQ_mul, lQ_add]
      rw [sN, if_pos (by omega)] at hi
      exact hi
theorem atLeast_v {k m s w : Nat} (hk : k < 6) (hm : m < 6) (σ : gx_R) : Sf_atLeast (nI k) (nI m) (lQ s) (lQ w) σ = some (lQ (sN k m s w (k + 1)), σ) := atLeast_L hk hm σ (k + 1) 0 z_FU (by omega) (by have := z_FU_ge; omega)
/-! the greatest common divisor -/
theorem gcdS {a b : Nat} (σ : gx_R) : ∀ f a b i n, b < 2 ^ f → a < 9223372036854775808 → b < 9223372036854775808 → i + (2 * f + 1) ≤ 200 → 2 * f + 1 < n → Sf_commonDivisor_6 n (lQ a) (lQ b) (nI i) σ = some (lQ (Nat.gcd a b), σ) := by
  intro f
  induction f with
  | zero =>
    intro a b i n h1 h2 h3 h4 h5
    obtain ⟨n, rfl⟩ : ∃ q, n = q + 1 := ⟨n - 1, by omega⟩
    obtain rfl : b = 0 := by omega
    rw [Sf_commonDivisor_6, Sf_commonDivisor_6_B, if_neg (fun z => by have := (nI_leI (a := 200) (by omega) (by omega)).mp z; omega), if_pos ((cmp_eq _ _).mpr (show lQ 0 = (0 : Int64) from rfl)), Nat.gcd_zero_right]
  | succ f ih =>
    intro a b i n h1 h2 h3 h4 h5
    obtain ⟨n, rfl⟩ : ∃ q, n = q + 1 + 1 := ⟨n - 2, by omega⟩
    rw [Sf_commonDivisor_6, Sf_commonDivisor_6_B, if_neg (fun z => by have := (nI_leI (a := 200) (by omega) (by omega)).mp z; omega)]
    by_cases hb : b = 0
    · subst hb
      rw [if_pos ((cmp_eq _ _).mpr (show lQ 0 = (0 : Int64) from rfl)), Nat.gcd_zero_right]
    · have hb2 : ¬ lQ b = (0 : Int64) := fun z => hb ((lQ_eq (b := 0) h3 (by omega)).mp z)
      have hb3 : z_nzl (lQ b) = true := decide_eq_true hb2
      rw [if_neg (fun z => hb2 ((cmp_eq _ _).mp z)), hb3, w_ck, lQ_mod h2 h3, show nI i + 1 = nI (i + 1) from nI_add i 1, Sf_commonDivisor_6, Sf_commonDivisor_6_B, if_neg (fun z => by have := (nI_leI (a := 200) (by omega) (by omega)).mp z; omega)]
      have hr : a % b < b := Nat.mod_lt _ (by omega)
      rw [Nat.gcd_comm a b, Nat.gcd_rec b a]
      by_cases hc : a % b = 0
      · rw [hc, if_pos ((cmp_eq _ _).mpr (show lQ 0 = (0 : Int64) from rfl)), Nat.gcd_zero_left]
      · have hc2 : ¬ lQ (a % b) = (0 : Int64) := fun z => hc ((lQ_eq (b := 0) (by omega) (by omega)).mp z)
        have hc3 : z_nzl (lQ (a % b)) = true := decide_eq_true hc2
        rw [if_neg (fun z => hc2 ((cmp_eq _ _).mp z)), hc3, w_ck, lQ_mod h3 (by omega), show nI (i + 1) + 1 = nI (i + 1 + 1) from nI_add (i + 1) 1]
        have hr2 : b % (a % b) < a % b := Nat.mod_lt _ (by omega)
        have hh : b % (a % b) < 2 ^ f := by
          rw [Nat.pow_succ] at h1
          rcases Nat.lt_or_ge (2 ^ f) (a % b) with z | z
          · have y1 := Nat.div_add_mod b (a % b)
            have y2 : 1 ≤ b / (a % b) := Nat.div_pos (Nat.le_of_lt hr) (by omega)
            have y3 : a % b * 1 ≤ a % b * (b / (a % b)) := Nat.mul_le_mul_left _ y2
            omega
          · omega
        have hi := ih (a % b) (b % (a % b)) (i + 1 + 1) n hh (by omega) (by omega) (by omega) (by omega)
        rw [hi, Nat.gcd_comm (a % b) (b % (a % b)), ← Nat.gcd_rec (a % b) b]
theorem gcdM {a b : Nat} (σ : gx_R) : ∀ f a b n, b < 2 ^ f → a < 9223372036854775808 → b < 9223372036854775808 → 2 * f + 1 < n → Md_common_4 n (lQ a) (lQ b) σ = some (lQ (Nat.gcd a b), σ) := by
  intro f
  induction f with
  | zero =>
    intro a b n h1 h2 h3 h5
    obtain ⟨n, rfl⟩ : ∃ q, n = q + 1 := ⟨n - 1, by omega⟩
    obtain rfl : b = 0 := by omega
    rw [Md_common_4, Md_common_4_B, if_pos ((cmp_eq _ _).mpr (show lQ 0 = (0 : Int64) from rfl)), Nat.gcd_zero_right]
  | succ f ih =>
    intro a b n h1 h2 h3 h5
    obtain ⟨n, rfl⟩ : ∃ q, n = q + 1 + 1 := ⟨n - 2, by omega⟩
    rw [Md_common_4, Md_common_4_B]
    by_cases hb : b = 0
    · subst hb
      rw [if_pos ((cmp_eq _ _).mpr (show lQ 0 = (0 : Int64) from rfl)), Nat.gcd_zero_right]
    · have hb2 : ¬ lQ b = (0 : Int64) := fun z => hb ((lQ_eq (b := 0) h3 (by omega)).mp z)
      have hb3 : z_nzl (lQ b) = true := decide_eq_true hb2
      rw [if_neg (fun z => hb2 ((cmp_eq _ _).mp z)), hb3, w_ck, lQ_mod h2 h3, Md_common_4, Md_common_4_B]
      have hr : a % b < b := Nat.mod_lt _ (by omega)
      rw [Nat.gcd_comm a b, Nat.gcd_rec b a]
      by_cases hc : a % b = 0
      · rw [hc, if_pos ((cmp_eq _ _).mpr (show lQ 0 = (0 : Int64) from rfl)), Nat.gcd_zero_left]
      · have hc2 : ¬ lQ (a % b) = (0 : Int64) := fun z => hc ((lQ_eq (b := 0) (by omega) (by omega)).mp z)
        have hc3 : z_nzl (lQ (a % b)) = true := decide_eq_true hc2
        rw [if_neg (fun z => hc2 ((cmp_eq _ _).mp z)), hc3, w_ck, lQ_mod h3 (by omega)]
        have hr2 : b % (a % b) < a % b := Nat.mod_lt _ (by omega)
        have hh : b % (a % b) < 2 ^ f := by
          rw [Nat.pow_succ] at h1
          rcases Nat.lt_or_ge (2 ^ f) (a % b) with z | z
          · have y1 := Nat.div_add_mod b (a % b)
            have y2 : 1 ≤ b / (a % b) := Nat.div_pos (Nat.le_of_lt hr) (by omega)
            have y3 : a % b * 1 ≤ a % b * (b / (a % b)) := Nat.mul_le_mul_left _ y2
            omega
          · omega
        have hi := ih (a % b) (b % (a % b)) n hh (by omega) (by omega) (by omega)
        rw [hi, Nat.gcd_comm (a % b) (b % (a % b)), ← Nat.gcd_rec (a % b) b]
def sC (k n p m : Nat) : Bool := decide (sN k m ((10 - p) ^ n) (10 ^ n - (10 - p) ^ n) (k + 1) ≤ 1000000000000000)
theorem sN_t : ∀ k, k < 6 → ∀ n, n < 16 → ∀ p, p < 11 → ∀ m, m < 6 → k * n ≤ 15 → sC k n p m = true := by decide +kernel
theorem sN_le (k : Nat) (hk : k < 6) (n : Nat) (hn : n < 16) (h : k * n ≤ 15) (p : Nat) (hp : p < 11) (m : Nat) (hm : m < 6) : sN k m ((10 - p) ^ n) (10 ^ n - (10 - p) ^ n) (k + 1) ≤ 1000000000000000 := of_decide_eq_true (sN_t k hk n hn p hp m hm h)
theorem ten_le : ∀ k, k < 6 → ∀ n, n < 16 → k * n ≤ 15 → 10 ^ (k * n) ≤ 1000000000000000 ∧ 1 ≤ 10 ^ (k * n) := by decide +kernel
theorem ten_s : ∀ p, p < 11 → ((10 : Int32) - nI p).toInt64 = lQ (10 - p) ∧ (10 : Int64) - (nI p).toInt64 = lQ (10 - p) := by decide +kernel
theorem sumM_L {k n m s w : Nat} {a5 : Int32} (hk : k < 6) (hm : m < 6) (τ : gx_R) : ∀ i j f, j + i = k + 1 → m ≤ j → i < f → Md_enough_44 f (nI k) (nI n) a5 (lQ s) (lQ w) (lQ (sN k m s w j)) (nI j) τ = Md_enough_65 (nI k) (nI n) a5 (lQ (sN k m s w (k + 1))) τ := by
  intro i
  induction i with
  | zero =>
    intro j f h1 hmj h2
    obtain ⟨f, rfl⟩ : ∃ q, f = q + 1 := ⟨f - 1, by omega⟩
    obtain rfl : j = k + 1 := by omega
    rw [Md_enough_44, Md_enough_44_B, if_pos ((nI_ltI (by omega) (by omega)).mpr (by omega))]
  | succ i ih =>
    intro j f h1 hmj h2
    obtain ⟨f, rfl⟩ : ∃ q, f = q + 1 := ⟨f - 1, by omega⟩
    have hi := ih (j + 1) f (by omega) (by omega) (by omega)
    rw [sN, if_pos hmj] at hi
    rw [Md_enough_44, Md_enough_44_B, if_neg (fun z => by have := (nI_ltI (by omega) (by omega)).mp z; omega), choices_v hk (by omega), w_bd, powM _ _ _ (by omega), w_bd, show nI k - nI j = nI (k - j) from pk_sub (by omega), powM _ _ _ (by omega), w_bd, lQ_mul, lQ_mul, lQ_add, show nI j + 1 = nI (j + 1) from nI_add j 1]
    exact hi
theorem sumM_v {k n m s w : Nat} {a5 : Int32} (hk : k < 6) (hm : m < 6) (τ : gx_R) : Md_enough_44 z_FU (nI k) (nI n) a5 (lQ s) (lQ w) 0 (nI m) τ = Md_enough_65 (nI k) (nI n) a5 (lQ (sN k m s w (k + 1))) τ := by
  have hz := z_FU_ge
  rcases Nat.lt_or_ge (k + 1) m with h | h
  · rw [sN_0 (k + 1) (by omega)]
    obtain ⟨f, hf⟩ := z_FU_s
    rw [hf, Md_enough_44, Md_enough_44_B, if_pos ((nI_ltI (by omega) (by omega)).mpr (by omega))]
    rfl
  · have := sumM_L (n := n) (s := s) (w := w) (a5 := a5) hk hm τ (k + 1 - m) m z_FU (by omega) (Nat.le_refl _) (by omega)
    rw [sN_0 m (Nat.le_refl _)] at this
    exact this
theorem enough_no (a1 a2 a3 a4 a5 : Int32) (σ : gx_R) : Sf_enough_18 Sf_enough_19 a1 a2 a3 a4 a5 σ = some (-1, σ) := by rw [Sf_enough_18, Sf_enough_19, if_pos rfl]
theorem S_enough {σ τ : gx_R} (r : Rel σ τ) (a1 a2 a3 a4 a5 : Int32) : SimL (Sf_enough a1 a2 a3 a4 a5) (Md_enough a1 a2 a3 a4 a5) σ τ := by
  have i1 : (1 : Int32) ≠ 0 := by decide
  by_cases h1 : ¬ a1 < 1 ∧ ¬ 5 < a1
  · by_cases h2 : ¬ a2 < 0 ∧ ¬ 10 < a2
    · by_cases h4 : ¬ a4 < 0 ∧ ¬ 5 < a4
      · have cS : Sf_enough a1 a2 a3 a4 a5 σ = Sf_enough_19 a1 a2 a3 a4 a5 1 σ := by rw [Sf_enough, if_neg h1.1, if_neg h1.2, if_neg h2.1, if_neg h2.2, if_neg h4.1, if_neg h4.2]
        by_cases h3 : ¬ a3 < 0 ∧ ¬ 15 < a3
        · by_cases h5 : a1 * a3 ≤ 15
          · obtain ⟨k, k1, k2, rfl⟩ := in_nat (l := 1) (u := 5) (by omega) (by omega) h1.1 h1.2
            obtain ⟨p, p1, p2, rfl⟩ := in_nat (l := 0) (u := 10) (by omega) (by omega) h2.1 h2.2
            obtain ⟨n, n1, n2, rfl⟩ := in_nat (l := 0) (u := 15) (by omega) (by omega) h3.1 h3.2
            obtain ⟨m, m1, m2, rfl⟩ := in_nat (l := 0) (u := 5) (by omega) (by omega) h4.1 h4.2
            have hkn : k * n ≤ 75 := Nat.mul_le_mul k2 n2
            have h6 : k * n ≤ 15 := by
              rw [pk_mul] at h5
              exact (nI_leI (b := 15) (by omega) (by omega)).mp h5
            obtain ⟨e1, e2⟩ := ten_s p (by omega)
            obtain ⟨t1, t2⟩ := ten_le k (by omega) n (by omega) h6
            have t3 := sN_le k (by omega) n (by omega) h6 p (by omega) m (by omega)
            have t4 : (10 - p) ^ n ≤ 10 ^ n := Nat.pow_le_pow_left (by omega) n
            have t5 : (10 ^ n) ^ k = 10 ^ (k * n) := by rw [← Nat.pow_mul, Nat.mul_comm]
            have t6 : lQ (10 ^ n) - lQ ((10 - p) ^ n) = lQ (10 ^ n - (10 - p) ^ n) := lQ_sub t4
            have g1 : 0 < Nat.gcd (10 ^ (k * n)) (sN k m ((10 - p) ^ n) (10 ^ n - (10 - p) ^ n) (k + 1)) := Nat.gcd_pos_of_pos_left _ (by omega)
            have g2 : Nat.gcd (10 ^ (k * n)) (sN k m ((10 - p) ^ n) (10 ^ n - (10 - p) ^ n) (k + 1)) ≤ 10 ^ (k * n) := Nat.gcd_le_left _ (by omega)
            generalize hg : Nat.gcd (10 ^ (k * n)) (sN k m ((10 - p) ^ n) (10 ^ n - (10 - p) ^ n) (k + 1)) = g at g1 g2
            have z1 : z_nzl (lQ g) = true := decide_eq_true (fun z => by have := (lQ_eq (b := 0) (by omega) (by omega)).mp z; omega)
            have z2 : 0 ≤ lg_cmp (lQ g) (1 : Int64) := (cmp_ge _ _).mpr (by
              rw [Int64.le_iff_toInt_le]
              show (lI (1 : Int)).toInt ≤ (lI (g : Int)).toInt
              rw [lI_t (by omega) (by omega), lI_t (by omega) (by omega)]
              omega)
            have cM : Md_enough (nI k) (nI p) (nI n) (nI m) a5 τ = Md_enough_65 (nI k) (nI n) a5 (lQ (sN k m ((10 - p) ^ n) (10 ^ n - (10 - p) ^ n) (k + 1))) τ := by
              rw [Md_enough, Md_in_v, decide_eq_true h1, bI_t, w_bd, if_neg i1, Md_in_v, decide_eq_true h2, bI_t, w_bd, if_neg i1, Md_in_v, decide_eq_true h3, bI_t, w_bd, if_neg i1, if_neg (Int32.not_lt.mpr h5), Md_in_v, decide_eq_true h4, bI_t, w_bd, if_neg i1, e2, powM _ _ _ (by omega), w_bd, show (10 : Int64) = lQ 10 from rfl, powM _ _ _ (by omega), w_bd, t6]
              exact sumM_v (by omega) (by omega) τ
            have gS := gcdS (a := 0) (b := 0) σ 50 (10 ^ (k * n)) (sN k m ((10 - p) ^ n) (10 ^ n - (10 - p) ^ n) (k + 1)) 0 z_FU (by omega) (by omega) (by omega) (by omega) (by have := z_FU_ge; omega)
            have gM := gcdM (a := 0) (b := 0) τ 50 (10 ^ (k * n)) (sN k m ((10 - p) ^ n) (10 ^ n - (10 - p) ^ n) (k + 1)) z_FU (by omega) (by omega) (by omega) (by have := z_FU_ge; omega)
            rw [hg] at gS gM
            have gS : Sf_commonDivisor (lQ (10 ^ (k * n))) (lQ (sN k m ((10 - p) ^ n) (10 ^ n - (10 - p) ^ n) (k + 1))) σ = some (lQ g, σ) := gS
            have gM : Md_common (lQ (10 ^ (k * n))) (lQ (sN k m ((10 - p) ^ n) (10 ^ n - (10 - p) ^ n) (k + 1))) τ = some (lQ g, τ) := gM
            by_cases h7 : a5 = 0
            · refine SimL_ro r (lQ (sN k m ((10 - p) ^ n) (10 ^ n - (10 - p) ^ n) (k + 1)) / lQ g) ?_ ?_
              rotate_left 1
              · rw [cM, Md_enough_65, show (10 : Int64) = lQ 10 from rfl, pk_mul, powM _ _ _ (by omega), w_bd, gM, w_bd, if_pos h7, z1, w_ck]
              · rw [cS, Sf_enough_19, if_neg i1, if_neg h3.1, if_neg h3.2, if_pos h5, e1, powS _ _ _ (by omega), w_bd, show (10 : Int64) = lQ 10 from rfl, powS _ _ _ (by omega), w_bd, t6, atLeast_v (by omega) (by omega), w_bd, powS _ _ _ (by omega), w_bd, t5, gS, w_bd, if_pos z2, if_pos h7, z1, w_ck]
            · refine SimL_ro r (lQ (10 ^ (k * n)) / lQ g) ?_ ?_
              rotate_left 1
              · rw [cM, Md_enough_65, show (10 : Int64) = lQ 10 from rfl, pk_mul, powM _ _ _ (by omega), w_bd, gM, w_bd, if_neg h7, z1, w_ck]
              · rw [cS, Sf_enough_19, if_neg i1, if_neg h3.1, if_neg h3.2, if_pos h5, e1, powS _ _ _ (by omega), w_bd, show (10 : Int64) = lQ 10 from rfl, powS _ _ _ (by omega), w_bd, t6, atLeast_v (by omega) (by omega), w_bd, powS _ _ _ (by omega), w_bd, t5, gS, w_bd, if_pos z2, if_neg h7, z1, w_ck]
          · refine SimL_ro r (-1) ?_ ?_
            · rw [cS, Sf_enough_19, if_neg i1, if_neg h3.1, if_neg h3.2, if_neg h5]
            · rw [Md_enough, Md_in_v, decide_eq_true h1, bI_t, w_bd, if_neg i1, Md_in_v, decide_eq_true h2, bI_t, w_bd, if_neg i1, Md_in_v, decide_eq_true h3, bI_t, w_bd, if_neg i1, if_pos (Int32.not_le.mp h5)]
        · refine SimL_ro r (-1) ?_ ?_
          · rw [cS, Sf_enough_19, if_neg i1]
            by_cases h5 : a3 < 0
            · rw [if_pos h5]
            · by_cases h6 : 15 < a3
              · rw [if_neg h5, if_pos h6]
              · exact absurd ⟨h5, h6⟩ h3
          · rw [Md_enough, Md_in_v, decide_eq_true h1, bI_t, w_bd, if_neg i1, Md_in_v, decide_eq_true h2, bI_t, w_bd, if_neg i1, Md_in_v, decide_eq_false h3, bI_f, w_bd, if_pos rfl]
      · refine SimL_ro r (-1) ?_ ?_
        · rw [Sf_enough, if_neg h1.1, if_neg h1.2, if_neg h2.1, if_neg h2.2]
          by_cases h5 : a4 < 0
          · rw [if_pos h5, enough_no]
          · by_cases h6 : 5 < a4
            · rw [if_neg h5, if_pos h6, enough_no]
            · exact absurd ⟨h5, h6⟩ h4
        · rw [Md_enough, Md_in_v, decide_eq_true h1, bI_t, w_bd, if_neg i1, Md_in_v, decide_eq_true h2, bI_t, w_bd, if_neg i1, Md_in_v, w_bd]
          by_cases h3 : ¬ a3 < 0 ∧ ¬ 15 < a3
          · rw [decide_eq_true h3, bI_t, if_neg i1]
            by_cases h5 : 15 < a1 * a3
            · rw [if_pos h5]
            · rw [if_neg h5, Md_in_v, decide_eq_false h4, bI_f, w_bd, if_pos rfl]
          · rw [decide_eq_false h3, bI_f, if_pos rfl]
    · refine SimL_ro r (-1) ?_ ?_
      · rw [Sf_enough, if_neg h1.1, if_neg h1.2]
        by_cases h5 : a2 < 0
        · rw [if_pos h5, enough_no]
        · by_cases h6 : 10 < a2
          · rw [if_neg h5, if_pos h6, enough_no]
          · exact absurd ⟨h5, h6⟩ h2
      · rw [Md_enough, Md_in_v, decide_eq_true h1, bI_t, w_bd, if_neg i1, Md_in_v, decide_eq_false h2, bI_f, w_bd, if_pos rfl]
  · refine SimL_ro r (-1) ?_ ?_
    · rw [Sf_enough]
      by_cases h5 : a1 < 1
      · rw [if_pos h5, enough_no]
      · by_cases h6 : 5 < a1
        · rw [if_neg h5, if_pos h6, enough_no]
        · exact absurd ⟨h5, h6⟩ h1
    · rw [Md_enough, Md_in_v, decide_eq_false h1, bI_f, w_bd, if_pos rfl]
