/-! ===== laws: the class's words and the reference's orders come to the same ===== -/
theorem lI_le {a b : Int} (h1 : -9223372036854775808 ≤ a) (h2 : a < 9223372036854775808) (h3 : -9223372036854775808 ≤ b) (h4 : b < 9223372036854775808) : lI a ≤ lI b ↔ a ≤ b := by rw [Int64.le_iff_toInt_le, lI_t h1 h2, lI_t h3 h4]
def vOk (b : Bool) (a : Int) : Prop := match b with
  | true => a = 0 ∨ a = 1
  | false => -1000000 ≤ a ∧ a ≤ 1000000
def clI (z : Int) : Int := if z ≤ 1000000 then (if -1000000 ≤ z then z else -1000000) else 1000000
theorem clI_in (z : Int) : -1000000 ≤ clI z ∧ clI z ≤ 1000000 := by
  unfold clI
  split
  · split <;> omega
  · omega
theorem J93 {z : Int} (h1 : -10000000000000 ≤ z) (h2 : z ≤ 10000000000000) (σ : gx_R) : La_joined_93 (lI z) σ = some (iI (clI z), σ) := by
  unfold La_joined_93 clI
  simp (disch := omega) only [cmp_le, cmp_ge, show (1000000 : Int64) = lI 1000000 from rfl, lI_neg, lI_le]
  split
  · split
    · rw [lI_32 (by omega) (by omega)]
    · rfl
  · rfl
theorem Bd {z : Int} (h1 : -10000000000000 ≤ z) (h2 : z ≤ 10000000000000) (σ : gx_R) : Md_bound (lI z) σ = some (lI (clI z), σ) := by
  unfold Md_bound clI
  simp (disch := omega) only [cmp_le, cmp_ge, show (1000000 : Int64) = lI 1000000 from rfl, lI_neg, lI_le]
  split
  · split <;> rfl
  · rfl
theorem mul_in {x y : Int} (h1 : -1000000 ≤ x) (h2 : x ≤ 1000000) (h3 : -1000000 ≤ y) (h4 : y ≤ 1000000) : -1000000000000 ≤ x * y ∧ x * y ≤ 1000000000000 := by
  have h := Nat.mul_le_mul (show x.natAbs ≤ 1000000 by omega) (show y.natAbs ≤ 1000000 by omega)
  rw [← Int.natAbs_mul] at h
  omega
theorem div_in {x y : Int} (h1 : -1000000 ≤ x) (h2 : x ≤ 1000000) : -1000000 ≤ x.tdiv y ∧ x.tdiv y ≤ 1000000 := by
  have h := Int.natAbs_tdiv_le_natAbs x y
  omega
theorem bin_v {w o : Int32} {i b : Bool} (h : BinR w o i b) {x y : Int} (hx : vOk i x) (hy : vOk i y) (σ τ : gx_R) : ∃ z, vOk b z ∧ La_joined w (iI x) (iI y) σ = some (iI z, σ) ∧ Md_worked o (lI x) (lI y) τ = some (lI z, τ) := by
  rcases h with ⟨rfl, rfl, rfl, rfl⟩ | ⟨rfl, rfl, rfl, rfl⟩ | ⟨rfl, rfl, rfl, rfl⟩ | ⟨rfl, rfl, rfl, rfl⟩ | ⟨rfl, rfl, rfl, rfl⟩ | ⟨rfl, rfl, rfl, rfl⟩ | ⟨rfl, rfl, rfl, rfl⟩ | ⟨rfl, rfl, rfl, rfl⟩ | ⟨rfl, rfl, rfl, rfl⟩ | ⟨rfl, rfl, rfl, rfl⟩ | ⟨rfl, rfl, rfl, rfl⟩ | ⟨rfl, rfl, rfl, rfl⟩
  · obtain ⟨a1, a2⟩ := hx
    obtain ⟨a3, a4⟩ := hy
    refine ⟨clI (x + y), clI_in _, ?_, ?_⟩
    · simp (decide := true) only [La_joined, if_false, if_true]
      rw [iI_add, iI_64 (by omega) (by omega), J93 (by omega) (by omega)]
    · simp (decide := true) only [Md_worked, if_false, if_true]
      rw [lI_add, Bd (by omega) (by omega), w_bd]
  · obtain ⟨a1, a2⟩ := hx
    obtain ⟨a3, a4⟩ := hy
    refine ⟨clI (x - y), clI_in _, ?_, ?_⟩
    · simp (decide := true) only [La_joined, if_false, if_true]
      rw [iI_sub, iI_64 (by omega) (by omega), J93 (by omega) (by omega)]
    · simp (decide := true) only [Md_worked, if_false, if_true]
      rw [lI_sub, Bd (by omega) (by omega), w_bd]
  · obtain ⟨a1, a2⟩ := hx
    obtain ⟨a3, a4⟩ := hy
    obtain ⟨a5, a6⟩ := mul_in a1 a2 a3 a4
    refine ⟨clI (x * y), clI_in _, ?_, ?_⟩
    · simp (decide := true) only [La_joined, if_false, if_true]
      rw [iI_64 (by omega) (by omega), iI_64 (by omega) (by omega), lI_mul, J93 (by omega) (by omega)]
    · simp (decide := true) only [Md_worked, if_false, if_true]
      rw [lI_mul, Bd (by omega) (by omega), w_bd]
  · obtain ⟨a1, a2⟩ := hx
    obtain ⟨a3, a4⟩ := hy
    by_cases hy0 : y = 0
    · subst hy0
      refine ⟨0, by simp [vOk], ?_, ?_⟩
      · simp (decide := true) only [La_joined, if_false, if_true]
        exact J93 (z := 0) (by omega) (by omega) σ
      · simp (decide := true) only [Md_worked, if_false, if_true]
        rfl
    · obtain ⟨a5, a6⟩ := div_in (y := y) a1 a2
      have n1 : ¬ iI y = 0 := by
        rw [show (0 : Int32) = iI 0 from rfl, iI_eq (by omega) (by omega) (by omega) (by omega)]
        exact hy0
      have n2 : ¬ lI y = 0 := by
        rw [show (0 : Int64) = lI 0 from rfl, lI_eq (by omega) (by omega) (by omega) (by omega)]
        exact hy0
      refine ⟨clI (x.tdiv y), clI_in _, ?_, ?_⟩
      · simp (decide := true) only [La_joined, if_false, if_true]
        rw [if_neg n1, z_ck_t (show z_nzi (iI y) = true from decide_eq_true n1), La_joined_31, iI_div (by omega) (by omega) (by omega) (by omega), iI_64 (by omega) (by omega), J93 (by omega) (by omega)]
      · simp (decide := true) only [Md_worked, if_false, if_true]
        rw [if_neg (fun q => n2 ((cmp_eq _ _).mp q)), z_ck_t (show z_nzl (lI y) = true from decide_eq_true n2), lI_div (by omega) (by omega) (by omega) (by omega)]
        rw [show clI (x.tdiv y) = x.tdiv y by unfold clI; rw [if_pos a6, if_pos a5]]
  · obtain ⟨a1, a2⟩ := hx
    obtain ⟨a3, a4⟩ := hy
    refine ⟨if x < y then 1 else 0, by simp only [vOk]; split <;> simp, ?_, ?_⟩
    · simp (decide := true) only [La_joined, La_joined_39, if_false, if_true]
      simp (disch := omega) only [iI_le]
      split <;> first | exact J93 (z := 0) (by omega) (by omega) σ | exact J93 (z := 1) (by omega) (by omega) σ | (split <;> first | exact J93 (z := 0) (by omega) (by omega) σ | exact J93 (z := 1) (by omega) (by omega) σ | (exfalso; omega))
    · simp (decide := true) only [Md_worked, if_false, if_true]
      simp (disch := omega) only [cmp_ge, lI_le]
      split <;> first | rfl | (split <;> first | rfl | (exfalso; omega))
  · obtain ⟨a1, a2⟩ := hx
    obtain ⟨a3, a4⟩ := hy
    refine ⟨if x ≤ y then 1 else 0, by simp only [vOk]; split <;> simp, ?_, ?_⟩
    · simp (decide := true) only [La_joined, La_joined_47, if_false, if_true]
      simp (disch := omega) only [iI_lt]
      split <;> first | exact J93 (z := 0) (by omega) (by omega) σ | exact J93 (z := 1) (by omega) (by omega) σ | (split <;> first | exact J93 (z := 0) (by omega) (by omega) σ | exact J93 (z := 1) (by omega) (by omega) σ | (exfalso; omega))
    · simp (decide := true) only [Md_worked, if_false, if_true]
      simp (disch := omega) only [cmp_gt, lI_lt]
      split <;> first | rfl | (split <;> first | rfl | (exfalso; omega))
  · obtain ⟨a1, a2⟩ := hx
    obtain ⟨a3, a4⟩ := hy
    refine ⟨if y < x then 1 else 0, by simp only [vOk]; split <;> simp, ?_, ?_⟩
    · simp (decide := true) only [La_joined, La_joined_55, if_false, if_true]
      simp (disch := omega) only [iI_le]
      split <;> first | exact J93 (z := 0) (by omega) (by omega) σ | exact J93 (z := 1) (by omega) (by omega) σ | (split <;> first | exact J93 (z := 0) (by omega) (by omega) σ | exact J93 (z := 1) (by omega) (by omega) σ | (exfalso; omega))
    · simp (decide := true) only [Md_worked, if_false, if_true]
      simp (disch := omega) only [cmp_le, lI_le]
      split <;> first | rfl | (split <;> first | rfl | (exfalso; omega))
  · obtain ⟨a1, a2⟩ := hx
    obtain ⟨a3, a4⟩ := hy
    refine ⟨if y ≤ x then 1 else 0, by simp only [vOk]; split <;> simp, ?_, ?_⟩
    · simp (decide := true) only [La_joined, La_joined_63, if_false, if_true]
      simp (disch := omega) only [iI_lt]
      split <;> first | exact J93 (z := 0) (by omega) (by omega) σ | exact J93 (z := 1) (by omega) (by omega) σ | (split <;> first | exact J93 (z := 0) (by omega) (by omega) σ | exact J93 (z := 1) (by omega) (by omega) σ | (exfalso; omega))
    · simp (decide := true) only [Md_worked, if_false, if_true]
      simp (disch := omega) only [cmp_lt, lI_lt]
      split <;> first | rfl | (split <;> first | rfl | (exfalso; omega))
  · obtain ⟨a1, a2⟩ := hx
    obtain ⟨a3, a4⟩ := hy
    refine ⟨if x = y then 1 else 0, by simp only [vOk]; split <;> simp, ?_, ?_⟩
    · simp (decide := true) only [La_joined, La_joined_71, if_false, if_true]
      simp (disch := omega) only [iI_eq]
      split <;> first | exact J93 (z := 0) (by omega) (by omega) σ | exact J93 (z := 1) (by omega) (by omega) σ | (split <;> first | exact J93 (z := 0) (by omega) (by omega) σ | exact J93 (z := 1) (by omega) (by omega) σ | (exfalso; omega))
    · simp (decide := true) only [Md_worked, if_false, if_true]
      simp (disch := omega) only [cmp_eq, lI_eq]
      split <;> first | rfl | (split <;> first | rfl | (exfalso; omega))
  · obtain ⟨a1, a2⟩ := hx
    obtain ⟨a3, a4⟩ := hy
    refine ⟨if ¬ x = y then 1 else 0, by simp only [vOk]; split <;> simp, ?_, ?_⟩
    · simp (decide := true) only [La_joined, La_joined_79, if_false, if_true]
      simp (disch := omega) only [iI_eq]
      split <;> first | exact J93 (z := 0) (by omega) (by omega) σ | exact J93 (z := 1) (by omega) (by omega) σ | (split <;> first | exact J93 (z := 0) (by omega) (by omega) σ | exact J93 (z := 1) (by omega) (by omega) σ | (exfalso; omega))
    · simp (decide := true) only [Md_worked, if_false, if_true]
      simp (disch := omega) only [cmp_eq, lI_eq]
      split <;> first | rfl | (split <;> first | rfl | (exfalso; omega))
  · obtain ⟨rfl | rfl, rfl | rfl⟩ := And.intro hx hy
    · exact ⟨0, Or.inl rfl, rfl, rfl⟩
    · exact ⟨1, Or.inr rfl, rfl, rfl⟩
    · exact ⟨1, Or.inr rfl, rfl, rfl⟩
    · exact ⟨1, Or.inr rfl, rfl, rfl⟩
  · obtain ⟨rfl | rfl, rfl | rfl⟩ := And.intro hx hy
    · exact ⟨0, Or.inl rfl, rfl, rfl⟩
    · exact ⟨0, Or.inl rfl, rfl, rfl⟩
    · exact ⟨0, Or.inl rfl, rfl, rfl⟩
    · exact ⟨1, Or.inr rfl, rfl, rfl⟩
/-- the two stacks -/
def StkR (A : gx_F) (B : Nat → Int64) : List Bool → Prop
  | [] => True
  | b :: s => (∃ a, vOk b a ∧ A s.length = iI a ∧ B s.length = lI a) ∧ StkR A B s
theorem StkR_fr {A A' : gx_F} {B B' : Nat → Int64} : ∀ {s : List Bool}, (∀ i, i < s.length → A' i = A i ∧ B' i = B i) → StkR A B s → StkR A' B' s
  | [], _, _ => trivial
  | b :: s, h, r => by
    obtain ⟨⟨a, h1, h2, h3⟩, h4⟩ := r
    obtain ⟨e1, e2⟩ := h s.length (by simp)
    exact ⟨⟨a, h1, e1.trans h2, e2.trans h3⟩, StkR_fr (fun i hi => h i (by simp; omega)) h4⟩
theorem StkR_pu {σ τ : gx_R} {s : List Bool} {b : Bool} {a : Int} (h : StkR (σ 52) (gx_l (τ 134)) s) (hv : vOk b a) : StkR (gx_up σ 52 s.length (iI a) 52) (gx_l (gx_upl τ 134 s.length (lI a) 134)) (b :: s) := by
  rw [gx_up_row, gx_l_up]
  refine ⟨⟨a, hv, pk_us, pk_uLs⟩, StkR_fr (fun i hi => ⟨pk_un (by omega), pk_uLn (by omega)⟩) h⟩
