/-! ===== the class clears its draft ===== -/
theorem clr_L : ∀ m i f (σ : gx_R), i + m = 4 → m < f → ∃ σ', Te_clear_8 f (nI i) σ = some ((), σ') ∧ (∀ c, c ≠ 48 → σ' c = σ c) ∧ (∀ l, i ≤ l → l < 4 → σ' 48 l = -1) ∧ ∀ l, l < i → σ' 48 l = σ 48 l := by
  intro m
  induction m with
  | zero =>
    intro i f σ h1 h2
    obtain ⟨f, rfl⟩ : ∃ g, f = g + 1 := ⟨f - 1, by omega⟩
    refine ⟨σ, ?_, fun _ _ => rfl, fun l l1 l2 => by omega, fun _ _ => rfl⟩
    rw [Te_clear_8, Te_clear_8_B, if_pos (show (4 : Int32) ≤ nI i from (nI_leI (a := 4) (by omega) (by omega)).mpr (by omega))]
  | succ m ih =>
    intro i f σ h1 h2
    obtain ⟨f, rfl⟩ : ∃ g, f = g + 1 := ⟨f - 1, by omega⟩
    obtain ⟨σ', e1, e2, e3, e4⟩ := ih (i + 1) f (gx_up σ 48 i (-1)) (by omega) (by omega)
    refine ⟨σ', ?_, fun c hc => by rw [e2 c hc, gx_up_ne hc], fun l l1 l2 => ?_, fun l hl => by rw [e4 l (by omega), up_p _ _ _ (by omega)]⟩
    · rw [Te_clear_8, Te_clear_8_B, if_neg (show ¬ (4 : Int32) ≤ nI i from fun z => by have := (nI_leI (a := 4) (by omega) (by omega)).mp z; omega), ix_n (by omega), decide_eq_true (show i < 4 by omega), w_ck, cl_n (by omega), show nI i + 1 = nI (i + 1) from nI_add _ 1]
      exact e1
    · by_cases c : l = i
      · rw [e4 l (by omega), c, up_e]
      · exact e3 l (by omega) l2
theorem clear_v (σ : gx_R) : ∃ σ', Te_clear σ = some ((), σ') ∧ (∀ c, c ≠ 43 → c ≠ 48 → σ' c = σ c) ∧ (∀ l, l < 4 → σ' 48 l = -1) ∧ σ' 43 4 = 0 ∧ σ' 43 7 = 0 ∧ ∀ j, j ≠ 4 → j ≠ 7 → σ' 43 j = σ 43 j := by
  have := z_FU_ge
  obtain ⟨σ', e1, e2, e3, -⟩ := clr_L 4 0 z_FU (gx_up (gx_up σ 43 4 0) 43 7 0) (by omega) (by omega)
  refine ⟨σ', e1, fun c c1 c2 => by rw [e2 c c2, gx_up_ne c1, gx_up_ne c1], fun l hl => e3 l (Nat.zero_le _) hl, ?_, ?_, fun j j1 j2 => ?_⟩
  · rw [e2 43 (by omega), up_p _ _ _ (by omega), up_e]
  · rw [e2 43 (by omega), up_e]
  · rw [e2 43 (by omega), up_p _ _ _ j2, up_p _ _ _ j1]
