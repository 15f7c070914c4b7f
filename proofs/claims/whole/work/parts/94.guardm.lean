/-! ===== guard: the reference's search ===== -/
theorem guardI {τ : gx_R} {B p s : Nat} {wk : Nat → Int32} {G : Int32} (hB : B < 256) (hwk : ∀ x, x < 256 → ∀ τ1, lM τ τ1 → ∃ τ2, Md_wakesOn ((1 : Int32) <<< (nI p &&& 31)) (nI x) τ1 = some (wk x, τ2) ∧ lM τ τ2) (hs : s < 8) {K29 : Int32 → Int32 → Int32 → Int32 → gx_R → Option (Int32 × gx_R)} : ∀ m k n τ1, k + m = 256 → m < n → lM τ τ1 → (∃ x τ2, Md_guard_34 K29 n (nI p) G (nI B) (nI s) (nI k) τ1 = some (nI x, τ2) ∧ lM τ τ2 ∧ k ≤ x ∧ x < 256 ∧ gG wk B G x = true ∧ pcN 8 x = s ∧ ∀ y, k ≤ y → y < x → gG wk B G y = true → pcN 8 y ≠ s) ∨ (∃ τ2, Md_guard_34 K29 n (nI p) G (nI B) (nI s) (nI k) τ1 = K29 (nI p) G (nI B) (nI (s + 1)) τ2 ∧ lM τ τ2 ∧ ∀ y, k ≤ y → y < 256 → gG wk B G y = true → pcN 8 y ≠ s) := by
  intro m
  induction m with
  | zero =>
    intro k n τ1 hk hn hl
    obtain ⟨n, rfl⟩ : ∃ q, n = q + 1 := ⟨n - 1, by omega⟩
    have e : k = 256 := by omega
    subst e
    refine Or.inr ⟨τ1, ?_, hl, fun y y1 y2 => absurd y2 (by omega)⟩
    rw [Md_guard_34, Md_guard_34_B, if_pos (by decide), Md_guard_60, nI_1]
  | succ m ih =>
    intro k n τ1 hk hn hl
    obtain ⟨n, rfl⟩ : ∃ q, n = q + 1 := ⟨n - 1, by omega⟩
    have c1 : ¬ (256 : Int32) ≤ nI k := fun z => by have := (nI_leI (a := 256) (by omega) (by omega)).mp z; omega
    have p2 := pcN_8 k
    have goOn : ∀ τ2, lM τ τ2 → (gG wk B G k = true → pcN 8 k ≠ s) → Md_guard_34 K29 (n + 1) (nI p) G (nI B) (nI s) (nI k) τ1 = Md_guard_34 K29 n (nI p) G (nI B) (nI s) (nI (k + 1)) τ2 → (∃ x τ2, Md_guard_34 K29 (n + 1) (nI p) G (nI B) (nI s) (nI k) τ1 = some (nI x, τ2) ∧ lM τ τ2 ∧ k ≤ x ∧ x < 256 ∧ gG wk B G x = true ∧ pcN 8 x = s ∧ ∀ y, k ≤ y → y < x → gG wk B G y = true → pcN 8 y ≠ s) ∨ (∃ τ2, Md_guard_34 K29 (n + 1) (nI p) G (nI B) (nI s) (nI k) τ1 = K29 (nI p) G (nI B) (nI (s + 1)) τ2 ∧ lM τ τ2 ∧ ∀ y, k ≤ y → y < 256 → gG wk B G y = true → pcN 8 y ≠ s) := by
      intro τ2 hl2 hno he
      rcases ih (k + 1) n τ2 (by omega) (by omega) hl2 with ⟨x, τ3, a1, a2, a3, a4, a5, a6, a7⟩ | ⟨τ3, a1, a2, a3⟩
      · refine Or.inl ⟨x, τ3, he.trans a1, a2, by omega, a4, a5, a6, fun y y1 y2 y3 => ?_⟩
        by_cases e : y = k
        · subst e; exact hno y3
        · exact a7 y (by omega) y2 y3
      · refine Or.inr ⟨τ3, he.trans a1, a2, fun y y1 y2 y3 => ?_⟩
        by_cases e : y = k
        · subst e; exact hno y3
        · exact a3 y (by omega) y2 y3
    by_cases hsub : nI k &&& (nI B ^^^ -1) = 0
    · by_cases hc : pcN 8 k = s
      · obtain ⟨τ2, t1, t2⟩ := hwk k (by omega) τ1 hl
        have e1 : Md_guard_34 K29 (n + 1) (nI p) G (nI B) (nI s) (nI k) τ1 = if wk k &&& G = 0 then some (nI k, τ2) else Md_guard_34 K29 n (nI p) G (nI B) (nI s) (nI (k + 1)) τ2 := by
          rw [Md_guard_34, Md_guard_34_B, if_neg c1, if_pos hsub, many_v (by omega), w_bd, if_pos (by rw [hc]), t1, w_bd, Md_guard_58, nI_1]
        by_cases hf : wk k &&& G = 0
        · rw [if_pos hf] at e1
          exact Or.inl ⟨k, τ2, e1, t2, Nat.le_refl _, by omega, by unfold gG; rw [decide_eq_true hsub, decide_eq_true hf]; rfl, hc, fun y y1 y2 => absurd y2 (by omega)⟩
        · rw [if_neg hf] at e1
          exact goOn τ2 t2 (fun z => by unfold gG at z; rw [decide_eq_false hf, Bool.and_false] at z; cases z) e1
      · refine goOn τ1 hl (fun _ => hc) ?_
        rw [Md_guard_34, Md_guard_34_B, if_neg c1, if_pos hsub, many_v (by omega), w_bd, if_neg (fun z => hc ((nI_eq (by omega) (by omega)).mp z)), Md_guard_58, nI_1]
    · refine goOn τ1 hl (fun z => by unfold gG at z; rw [decide_eq_false hsub, Bool.false_and] at z; cases z) ?_
      rw [Md_guard_34, Md_guard_34_B, if_neg c1, if_neg hsub, Md_guard_58, nI_1]
