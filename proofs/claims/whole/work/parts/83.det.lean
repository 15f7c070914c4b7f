/-! ===== worth, burn, price: the same value in any memory ===== -/
theorem some_v {v v' : Int32} {s s' : gx_R} {X : Option (Int32 × gx_R)} (h : X = some (v, s)) (h2 : X = some (v', s')) : v = v' := by
  rw [h] at h2
  cases h2; rfl
theorem wrt_ex {σ τ : gx_R} {P W T H : Nat} (hE : EnvR σ τ P W T) (hH : H ≤ 1000000) (h42 : τ 109 42 = nI H) {s wh o d : Nat} (hs : s < P) (hw : wh ≤ 1000000) (ho : o ≤ 1000000) (hd : d ≤ 1000000) : ∃ v, v ≤ 99 ∧ (∀ σ1, eC σ σ1 → ∃ σ2, La_worthOf (nI s) (nI wh) (nI o) (nI d) (nI H) σ1 = some (nI v, σ2) ∧ lC σ1 σ2) ∧ ∀ τ1, eM τ τ1 → τ1 109 42 = τ 109 42 → ∃ τ2, Md_worthBy (nI s) (nI o) (nI d) (nI wh) τ1 = some (nI v, τ2) ∧ lM τ1 τ2 := by
  obtain ⟨v, σ0, τ0, hv, a1, a2, a3, a4⟩ := worth_v hE hs hw ho hd hH h42
  refine ⟨v, hv, fun σ1 h1 => ?_, fun τ1 h1 h2 => ?_⟩
  · obtain ⟨v', σ2, τ2, hv', b1, b2, b3, b4⟩ := worth_v (EnvR_fr h1 (eM_rf τ) hE) hs hw ho hd hH h42
    rw [some_v a2 b2]
    exact ⟨σ2, b1, b3⟩
  · obtain ⟨v', σ2, τ2, hv', b1, b2, b3, b4⟩ := worth_v (EnvR_fr (eC_rf σ) h1 hE) hs hw ho hd hH (h2.trans h42)
    rw [some_v a1 b1]
    exact ⟨τ2, b2, b4⟩
theorem brn_ex {σ τ : gx_R} {P W T H : Nat} (hE : EnvR σ τ P W T) (hH : H ≤ 1000000) (h42 : τ 109 42 = nI H) {p w o : Nat} (hp : p < P) (hw : w < W) (ho : o ≤ 1000000) : ∃ v, v ≤ 99 ∧ (∀ σ1, eC σ σ1 → ∃ σ2, La_burnOf (nI p) (nI w) (nI o) (nI H) σ1 = some (nI v, σ2) ∧ lC σ1 σ2) ∧ ∀ τ1, eM τ τ1 → τ1 109 42 = τ 109 42 → ∃ τ2, Md_burnBy (nI p) (nI o) (nI w) τ1 = some (nI v, τ2) ∧ lM τ1 τ2 := by
  obtain ⟨v, σ0, τ0, hv, a1, a2, a3, a4⟩ := burn_v hE hp hw ho hH h42
  refine ⟨v, hv, fun σ1 h1 => ?_, fun τ1 h1 h2 => ?_⟩
  · obtain ⟨v', σ2, τ2, hv', b1, b2, b3, b4⟩ := burn_v (EnvR_fr h1 (eM_rf τ) hE) hp hw ho hH h42
    rw [some_v a2 b2]
    exact ⟨σ2, b1, b3⟩
  · obtain ⟨v', σ2, τ2, hv', b1, b2, b3, b4⟩ := burn_v (EnvR_fr (eC_rf σ) h1 hE) hp hw ho hH (h2.trans h42)
    rw [some_v a1 b1]
    exact ⟨τ2, b2, b4⟩
theorem prc_ex {σ τ : gx_R} {P W T H : Nat} (hE : EnvR σ τ P W T) (hH : H ≤ 1000000) (h42 : τ 109 42 = nI H) {p q e : Nat} (hp : p < P) (hq : q < P) (he : e ≤ 1000000) (ho : τ 110 (98 + 8 * q + p) = nI e) : ∃ v, v ≤ 999 ∧ (∀ σ1, eC σ σ1 → ∃ σ2, La_priceOf (nI p) (nI e) (nI H) σ1 = some (nI v, σ2) ∧ lC σ1 σ2) ∧ ∀ τ1, eM τ τ1 → τ1 109 42 = τ 109 42 → τ1 110 = τ 110 → ∃ τ2, Md_priceOf (nI p) (nI q) τ1 = some (nI v, τ2) ∧ lM τ1 τ2 := by
  obtain ⟨v, σ0, τ0, hv, a1, a2, a3, a4⟩ := price_v hE hp hq he hH h42 ho
  refine ⟨v, hv, fun σ1 h1 => ?_, fun τ1 h1 h2 h3 => ?_⟩
  · obtain ⟨v', σ2, τ2, hv', b1, b2, b3, b4⟩ := price_v (EnvR_fr h1 (eM_rf τ) hE) hp hq he hH h42 ho
    rw [some_v a2 b2]
    exact ⟨σ2, b1, b3⟩
  · obtain ⟨v', σ2, τ2, hv', b1, b2, b3, b4⟩ := price_v (EnvR_fr (eC_rf σ) h1 hE) hp hq he hH (h2.trans h42) (by rw [h3]; exact ho)
    rw [some_v a1 b1]
    exact ⟨τ2, b2, b4⟩
