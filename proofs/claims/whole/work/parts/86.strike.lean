/-! ===== the burns, and the set of those who stop without some ===== -/
theorem fsum_le {g : Nat → Nat} {M : Nat} : ∀ m k, (∀ i, k ≤ i → i < k + m → g i ≤ M) → fsum g k m ≤ M * m := by
  intro m
  induction m with
  | zero => intro k h; exact Nat.zero_le _
  | succ m ih =>
    intro k h
    have h1 := h k (Nat.le_refl _) (by omega)
    have h2 := ih (k + 1) (fun i z1 z2 => h i (by omega) (by omega))
    rw [fsum, Nat.mul_succ]; omega
def BrnR (σ τ : gx_R) (P : Nat) (bu : Nat → Nat) : Prop := ∀ p, p < P → σ 10 p = 1 → bu p ≤ 99 ∧
  (∀ σ1, eC σ σ1 → ∃ σ2, La_burnOf (nI p) (σ 11 p) (σ 12 p) (σ 9 6) σ1 = some (nI (bu p), σ2) ∧ lC σ1 σ2) ∧
  (∀ τ1, eM τ τ1 → τ1 109 42 = τ 109 42 → ∃ τ2, Md_burnBy (nI p) (τ 137 p) (σ 11 p) τ1 = some (nI (bu p), τ2) ∧ lM τ1 τ2)
theorem bru_ex {P W T H : Nat} (hH : H ≤ 2000) {σ τ : gx_R} {nd : gx_F} (hE : EnvR σ τ P W T) (hN : NowR 9 σ τ nd P W H) : ∃ bu, BrnR σ τ P bu := by
  have hP := hE.1.1.1
  have : ∀ p : Nat, ∃ v : Nat, p < P → σ 10 p = 1 → v ≤ 99 ∧
      (∀ σ1, eC σ σ1 → ∃ σ2, La_burnOf (nI p) (σ 11 p) (σ 12 p) (σ 9 6) σ1 = some (nI v, σ2) ∧ lC σ1 σ2) ∧
      (∀ τ1, eM τ τ1 → τ1 109 42 = τ 109 42 → ∃ τ2, Md_burnBy (nI p) (τ 137 p) (σ 11 p) τ1 = some (nI v, τ2) ∧ lM τ1 τ2) := by
    intro s
    by_cases h : s < P ∧ σ 10 s = 1
    · obtain ⟨hs, h2⟩ := h
      obtain ⟨q, hq, hq2⟩ : ∃ q, q < W ∧ σ 11 s = nI q := by
        rcases hN.2.2.2.2.2.2.2.1 s hs with ⟨z, -⟩ | ⟨-, z⟩ | ⟨z, -⟩
        · exact absurd (z.symm.trans h2) (by decide)
        · exact z
        · exact absurd (z.symm.trans h2) (by decide)
      obtain ⟨o, d, ho, hd, o1, o2⟩ := hN.2.2.2.2.2.2.2.2.1 s hs
      have o1 : σ 12 s = nI o := o1
      have n2 : τ 137 s = nI o := by rw [← o1]; exact (hN.1 s (by omega)).2.1
      obtain ⟨h42, -, h6⟩ := hN.2.2.2.2.2.1
      obtain ⟨v, v1, v2, v3⟩ := brn_ex hE (show H ≤ 1000000 by omega) (h42.trans h6) hs hq (show o ≤ 1000000 by omega)
      refine ⟨v, fun _ _ => ⟨v1, fun σ1 e => ?_, fun τ1 e1 e2 => ?_⟩⟩
      · rw [hq2, o1, h6]; exact v2 σ1 e
      · rw [hq2, n2]; exact v3 τ1 e1 e2
    · exact ⟨0, fun h1 h2 => absurd ⟨h1, h2⟩ h⟩
  exact ⟨fun s => Classical.choose (this s), fun s h1 h2 => Classical.choose_spec (this s) h1 h2⟩
theorem gW_le {σ τ : gx_R} {P w : Nat} {wd : Nat → Nat} {S : Int32} (hP : P ≤ 8) (hD : DrmR σ τ P wd) : fsum (gW σ wd S w) 0 P ≤ 792 := by
  have h := fsum_le (g := gW σ wd S w) (M := 99) P 0 (fun i z1 z2 => by
    unfold gW
    split
    · rename_i h
      have hs := (Bool.and_eq_true_iff.mp h).2
      exact (hD i (by omega) (of_decide_eq_true hs).1).1
    · omega)
  omega
/-- who stops when those of S are not counted -/
def fSt (σ : gx_R) (wd bu : Nat → Nat) (P : Nat) (S : Int32) (p : Nat) : Bool := decide (σ 10 p = 1) && decide (fsum (gW σ wd S p) 0 P < bu p)
theorem stM_L {σ τ : gx_R} {P W H : Nat} {nd : gx_F} {wd bu : Nat → Nat} {S : Int32} (hP : P ≤ 8) (h0 : τ 110 0 = nI P) (hN : NowR 9 σ τ nd P W H) (hD : DrmR σ τ P wd) (hB : BrnR σ τ P bu) : ∀ m k n τ1, k + m = P → m < n → lM τ τ1 → ∃ τ2, Md_stopsWithout_4 n S (mk (fSt σ wd bu P S) k) (nI k) τ1 = some (mk (fSt σ wd bu P S) P, τ2) ∧ lM τ τ2 := by
  intro m
  induction m with
  | zero =>
    intro k n τ1 hk hn hl
    obtain ⟨n, rfl⟩ : ∃ q, n = q + 1 := ⟨n - 1, by omega⟩
    have e : k = P := by omega
    subst e
    exact ⟨τ1, by rw [Md_stopsWithout_4, Md_stopsWithout_4_B, show (0 : Int32).toNatClampNeg = 0 from rfl, hl 110 (by omega) (by omega), h0, if_pos Int32.le_rfl], hl⟩
  | succ m ih =>
    intro k n τ1 hk hn hl
    obtain ⟨n, rfl⟩ : ∃ q, n = q + 1 := ⟨n - 1, by omega⟩
    have c6 : ¬ nI P ≤ nI k := by rw [nI_leI (by omega) (by omega)]; omega
    have i8 := ix_t (show k < 8 by omega) (show (8 : Nat) < 2 ^ 31 by omega)
    have e135 : τ1 135 k = σ 10 k := by rw [hl 135 (by omega) (by omega)]; exact (hN.1 k (by omega)).1
    rw [Md_stopsWithout_4, Md_stopsWithout_4_B, show (0 : Int32).toNatClampNeg = 0 from rfl, hl 110 (by omega) (by omega), h0, if_neg c6, i8, w_ck, cl_n (by omega), e135]
    by_cases h1 : σ 10 k = 1
    · obtain ⟨τ2, f2, f3⟩ := fuelM_L (S := S) (w := k) hP (by omega) h0 hN hD P 0 z_FU 0 τ1 (by omega) (Nat.lt_of_le_of_lt hP (Nat.lt_of_lt_of_le (by decide) z_FU_ge)) hl
      rw [Nat.zero_add] at f2
      obtain ⟨b0, -, b2⟩ := hB k (by omega) h1
      obtain ⟨τ3, y1, y2⟩ := b2 τ2 (lM_e f3) (by rw [f3 109 (by omega) (by omega)])
      have e137 : τ2 137 k = τ 137 k := by rw [f3 137 (by omega) (by omega)]
      have e136 : τ2 136 k = σ 11 k := by rw [f3 136 (by omega) (by omega)]; exact hN.2.1 k (by omega)
      have hle := gW_le (σ := σ) (τ := τ) (P := P) (w := k) (S := S) hP hD
      rw [if_pos h1, Md_fuelOf, show Md_fuelOf_4 z_FU (nI k) S 0 0 0 τ1 = _ from f2, w_bd, w_ck, w_ck, e137, e136, y1, w_bd]
      by_cases hc : bu k ≤ fsum (gW σ wd S k) 0 P
      · have hf : fSt σ wd bu P S k = false := by unfold fSt; rw [decide_eq_false (show ¬ fsum (gW σ wd S k) 0 P < bu k by omega), Bool.and_false]
        rw [if_pos ((nI_leI (by omega) (by omega)).mpr hc), Md_stopsWithout_39, nI_1, ← mk_f hf]
        exact ih (k + 1) n τ3 (by omega) (by omega) (lM_tr f3 y2)
      · have hf : fSt σ wd bu P S k = true := by unfold fSt; rw [decide_eq_true (show fsum (gW σ wd S k) 0 P < bu k by omega), decide_eq_true h1]; rfl
        rw [if_neg (fun z => hc ((nI_leI (by omega) (by omega)).mp z)), Md_stopsWithout_39, nI_1, ← mk_t hf]
        exact ih (k + 1) n τ3 (by omega) (by omega) (lM_tr f3 y2)
    · have hf : fSt σ wd bu P S k = false := by unfold fSt; rw [decide_eq_false h1, Bool.false_and]
      rw [if_neg h1, Md_stopsWithout_39, nI_1, ← mk_f hf]
      exact ih (k + 1) n τ1 (by omega) (by omega) hl
