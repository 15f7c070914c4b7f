/-! ===== asleep for nobody ===== -/
def fN (σ : gx_R) (p : Nat) : Bool := decide (σ 10 p = 2) && !decide (σ 10 (σ 11 p).toNatClampNeg = 1)
theorem nobody_C {σ : gx_R} {P : Nat} (hP : P ≤ 8) (hw : ∀ p, p < 8 → σ 10 p = 2 → ∃ q, q < P ∧ σ 11 p = nI q) : ∀ m k n, k + m = 8 → m < n → Qu_asleepForNobody_12 n (mk (fun p => decide (σ 10 p = 1)) 8) (mk (fN σ) k) (nI k) σ = some (mk (fN σ) 8, σ) := by
  intro m
  induction m with
  | zero =>
    intro k n hk hn
    obtain ⟨n, rfl⟩ : ∃ q, n = q + 1 := ⟨n - 1, by omega⟩
    have e : k = 8 := by omega
    subst e
    rw [Qu_asleepForNobody_12, Qu_asleepForNobody_12_B, if_pos (by decide)]
  | succ m ih =>
    intro k n hk hn
    obtain ⟨n, rfl⟩ : ∃ q, n = q + 1 := ⟨n - 1, by omega⟩
    have c5 : ¬ (8 : Int32) ≤ nI k := fun z => by have := (nI_leI (a := 8) (by omega) (by omega)).mp z; omega
    have i8 := ix_t (show k < 8 by omega) (show (8 : Nat) < 2 ^ 31 by omega)
    rw [Qu_asleepForNobody_12, Qu_asleepForNobody_12_B, if_neg c5, i8, w_ck, cl_n (by omega)]
    by_cases h : σ 10 k = 2
    · obtain ⟨q, hq, hq2⟩ := hw k (by omega) h
      rw [if_pos h, w_ck, hq2]
      by_cases h1 : σ 10 q = 1
      · have hb : bt (mk (fun p => decide (σ 10 p = 1)) 8) q = true := by rw [mk_b (by omega) (by omega), decide_eq_true (show q < 8 by omega), decide_eq_true h1]; rfl
        have hf : fN σ k = false := by unfold fN; rw [hq2, cl_n (by omega), decide_eq_true h1]; simp
        rw [if_neg (fun z => by rw [(h_0 (by omega)).mp z] at hb; cases hb), Qu_asleepForNobody_36, nI_1, ← mk_f hf]
        exact ih (k + 1) n (by omega) (by omega)
      · have hb : bt (mk (fun p => decide (σ 10 p = 1)) 8) q = false := by rw [mk_b (by omega) (by omega), decide_eq_false h1, Bool.and_false]
        have hf : fN σ k = true := by unfold fN; rw [hq2, cl_n (by omega), decide_eq_false h1, decide_eq_true h]; rfl
        rw [if_pos ((h_0 (by omega)).mpr hb), Qu_asleepForNobody_36, nI_1, ← mk_t hf]
        exact ih (k + 1) n (by omega) (by omega)
    · have hf : fN σ k = false := by unfold fN; rw [decide_eq_false h, Bool.false_and]
      rw [if_neg h, Qu_asleepForNobody_36, nI_1, ← mk_f hf]
      exact ih (k + 1) n (by omega) (by omega)
theorem nobody_M {σ τ : gx_R} {P : Nat} (hP : P ≤ 8) (h0 : τ 110 0 = nI P) (hd : ∀ p, p < 8 → τ 110 (60 + p) = σ 10 p) (hv : ∀ p, p < P → τ 110 (68 + p) = σ 11 p) (hw : ∀ p, p < 8 → σ 10 p = 2 → ∃ q, q < P ∧ σ 11 p = nI q) : ∀ m k n, k + m = P → m < n → Md_forNobody_4 n (mk (fN σ) k) (nI k) τ = some (mk (fN σ) P, τ) := by
  intro m
  induction m with
  | zero =>
    intro k n hk hn
    obtain ⟨n, rfl⟩ : ∃ q, n = q + 1 := ⟨n - 1, by omega⟩
    have e : k = P := by omega
    subst e
    rw [Md_forNobody_4, Md_forNobody_4_B, show (0 : Int32).toNatClampNeg = 0 from rfl, h0, if_pos Int32.le_rfl]
  | succ m ih =>
    intro k n hk hn
    obtain ⟨n, rfl⟩ : ∃ q, n = q + 1 := ⟨n - 1, by omega⟩
    have c5 : ¬ nI P ≤ nI k := by rw [nI_leI (by omega) (by omega)]; omega
    have e60 : (60 : Int32) + nI k = nI (60 + k) := nI_add 60 k
    have e68 : (68 : Int32) + nI k = nI (68 + k) := nI_add 68 k
    rw [Md_forNobody_4, Md_forNobody_4_B, show (0 : Int32).toNatClampNeg = 0 from rfl, h0, if_neg c5, e60, e68, ix_t (show 60 + k < 8880 by omega) (by omega), w_ck, cl_n (by omega), hd k (by omega)]
    by_cases h : σ 10 k = 2
    · obtain ⟨q, hq, hq2⟩ := hw k (by omega) h
      have e60q : (60 : Int32) + nI q = nI (60 + q) := nI_add 60 q
      rw [if_pos h, ix_t (show 68 + k < 8880 by omega) (by omega), w_ck, cl_n (by omega), hv k (by omega), hq2, e60q, ix_t (show 60 + q < 8880 by omega) (by omega), w_ck, cl_n (by omega), hd q (by omega)]
      by_cases h1 : σ 10 q = 1
      · have hf : fN σ k = false := by unfold fN; rw [hq2, cl_n (by omega), decide_eq_true h1]; simp
        rw [if_pos h1, Md_forNobody_36, Md_forNobody_37, mk_or0, nI_1, ← mk_f hf]
        exact ih (k + 1) n (by omega) (by omega)
      · have hf : fN σ k = true := by unfold fN; rw [hq2, cl_n (by omega), decide_eq_false h1, decide_eq_true h]; rfl
        rw [if_neg h1, Md_forNobody_37, nI_1, ← mk_t hf]
        exact ih (k + 1) n (by omega) (by omega)
    · have hf : fN σ k = false := by unfold fN; rw [decide_eq_false h, Bool.false_and]
      rw [if_neg h, Md_forNobody_36, Md_forNobody_37, mk_or0, nI_1, ← mk_f hf]
      exact ih (k + 1) n (by omega) (by omega)
theorem doing_0 {σ : gx_R} {a : gx_F} {P W H K T i : Nat} (r : ValleyR σ 1 a P W H K T) (h1 : P ≤ i) (h2 : i < 8) : σ 10 i = 0 := by
  have := (r.2.1.2.2.1 i h1 h2).1
  rwa [nu_d σ _ h2] at this
theorem doing_2 {σ : gx_R} {a : gx_F} {P W H K T p : Nat} (r : ValleyR σ 1 a P W H K T) (h2 : p < 8) (h : σ 10 p = 2) : ∃ q, q < P ∧ σ 11 p = nI q := by
  rcases Nat.lt_or_ge p P with hp | hp
  · have := r.2.1.2.2.2.2.2.2.2.1 p hp
    rw [nu_d σ _ h2, nu_w σ _ h2] at this
    rcases this with ⟨z, -⟩ | ⟨z, -⟩ | ⟨-, z⟩
    · exact absurd (z.symm.trans h) (by decide)
    · exact absurd (z.symm.trans h) (by decide)
    · exact z
  · rw [doing_0 r hp h2] at h; exact absurd h (by decide)
theorem whom_eq {σ τ : gx_R} {P W H K T p : Nat} (r : ValleyR σ 1 (τ 110) P W H K T) (h2 : p < P) : τ 110 (68 + p) = σ 11 p := by
  have hP := r.1.1.1
  have h3 := r.2.1.2.1 p h2
  rw [nu_w σ _ (show p < 8 by omega)] at h3
  refine Eq.trans ?_ h3
  exact congrArg (τ 110) (by omega)
theorem S_forNobody {σ τ : gx_R} (r : Rel σ τ) : SimP Sf_forNobody Md_forNobody σ τ := by
  obtain ⟨P, W, H, K, T, P', W', H', K', T', rr⟩ := id r
  have r1 := rr.1
  have hP := r1.1.1.1
  have hw : ∀ p, p < 8 → σ 10 p = 2 → ∃ q, q < P ∧ σ 11 p = nI q := fun p hp h => doing_2 r1 hp h
  refine SimP_ro r (mk (fN σ) 8) ?_ ?_
  · have h1 := nobody_C hP hw 8 0 z_FU (by omega) (Nat.lt_of_lt_of_le (by decide) z_FU_ge)
    rw [Sf_forNobody, Qu_asleepForNobody, Ni_those_v, w_bd]
    have e : Qu_asleepForNobody_12 z_FU (mk (fun p => decide (σ (9 + 1) p = 1)) 8) 0 0 σ = some (mk (fN σ) 8, σ) := h1
    rw [e, w_bd]
  · have h1 := nobody_M hP r1.1.2.1.2.1 (fun p hp => doing_eq r1 hp) (fun p hp => whom_eq r1 hp) hw P 0 z_FU (by omega) (Nat.lt_of_le_of_lt hP (Nat.lt_of_lt_of_le (by decide) z_FU_ge))
    rw [mk_cut (n := P) (m := 8) hP (fun i y1 y2 => by unfold fN; rw [doing_0 r1 y1 y2]; rfl)]
    exact h1
