/-! ===== without some, who stops ===== -/
theorem fuelM_L {σ τ : gx_R} {P W H w : Nat} {nd : gx_F} {wd : Nat → Nat} {S : Int32} (hP : P ≤ 8) (hw : w < 8) (h0 : τ 110 0 = nI P) (hN : NowR 9 σ τ nd P W H) (hD : DrmR σ τ P wd) : ∀ m k n a τ1, k + m = P → m < n → lM τ τ1 → ∃ τ2, Md_fuelOf_4 n (nI w) S 0 (nI a) (nI k) τ1 = some (nI (a + fsum (gW σ wd S w) k m), τ2) ∧ lM τ τ2 := by
  intro m
  induction m with
  | zero =>
    intro k n a τ1 hk hn hl
    obtain ⟨n, rfl⟩ : ∃ q, n = q + 1 := ⟨n - 1, by omega⟩
    have e : k = P := by omega
    subst e
    exact ⟨τ1, by rw [Md_fuelOf_4, Md_fuelOf_4_B, show (0 : Int32).toNatClampNeg = 0 from rfl, hl 110 (by omega) (by omega), h0, if_pos Int32.le_rfl]; rfl, hl⟩
  | succ m ih =>
    intro k n a τ1 hk hn hl
    obtain ⟨n, rfl⟩ : ∃ q, n = q + 1 := ⟨n - 1, by omega⟩
    have c5 : ¬ nI P ≤ nI k := by rw [nI_leI (by omega) (by omega)]; omega
    have i8 := ix_t (show k < 8 by omega) (show (8 : Nat) < 2 ^ 31 by omega)
    have e135 : τ1 135 k = σ 10 k := by rw [hl 135 (by omega) (by omega)]; exact (hN.1 k (by omega)).1
    have e136 : τ1 136 k = σ 11 k := by rw [hl 136 (by omega) (by omega)]; exact hN.2.1 k (by omega)
    have e137 : τ1 137 k = τ 137 k := by rw [hl 137 (by omega) (by omega)]
    rw [Md_fuelOf_4, Md_fuelOf_4_B, show (0 : Int32).toNatClampNeg = 0 from rfl, hl 110 (by omega) (by omega), h0, if_neg c5, fsum, i8, w_ck, cl_n (by omega), e135]
    by_cases h2 : σ 10 k = 2
    · rw [if_pos h2, w_ck, e136]
      by_cases hq : σ 11 k = nI w
      · have hs : slB σ 9 k w = true := slB_t ⟨h2, hq⟩
        rw [if_pos hq, Md_has_v _ (by omega), w_bd]
        cases hb : bt S k with
        | true =>
          have hg : gW σ wd S w k = 0 := by unfold gW; rw [hb]; rfl
          rw [bI_t, if_neg (by decide), Md_fuelOf_45, nI_1, hg, Nat.zero_add]
          exact ih (k + 1) n a τ1 (by omega) (by omega) hl
        | false =>
          have hg : gW σ wd S w k = wd k := by unfold gW; rw [hb, hs]; rfl
          obtain ⟨-, -, d3⟩ := hD k (by omega) h2
          obtain ⟨τ2, y1, y2⟩ := d3 τ1 (lM_e hl) (by rw [hl 109 (by omega) (by omega)])
          obtain ⟨τ3, z1, z2⟩ := ih (k + 1) n (a + wd k) τ2 (by omega) (by omega) (lM_tr hl y2)
          refine ⟨τ3, ?_, z2⟩
          rw [bI_f, if_pos rfl, w_ck, if_pos rfl, Md_fuelOf_41, e137, ← hq, y1, w_bd, hq, Md_fuelOf_45, nI_1, nI_add, hg, ← Nat.add_assoc]
          exact z1
      · have hs : slB σ 9 k w = false := slB_f (fun z => hq z.2)
        have hg : gW σ wd S w k = 0 := by unfold gW; rw [hs, Bool.and_false]
        rw [if_neg hq, Md_fuelOf_45, nI_1, hg, Nat.zero_add]
        exact ih (k + 1) n a τ1 (by omega) (by omega) hl
    · have hs : slB σ 9 k w = false := slB_f (fun z => h2 z.1)
      have hg : gW σ wd S w k = 0 := by unfold gW; rw [hs, Bool.and_false]
      rw [if_neg h2, Md_fuelOf_45, nI_1, hg, Nat.zero_add]
      exact ih (k + 1) n a τ1 (by omega) (by omega) hl
theorem gW_cut {σ : gx_R} {P w : Nat} {wd : Nat → Nat} {S : Int32} (hP : P ≤ 8) (h0 : ∀ p, P ≤ p → p < 8 → σ 10 p = 0) : fsum (gW σ wd S w) 0 8 = fsum (gW σ wd S w) 0 P := fsum_cut hP (fun i h1 h2 => by
  have hs : slB σ 9 i w = false := slB_f (fun z => by rw [show (9 + 1 : Nat) = 10 from rfl, h0 i h1 h2] at z; exact absurd z.1 (by decide))
  unfold gW; rw [hs, Bool.and_false])
theorem stop_t {P : Nat} {σ1 : gx_R} {S a : Int32} (h0 : ∀ p, P ≤ p → p < 8 → σ1 10 p = 0) : ∀ m k n, k + m = 8 → P ≤ k → m < n → Qu_stoppedWithout_10 n S a (nI k) σ1 = some (a, σ1) := by
  intro m
  induction m with
  | zero =>
    intro k n hk hP hn
    obtain ⟨n, rfl⟩ : ∃ q, n = q + 1 := ⟨n - 1, by omega⟩
    have e : k = 8 := by omega
    subst e
    rw [Qu_stoppedWithout_10, Qu_stoppedWithout_10_B, if_pos (by decide)]
  | succ m ih =>
    intro k n hk hP hn
    obtain ⟨n, rfl⟩ : ∃ q, n = q + 1 := ⟨n - 1, by omega⟩
    have c5 : ¬ (8 : Int32) ≤ nI k := fun z => by have := (nI_leI (a := 8) (by omega) (by omega)).mp z; omega
    rw [Qu_stoppedWithout_10, Qu_stoppedWithout_10_B, if_neg c5, ix_t (show k < 8 by omega) (by omega), w_ck, cl_n (by omega), h0 k hP (by omega), if_neg (by decide), Qu_stoppedWithout_35, nI_1]
    exact ih (k + 1) n (by omega) (by omega) (by omega)
theorem stops_L {σ τ : gx_R} {P W T H : Nat} {wd : Nat → Nat} {S : Int32} (hH : H ≤ 2000) (hE : EnvR σ τ P W T) (hN : NowR 9 σ τ (σ 7) P W H) (hD : DrmR σ τ P wd) : ∀ m k n n' a σ1 τ1, k + m = P → m + 8 < n → m < n' → wC σ σ1 → (∀ j, j < 8 → σ1 80 j = if σ 10 j = 2 then nI (wd j) else 0) → lM τ τ1 → ∃ v σ' τ', Qu_stoppedWithout_10 n S a (nI k) σ1 = some (v, σ') ∧ Md_stopsWithout_4 n' S a (nI k) τ1 = some (v, τ') ∧ wC σ σ' ∧ lM τ τ' := by
  have hP := hE.1.1.1
  have h0 := hE.1.2.1.2.1
  have hz : ∀ p, P ≤ p → p < 8 → σ 10 p = 0 := fun p h1 h2 => (hN.2.2.1 p h1 h2).1
  intro m
  induction m with
  | zero =>
    intro k n n' a σ1 τ1 hk hn hn' hw h80 hl
    obtain ⟨n', rfl⟩ : ∃ q, n' = q + 1 := ⟨n' - 1, by omega⟩
    have e : k = P := by omega
    subst e
    refine ⟨a, σ1, τ1, stop_t (P := k) (fun p h1 h2 => by rw [hw 10 (by omega) (by omega) (by omega)]; exact hz p h1 h2) (8 - k) k n (by omega) (Nat.le_refl _) (by omega), ?_, hw, hl⟩
    rw [Md_stopsWithout_4, Md_stopsWithout_4_B, show (0 : Int32).toNatClampNeg = 0 from rfl, hl 110 (by omega) (by omega), h0, if_pos Int32.le_rfl]
  | succ m ih =>
    intro k n n' a σ1 τ1 hk hn hn' hw h80 hl
    obtain ⟨n, rfl⟩ : ∃ q, n = q + 1 := ⟨n - 1, by omega⟩
    obtain ⟨n', rfl⟩ : ∃ q, n' = q + 1 := ⟨n' - 1, by omega⟩
    have c5 : ¬ (8 : Int32) ≤ nI k := fun z => by have := (nI_leI (a := 8) (by omega) (by omega)).mp z; omega
    have c6 : ¬ nI P ≤ nI k := by rw [nI_leI (by omega) (by omega)]; omega
    have i8 := ix_t (show k < 8 by omega) (show (8 : Nat) < 2 ^ 31 by omega)
    have e10 : σ1 10 = σ 10 := hw 10 (by omega) (by omega) (by omega)
    have e135 : τ1 135 k = σ 10 k := by rw [hl 135 (by omega) (by omega)]; exact (hN.1 k (by omega)).1
    rw [Qu_stoppedWithout_10, Qu_stoppedWithout_10_B, if_neg c5, i8, w_ck, cl_n (by omega), e10, Md_stopsWithout_4, Md_stopsWithout_4_B, show (0 : Int32).toNatClampNeg = 0 from rfl, hl 110 (by omega) (by omega), h0, if_neg c6, i8, w_ck, cl_n (by omega), e135]
    by_cases h1 : σ 10 k = 1
    · obtain ⟨w, hwW, hw2⟩ : ∃ w, w < W ∧ σ 11 k = nI w := by
        rcases hN.2.2.2.2.2.2.2.1 k (by omega) with ⟨z, -⟩ | ⟨-, z⟩ | ⟨z, -⟩
        · exact absurd (z.symm.trans h1) (by decide)
        · exact z
        · exact absurd (z.symm.trans h1) (by decide)
      have f1 := fuelC_L (S := S) (w := k) hw h80 8 0 z_FU 0 (by omega) (Nat.lt_of_lt_of_le (by decide) z_FU_ge)
      obtain ⟨τ2, f2, f3⟩ := fuelM_L (S := S) (w := k) hP (by omega) h0 hN hD P 0 z_FU 0 τ1 (by omega) (Nat.lt_of_le_of_lt hP (Nat.lt_of_lt_of_le (by decide) z_FU_ge)) hl
      rw [gW_cut hP hz, Nat.zero_add] at f1
      rw [Nat.zero_add] at f2
      have hE1 : EnvR σ1 τ2 P W T := EnvR_fr (wC_e hw) (lM_e f3) hE
      have hN1 : NowR 9 σ1 τ2 (σ1 7) P W H := by
        rw [hw 7 (by omega) (by omega) (by omega)]
        exact NowR_fr (fun c y1 y2 => hw c (by omega) (by omega) (by omega)) (fun c y1 y2 => f3 c (by omega) (by omega)) (by rw [f3 109 (by omega) (by omega)]) (by rw [f3 109 (by omega) (by omega)]) hN
      obtain ⟨v, σ2, τ3, -, b1, b2, b3, b4⟩ := burnN_v (Or.inl rfl) (show k < P by omega) hwW hH hE1 hN1 (by rw [show (9 + 2 : Nat) = 11 from rfl, hw 11 (by omega) (by omega) (by omega)]; exact hw2)
      have hw2' : wC σ σ2 := fun c z1 z2 z3 => (b3 c z1 z2).trans (hw c z1 z2 z3)
      have h80' : ∀ j, j < 8 → σ2 80 j = if σ 10 j = 2 then nI (wd j) else 0 := fun j hj => by rw [b3 80 (by omega) (by omega)]; exact h80 j hj
      rw [if_pos h1, if_pos h1, Qu_fuelWithout, show Qu_fuelWithout_4 z_FU (nI k) S 0 0 σ1 = _ from f1, w_bd, b1, w_bd, Md_fuelOf, show Md_fuelOf_4 z_FU (nI k) S 0 0 0 τ1 = _ from f2, w_bd, w_ck, w_ck, b2, w_bd]
      by_cases hc : nI v ≤ nI (fsum (gW σ wd S k) 0 P)
      · rw [if_pos hc, if_pos hc, Qu_stoppedWithout_35, Md_stopsWithout_39, nI_1]
        exact ih (k + 1) n n' a σ2 τ3 (by omega) (by omega) (by omega) hw2' h80' (lM_tr f3 b4)
      · rw [if_neg hc, if_neg hc, Qu_stoppedWithout_35, Md_stopsWithout_39, nI_1]
        exact ih (k + 1) n n' _ σ2 τ3 (by omega) (by omega) (by omega) hw2' h80' (lM_tr f3 b4)
    · rw [if_neg h1, if_neg h1, Qu_stoppedWithout_35, Md_stopsWithout_39, nI_1]
      exact ih (k + 1) n n' a σ1 τ1 (by omega) (by omega) (by omega) hw h80 hl
theorem S_without {σ τ : gx_R} (r : Rel σ τ) (a1 : Int32) : SimP (Sf_without a1) (Md_without a1) σ τ := by
  obtain ⟨P, W, H, K, T, P', W', H', K', T', rr⟩ := id r
  have r1 := rr.1
  have hP := r1.1.1.1
  have hH : H ≤ 999 := r1.2.2.1
  by_cases h1 : a1 < 0
  · exact SimP_ro r (-1) (by rw [Sf_without, if_pos h1, Sf_without_5]) (by rw [Md_without, Md_in_v, w_bd, decide_eq_false (fun z => z.1 h1), bI_f, if_pos rfl])
  · by_cases h2 : (255 : Int32) < a1
    · exact SimP_ro r (-1) (by rw [Sf_without, if_neg h1, if_neg (Int32.not_le.mpr h2), Sf_without_5]) (by rw [Md_without, Md_in_v, w_bd, decide_eq_false (fun z => z.2 h2), bI_f, if_pos rfl])
    · obtain ⟨τ1, u1, hN, u3, u4⟩ := lays_R r1
      have hE : EnvR σ τ1 P W T := EnvR_fr (eC_rf σ) ⟨fun i _ => by rw [u3 110 (by omega) (by omega)], fun k z1 z2 => u3 k (by omega) (by omega)⟩ (EnvR_of r1 rr.2.2.2.2.2)
      obtain ⟨wd, hD⟩ := drm_ex (by omega) hE hN
      obtain ⟨σ1, s1, s2, -, s4⟩ := weigh_L hP hD (fun p y1 y2 => (hN.2.2.1 p y1 y2).1) 8 0 z_FU σ (by omega) (Nat.lt_of_lt_of_le (by decide) z_FU_ge) (fun _ _ _ _ => rfl)
      obtain ⟨v, σ', τ', w1, w2, w3, w4⟩ := stops_L (S := a1) (by omega) hE hN hD P 0 z_FU z_FU 0 σ1 τ1 (by omega) (by have := z_FU_ge; omega) (Nat.lt_of_le_of_lt hP (Nat.lt_of_lt_of_le (by decide) z_FU_ge)) s2 (fun j hj => s4 j (by omega) hj) (lM_rf τ1)
      refine SimP_sc (σ' := σ') (τ' := τ') r v ?_ ?_ (fun k hk => w3 k (by omega) (by omega) (by omega)) ⟨fun k hk => by rw [w4 k (by omega) (by omega), u3 k (by omega) (by omega)], fun j hj => by rw [w4 109 (by omega) (by omega), u4 j (by omega) (by omega)]⟩
      · rw [Sf_without, if_neg h1, if_pos (Int32.not_lt.mp h2), Qu_stoppedWithout, Qu_weighDreamless, show Qu_weighDreamless_2 z_FU 0 σ = some ((), σ1) from s1, w_bd, show Qu_stoppedWithout_10 z_FU a1 0 0 σ1 = some (v, σ') from w1, w_bd]
      · rw [Md_without, Md_in_v, w_bd, decide_eq_true ⟨h1, h2⟩, bI_t, if_neg (by decide), u1, w_bd, Md_stopsWithout, show Md_stopsWithout_4 z_FU a1 0 0 τ1 = some (v, τ') from w2, w_bd]
