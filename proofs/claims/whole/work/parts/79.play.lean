/-! ===== a text is played, deed by deed ===== -/
theorem perf_v {σ τ : gx_R} (r : Rel σ τ) {t k q b : Nat} (ht : t < 4) (hk : k < 24) (hq : 4 ≤ q) (hq2 : q < 10) (e1 : σ (b + 1) k = nI q) (e2 : τ 114 (24 * t + k) = nI q) (e3 : τ 116 (24 * t + k) = σ (b + 2) k) (e4 : q = 9 → ∃ h, 1 ≤ h ∧ h ≤ 60 ∧ σ (b + 2) k = nI h) (e5 : q = 4 ∨ q = 5 ∨ q = 8 → τ 117 (24 * t + k) = σ (b + 3) k) (e6 : q = 8 → τ 118 (24 * t + k) = σ (b + 4) k) : ∃ v σ' τ', Sf_perform b (nI k) σ = some (v, σ') ∧ (∀ K14 n, τ 113 t = nI n → k < n → n ≤ 24 → Md_played_14_B K14 (nI t) (nI k) τ = Md_played_107 K14 (nI t) (nI k) v τ') ∧ σ' 1 4 = σ 1 4 ∧ Rel σ' τ' ∧ (∀ k, 109 ≤ k → σ' k = σ k) ∧ ∀ k, k < 109 → τ' k = τ k := by
  have i24 := ix_t hk (show (24 : Nat) < 2 ^ 31 by omega)
  have i96 := ix_t (show 24 * t + k < 96 by omega) (by omega)
  have it := ix_t ht (show (4 : Nat) < 2 ^ 31 by omega)
  have ck := cl_n (show k < 2 ^ 31 by omega)
  have ct := cl_n (show t < 2 ^ 31 by omega)
  have c96 := cl_n (show 24 * t + k < 2 ^ 31 by omega)
  have ea : (24 : Int32) * nI t + nI k = nI (24 * t + k) := by rw [show (24 : Int32) = nI 24 from rfl, pk_mul, nI_add]
  have mda : ∀ K14 n, τ 113 t = nI n → k < n → n ≤ 24 → Md_played_14_B K14 (nI t) (nI k) τ =
    if nI q = 4 then z_bd (Md_wake (σ (b + 2) k) (τ 117 (24 * t + k)) τ) (fun r11 σ12 => Md_played_107 K14 (nI t) (nI k) r11 σ12)
    else if nI q = 5 then z_bd (Md_sleep (σ (b + 2) k) (τ 117 (24 * t + k)) τ) (fun r17 σ18 => Md_played_107 K14 (nI t) (nI k) r17 σ18)
    else if nI q = 6 then z_bd (Md_idle (σ (b + 2) k) τ) (fun r22 σ23 => Md_played_107 K14 (nI t) (nI k) r22 σ23)
    else if nI q = 7 then z_bd (Md_call (σ (b + 2) k) τ) (fun r27 σ28 => if r27 = -1 then Md_played_107 K14 (nI t) (nI k) 0 σ28 else Md_played_107 K14 (nI t) (nI k) 1 σ28)
    else if nI q = 8 then z_bd (Md_repay (σ (b + 2) k) (τ 117 (24 * t + k)) (τ 118 (24 * t + k)) τ) (fun r35 σ36 => if r35 = -1 then Md_played_107 K14 (nI t) (nI k) 0 σ36 else Md_played_107 K14 (nI t) (nI k) 1 σ36)
    else if nI q = 9 then z_bd (Md_hours (σ (b + 2) k) τ) (fun r41 σ42 => Md_played_107 K14 (nI t) (nI k) r41 σ42)
    else Md_played_107 K14 (nI t) (nI k) 1 τ := by
    intro K14 n hn hkn hn24
    have h1 : ¬ nI n ≤ nI k := by rw [nI_leI (by omega) (by omega)]; omega
    rw [Md_played_14_B, it, w_ck, ct, hn, if_neg h1, ea, i96, w_ck, c96, e2, e3]
    simp only [w_ck, Md_played_76, Md_played_97]
  have cla : Sf_perform b (nI k) σ =
    if nI q = 4 then z_bd (Sf_wake (σ (b + 2) k) (σ (b + 3) k) σ) (fun r5 σ6 => z_ck (z_bo r5) (some (r5, σ6)))
    else if nI q = 5 then z_bd (Sf_sleep (σ (b + 2) k) (σ (b + 3) k) σ) (fun r5 σ6 => z_ck (z_bo r5) (some (r5, σ6)))
    else if nI q = 6 then z_bd (Sf_idle (σ (b + 2) k) σ) (fun r5 σ6 => z_ck (z_bo r5) (some (r5, σ6)))
    else if nI q = 7 then z_bd (Sf_call (σ (b + 2) k) σ) (fun r20 σ21 => if r20 = -1 then some (0, σ21) else some (1, σ21))
    else if nI q = 8 then z_bd (Sf_repay (σ (b + 2) k) (σ (b + 3) k) (σ (b + 4) k) σ) (fun r26 σ27 => if r26 = -1 then some (0, σ27) else some (1, σ27))
    else z_bd (Sf_passHours (σ (b + 2) k) 1 σ) (fun _ σ32 => if σ32 9 6 = σ 9 6 + σ (b + 2) k then some (1, σ32) else some (0, σ32)) := by
    rw [Sf_perform, i24, ck, e1]
    simp only [w_ck]
  have n4 : ∀ c : Nat, c < 10 → c ≠ q → ¬ nI q = nI c := fun c h1 h2 z => h2 ((nI_eq (by omega) (by omega)).mp z).symm
  rcases (show q = 4 ∨ q = 5 ∨ q = 6 ∨ q = 7 ∨ q = 8 ∨ q = 9 by omega) with rfl | rfl | rfl | rfl | rfl | rfl
  · obtain ⟨v, σ', τ', ⟨h1, h2⟩, h3, h4, h5, h6, h7⟩ := T_wake r (σ (b + 2) k) (σ (b + 3) k)
    refine ⟨v, σ', τ', ?_, fun K14 n y1 y2 y3 => ?_, h2, h5, h6, h7⟩
    · rw [cla, if_pos (by decide), h3, w_bd, h1, w_ck]
    · rw [mda K14 n y1 y2 y3, if_pos (by decide), e5 (by omega), h4, w_bd]
  · obtain ⟨v, σ', τ', ⟨h1, h2⟩, h3, h4, h5, h6, h7⟩ := T_sleep r (σ (b + 2) k) (σ (b + 3) k)
    refine ⟨v, σ', τ', ?_, fun K14 n y1 y2 y3 => ?_, h2, h5, h6, h7⟩
    · rw [cla, if_neg (by decide), if_pos (by decide), h3, w_bd, h1, w_ck]
    · rw [mda K14 n y1 y2 y3, if_neg (by decide), if_pos (by decide), e5 (by omega), h4, w_bd]
  · obtain ⟨v, σ', τ', ⟨h1, h2⟩, h3, h4, h5, h6, h7⟩ := T_idle r (σ (b + 2) k)
    refine ⟨v, σ', τ', ?_, fun K14 n y1 y2 y3 => ?_, h2, h5, h6, h7⟩
    · rw [cla, if_neg (by decide), if_neg (by decide), if_pos (by decide), h3, w_bd, h1, w_ck]
    · rw [mda K14 n y1 y2 y3, if_neg (by decide), if_neg (by decide), if_pos (by decide), h4, w_bd]
  · obtain ⟨v, σ', τ', ⟨h1, h2⟩, h3, h4, h5, h6, h7⟩ := T_call r (σ (b + 2) k)
    by_cases hv : v = -1
    · refine ⟨0, σ', τ', ?_, fun K14 n y1 y2 y3 => ?_, h2, h5, h6, h7⟩
      · rw [cla, if_neg (by decide), if_neg (by decide), if_neg (by decide), if_pos (by decide), h3, w_bd, if_pos hv]
      · rw [mda K14 n y1 y2 y3, if_neg (by decide), if_neg (by decide), if_neg (by decide), if_pos (by decide), h4, w_bd, if_pos hv]
    · refine ⟨1, σ', τ', ?_, fun K14 n y1 y2 y3 => ?_, h2, h5, h6, h7⟩
      · rw [cla, if_neg (by decide), if_neg (by decide), if_neg (by decide), if_pos (by decide), h3, w_bd, if_neg hv]
      · rw [mda K14 n y1 y2 y3, if_neg (by decide), if_neg (by decide), if_neg (by decide), if_pos (by decide), h4, w_bd, if_neg hv]
  · obtain ⟨v, σ', τ', ⟨h1, h2⟩, h3, h4, h5, h6, h7⟩ := T_repay r (σ (b + 2) k) (σ (b + 3) k) (σ (b + 4) k)
    by_cases hv : v = -1
    · refine ⟨0, σ', τ', ?_, fun K14 n y1 y2 y3 => ?_, h2, h5, h6, h7⟩
      · rw [cla, if_neg (by decide), if_neg (by decide), if_neg (by decide), if_neg (by decide), if_pos (by decide), h3, w_bd, if_pos hv]
      · rw [mda K14 n y1 y2 y3, if_neg (by decide), if_neg (by decide), if_neg (by decide), if_neg (by decide), if_pos (by decide), e5 (by omega), e6 rfl, h4, w_bd, if_pos hv]
    · refine ⟨1, σ', τ', ?_, fun K14 n y1 y2 y3 => ?_, h2, h5, h6, h7⟩
      · rw [cla, if_neg (by decide), if_neg (by decide), if_neg (by decide), if_neg (by decide), if_pos (by decide), h3, w_bd, if_neg hv]
      · rw [mda K14 n y1 y2 y3, if_neg (by decide), if_neg (by decide), if_neg (by decide), if_neg (by decide), if_pos (by decide), e5 (by omega), e6 rfl, h4, w_bd, if_neg hv]
  · obtain ⟨h, hh1, hh2, hh3⟩ := e4 rfl
    obtain ⟨v, σ', τ', ⟨h1, h2⟩, h3, h4, h5, h6, h7⟩ := T_hours r hh2
    refine ⟨v, σ', τ', ?_, fun K14 n y1 y2 y3 => ?_, h2, h5, h6, h7⟩
    · rw [cla, if_neg (by decide), if_neg (by decide), if_neg (by decide), if_neg (by decide), if_neg (by decide), hh3]; exact h3
    · rw [mda K14 n y1 y2 y3, if_neg (by decide), if_neg (by decide), if_neg (by decide), if_neg (by decide), if_neg (by decide), if_pos (by decide), hh3, h4, w_bd]
theorem played_L {t T : Nat} (htT : t < T) (hT : T ≤ 4) : ∀ m k n n' σ τ, k + m = 24 → m < n → m < n' → Rel σ τ → σ 1 4 = nI T → ∃ v σ' τ', Sf_played_21 n (81 + 7 * t) (nI k) σ = some (v, σ') ∧ Md_played_14 n' (nI t) (nI k) τ = some (v, τ') ∧ Rel σ' τ' ∧ (∀ k, 109 ≤ k → σ' k = σ k) ∧ ∀ k, k < 109 → τ' k = τ k := by
  intro m
  induction m with
  | zero =>
    intro k n n' σ τ hk hn hn' r h14
    obtain ⟨n, rfl⟩ : ∃ q, n = q + 1 := ⟨n - 1, by omega⟩
    obtain ⟨n', rfl⟩ : ∃ q, n' = q + 1 := ⟨n' - 1, by omega⟩
    have e : k = 24 := by omega
    subst e
    obtain ⟨P, W, H, K, T2, P', W', H', K', T', rr⟩ := id r
    have q2 : σ 1 4 = nI T2 := rr.1.2.2.2.2.2.2.1.1
    have q3 : T2 ≤ 4 := rr.1.2.2.2.2.2.2.1.2.2
    have eT : T2 = T := (nI_eq (by omega) (by omega)).mp (q2.symm.trans h14)
    subst eT
    obtain ⟨N, sz, hN, t1, t2, -⟩ := rr.2.2.2.2.2 t htT
    have h1 : nI N ≤ nI 24 := (nI_leI (by omega) (by omega)).mpr hN
    refine ⟨-1, σ, τ, ?_, ?_, r, fun _ _ => rfl, fun _ _ => rfl⟩
    · rw [Sf_played_21, Sf_played_21_B, t1, if_pos h1]
    · rw [Md_played_14, Md_played_14_B, ix_t (show t < 4 by omega) (by omega), w_ck, cl_n (by omega), t2, if_pos h1]
  | succ m ih =>
    intro k n n' σ τ hk hn hn' r h14
    obtain ⟨n, rfl⟩ : ∃ q, n = q + 1 := ⟨n - 1, by omega⟩
    obtain ⟨n', rfl⟩ : ∃ q, n' = q + 1 := ⟨n' - 1, by omega⟩
    obtain ⟨P, W, H, K, T2, P', W', H', K', T', rr⟩ := id r
    have q2 : σ 1 4 = nI T2 := rr.1.2.2.2.2.2.2.1.1
    have q3 : T2 ≤ 4 := rr.1.2.2.2.2.2.2.1.2.2
    have eT : T2 = T := (nI_eq (by omega) (by omega)).mp (q2.symm.trans h14)
    subst eT
    obtain ⟨N, sz, hN, t1, t2, t3, t4, -⟩ := rr.2.2.2.2.2 t htT
    by_cases hkN : N ≤ k
    · have h1 : nI N ≤ nI k := (nI_leI (by omega) (by omega)).mpr hkN
      refine ⟨-1, σ, τ, ?_, ?_, r, fun _ _ => rfl, fun _ _ => rfl⟩
      · rw [Sf_played_21, Sf_played_21_B, t1, if_pos h1]
      · rw [Md_played_14, Md_played_14_B, ix_t (show t < 4 by omega) (by omega), w_ck, cl_n (by omega), t2, if_pos h1]
    · obtain ⟨q, hq, k1, k2, k3, k4, k5, k6⟩ := t4 k (by omega)
      have h1 : ¬ nI N ≤ nI k := by rw [nI_leI (by omega) (by omega)]; omega
      have h2 : ¬ (24 : Int32) ≤ nI k := fun z => by have := (nI_leI (a := 24) (by omega) (by omega)).mp z; omega
      by_cases hq4 : q < 4
      · have h3 : nI q < 4 := (nI_ltI (b := 4) (by omega) (by omega)).mpr hq4
        have n4 : ∀ c : Nat, 4 ≤ c → c < 10 → ¬ nI q = nI c := fun c h1 h2 z => by have := (nI_eq (by omega) (by omega)).mp z; omega
        obtain ⟨v, σ', τ', w1, w2, w3, w4, w5⟩ := ih (k + 1) n n' σ τ (by omega) (by omega) (by omega) r h14
        refine ⟨v, σ', τ', ?_, ?_, w3, w4, w5⟩
        · rw [Sf_played_21, Sf_played_21_B, t1, if_neg h1, if_neg h2, ix_t (show k < 24 by omega) (by omega), w_ck, cl_n (by omega), k1, if_pos h3, Sf_played_41, nI_1]; exact w1
        · have ea : (24 : Int32) * nI t + nI k = nI (24 * t + k) := by rw [show (24 : Int32) = nI 24 from rfl, pk_mul, nI_add]
          rw [Md_played_14, Md_played_14_B, ix_t (show t < 4 by omega) (by omega), w_ck, cl_n (by omega), t2, if_neg h1, ea, ix_t (show 24 * t + k < 96 by omega) (by omega), w_ck, cl_n (by omega), k2, if_neg (show ¬ nI q = (4 : Int32) from n4 4 (by omega) (by omega)), if_neg (show ¬ nI q = (5 : Int32) from n4 5 (by omega) (by omega)), if_neg (show ¬ nI q = (6 : Int32) from n4 6 (by omega) (by omega)), if_neg (show ¬ nI q = (7 : Int32) from n4 7 (by omega) (by omega)), if_neg (show ¬ nI q = (8 : Int32) from n4 8 (by omega) (by omega)), if_neg (show ¬ nI q = (9 : Int32) from n4 9 (by omega) (by omega)), Md_played_107, if_neg (by decide), nI_1]; exact w2
      · have h3 : ¬ nI q < 4 := fun z => hq4 ((nI_ltI (b := 4) (by omega) (by omega)).mp z)
        obtain ⟨v, σ1, τ1, p1, p2, p3, p4, p5, p6⟩ := perf_v (b := 81 + 7 * t) r (show t < 4 by omega) (show k < 24 by omega) (by omega) hq k1 k2 (k3 (by omega)) k4 k5 k6
        have cla : Sf_played_21 (n + 1) (81 + 7 * t) (nI k) σ = if v = 0 then some (nI k, σ1) else Sf_played_21 n (81 + 7 * t) (nI (k + 1)) σ1 := by
          rw [Sf_played_21, Sf_played_21_B, t1, if_neg h1, if_neg h2, ix_t (show k < 24 by omega) (by omega), w_ck, cl_n (by omega), k1, if_neg h3, p1, w_bd, Sf_played_41, nI_1]
        have mda : Md_played_14 (n' + 1) (nI t) (nI k) τ = if v = 0 then some (nI k, τ1) else Md_played_14 n' (nI t) (nI (k + 1)) τ1 := by
          rw [Md_played_14, p2 _ N t2 (by omega) hN, Md_played_107, nI_1]
        rw [cla, mda]
        by_cases hv : v = 0
        · rw [if_pos hv, if_pos hv]
          exact ⟨nI k, σ1, τ1, rfl, rfl, p4, p5, p6⟩
        · rw [if_neg hv, if_neg hv]
          obtain ⟨v', σ', τ', w1, w2, w3, w4, w5⟩ := ih (k + 1) n n' σ1 τ1 (by omega) (by omega) (by omega) p4 (p3.trans h14)
          exact ⟨v', σ', τ', w1, w2, w3, fun c hc => (w4 c hc).trans (p5 c hc), fun c hc => (w5 c hc).trans (p6 c hc)⟩
theorem S_played {σ τ : gx_R} (r : Rel σ τ) (a1 : Int32) : SimP (Sf_played a1) (Md_played a1) σ τ := by
  obtain ⟨P, W, H, K, T, P', W', H', K', T', rr⟩ := id r
  have q2 : σ 1 4 = nI T := rr.1.2.2.2.2.2.2.1.1
  have q3 : τ 110 2 = nI T := rr.1.2.2.2.2.2.2.1.2.1
  have hT : T ≤ 4 := rr.1.2.2.2.2.2.2.1.2.2
  have g1 : nI T ≤ 4 := (nI_leI (b := 4) (by omega) (by omega)).mpr hT
  have g2 : (0 : Int32) ≤ nI T := by rw [← nI_0, nI_leI (by omega) (by omega)]; omega
  by_cases h1 : a1 < 0
  · exact SimP_ro r (-2) (by rw [Sf_played, if_pos h1]) (by rw [Md_played, Md_in_v, w_bd, decide_eq_false (fun z => z.1 h1), bI_f, if_pos rfl])
  · by_cases h2 : nI T ≤ a1
    · have h3 : nI T - 1 < a1 := by grind
      exact SimP_ro r (-2) (by rw [Sf_played, if_neg h1, q2, if_pos h2]) (by rw [Md_played, show (2 : Int32).toNatClampNeg = 2 from rfl, q3, Md_in_v, w_bd, decide_eq_false (fun z => z.2 h3), bI_f, if_pos rfl])
    · have h3 : ¬ nI T - 1 < a1 := by grind
      obtain ⟨t, ht, rfl⟩ := nI_of (x := a1) h1
      rw [nI_leI (by omega) ht] at h2
      have h4 : nI t < nI 4 := (nI_ltI (by omega) (by omega)).mpr (by omega)
      obtain ⟨v, σ', τ', w1, w2, w3, w4, w5⟩ := played_L (t := t) (by omega) hT 24 0 z_FU z_FU σ τ (by omega) (Nat.lt_of_lt_of_le (by decide) z_FU_ge) (Nat.lt_of_lt_of_le (by decide) z_FU_ge) r q2
      refine ⟨v, σ', τ', ?_, ?_, w3, w4, w5⟩
      · rw [Sf_played, if_neg h1, q2, if_neg (fun z => h2 ((nI_leI (by omega) ht).mp z)), if_pos h4, ix_t (show t < 4 by omega) (by omega), w_ck, cl_n (by omega)]; exact w1
      · rw [Md_played, show (2 : Int32).toNatClampNeg = 2 from rfl, q3, Md_in_v, w_bd, decide_eq_true ⟨h1, h3⟩, bI_t, if_neg (by decide)]; exact w2
