/-! ===== image, back ===== -/
theorem ValleyR_copy {σ σ' : gx_R} {b b' : Nat} {a a' : gx_F} {P W H K T : Nat} (h0 : σ' (b' + 1) 0 = σ (b + 1) 0 ∧ σ' (b' + 1) 1 = σ (b + 1) 1) (h1 : ∀ p, p < 8 → σ' (b' + 2) p = σ (b + 2) p ∧ σ' (b' + 3) p = σ (b + 3) p ∧ σ' (b' + 4) p = σ (b + 4) p ∧ σ' (b' + 5) p = σ (b + 5) p) (h2 : ∀ p, p < 6 → σ' (b' + 6) p = σ (b + 6) p ∧ σ' (b' + 7) p = σ (b + 7) p) (h3 : ∀ i, i < 104 → nuC σ' (b' + 8) i = nuC σ (b + 8) i) (h4 : σ' (b' + 15) 1 = σ (b + 15) 1 ∧ σ' (b' + 15) 2 = σ (b + 15) 2) (h5 : ∀ i, i < 3120 → σ' (b' + 16) i = σ (b + 16) i) (h6 : ∀ i, i < 999 → σ' (b' + 17) i = σ (b + 17) i) (h7 : σ' b' 4 = σ b 4 ∧ σ' b' 5 = σ b 5) (ha : ∀ i, i < 8880 → a' i = a i) (r : ValleyR σ b a P W H K T) : ValleyR σ' b' a' P W H K T := by
  obtain ⟨q1, q2, q3, q4, ⟨O, q5, q6⟩, ⟨q7, q8⟩, ⟨q9, q10, q11⟩, q12, q13⟩ := r
  have hP := q1.1.1
  have hK := q6.1
  refine ⟨FolkR_cong h0.1 h0.2 (fun p hp => (h1 p hp).1) (fun p hp => (h1 p hp).2.1) (fun p hp => (h1 p hp).2.2.1) (fun p hp => (h1 p hp).2.2.2) (fun p hp => (h2 p hp).1) (fun p hp => (h2 p hp).2) (fun i hi => ha i (by omega)) q1, NightR_cong hP h3 (fun i hi => ha _ (by omega)) (fun w hw => (h2 w hw).1) q2, q3, KeptR_cong (fun i hi => h6 i (by omega)) (fun i z1 z2 => ha _ (by omega)) q4, ⟨O, h4.1.trans q5, StepsR_cong hP h5 (fun i hi => h6 i (by omega)) (fun w hw => (h2 w hw).1) (fun i z1 z2 => ha i z2) q6⟩, ⟨h4.2.trans q7, (ha 4 (by omega)).trans q8⟩, ⟨h7.1.trans q9, (ha 2 (by omega)).trans q10, q11⟩, ((ha 3 (by omega)).trans q12).trans h7.2.symm, ?_⟩
  rw [h7.2]; exact q13
theorem FoC_v (b0 b1 : Nat) (h : b1 + 7 ≤ b0 ∨ b0 + 7 ≤ b1) (σ : gx_R) : ∃ σ', Fo_copy b0 b1 σ = some ((), σ') ∧ (∀ c, ¬ (b0 ≤ c ∧ c ≤ b0 + 6) → σ' c = σ c) ∧ (σ' b0 0 = σ b1 0 ∧ σ' b0 1 = σ b1 1) ∧ (∀ p, p < 8 → σ' (b0 + 1) p = σ (b1 + 1) p ∧ σ' (b0 + 2) p = σ (b1 + 2) p ∧ σ' (b0 + 3) p = σ (b1 + 3) p ∧ σ' (b0 + 4) p = σ (b1 + 4) p) ∧ ∀ p, p < 6 → σ' (b0 + 5) p = σ (b1 + 5) p ∧ σ' (b0 + 6) p = σ (b1 + 6) p := by
  have z0 : (0 : Int32).toNatClampNeg = 0 := rfl
  have z8 : (8 : Int32).toNatClampNeg = 8 := rfl
  have z6 : (6 : Int32).toNatClampNeg = 6 := rfl
  unfold Fo_copy
  rw [z0, z8, z6]
  refine ⟨_, rfl, fun c hc => ?_, ⟨?_, ?_⟩, fun p hp => ⟨?_, ?_, ?_, ?_⟩, fun p hp => ⟨?_, ?_⟩⟩
  · simp (disch := omega) only [gx_cp_ne, gx_up_ne]
  · simp (disch := omega) only [gx_cp_ne, up_p, up_e, gx_up_ne]
  · simp (disch := omega) only [gx_cp_ne, up_p, up_e, gx_up_ne]
  all_goals
    simp (disch := omega) only [gx_cp_ne, gx_up_ne, cp_row]
    rw [if_pos (by omega)]
    congr 1; omega
theorem NiC_v (b0 b1 : Nat) (h : b1 + 7 ≤ b0 ∨ b0 + 7 ≤ b1) (σ : gx_R) : ∃ σ', Ni_copy b0 b1 σ = some ((), σ') ∧ (∀ c, ¬ (b0 ≤ c ∧ c ≤ b0 + 6) → σ' c = σ c) ∧ ∀ i, i < 104 → nuC σ' b0 i = nuC σ b1 i := by
  have z0 : (0 : Int32).toNatClampNeg = 0 := rfl
  have z8 : (8 : Int32).toNatClampNeg = 8 := rfl
  have z6 : (6 : Int32).toNatClampNeg = 6 := rfl
  have z64 : (64 : Int32).toNatClampNeg = 64 := rfl
  unfold Ni_copy
  rw [z0, z8, z6, z64]
  refine ⟨_, rfl, fun c hc => ?_, fun i hi => ?_⟩
  · simp (disch := omega) only [gx_cp_ne, gx_up_ne]
  · unfold nuC
    simp (disch := omega) only [gx_cp_ne, gx_up_ne, up_p, up_e, cp_row]
    grind
theorem StC_v (b0 b1 : Nat) (h : b1 + 2 ≤ b0 ∨ b0 + 2 ≤ b1) (σ : gx_R) : ∃ σ', St_copy b0 b1 σ = some ((), σ') ∧ (∀ c, ¬ (b0 ≤ c ∧ c ≤ b0 + 1) → σ' c = σ c) ∧ (σ' b0 1 = σ b1 1 ∧ σ' b0 2 = σ b1 2) ∧ ∀ i, i < 3120 → σ' (b0 + 1) i = σ (b1 + 1) i := by
  have z0 : (0 : Int32).toNatClampNeg = 0 := rfl
  have z8 : (nI 3120).toNatClampNeg = 3120 := cl_n (by omega)
  have zc : z_cpk (0 : Int32) (0 : Int32) (nI 3120) 3120 3120 = true := by
    have := cpk_n (a := 0) (b := 0) (n := 3120) (n0 := 3120) (n1 := 3120) (by omega) (by omega) (by omega) (by omega)
    exact this
  unfold St_copy
  rw [zc, w_ck, z0, z8]
  refine ⟨_, rfl, fun c hc => ?_, ⟨?_, ?_⟩, fun i hi => ?_⟩
  · simp (disch := omega) only [gx_cp_ne, gx_up_ne]
  · simp (disch := omega) only [gx_cp_ne, up_p, up_e, gx_up_ne]
  · simp (disch := omega) only [gx_cp_ne, up_p, up_e, gx_up_ne]
  · simp (disch := omega) only [gx_cp_ne, gx_up_ne, cp_row]
    rw [if_pos (by omega)]
    congr 1; omega
theorem VaC_v (b0 b1 : Nat) (h : b1 + 18 ≤ b0 ∨ b0 + 18 ≤ b1) (σ : gx_R) : ∃ σ', Va_copy b0 b1 σ = some ((), σ') ∧ (∀ c, ¬ (b0 ≤ c ∧ c ≤ b0 + 17) → σ' c = σ c) ∧ ∀ a a' P W H K T, (∀ i, i < 8880 → a' i = a i) → ValleyR σ b1 a P W H K T → ValleyR σ' b0 a' P W H K T := by
  have z0 : (0 : Int32).toNatClampNeg = 0 := rfl
  have z9 : (nI 999).toNatClampNeg = 999 := cl_n (by omega)
  have zc : z_cpk (0 : Int32) (0 : Int32) (nI 999) 999 999 = true := by
    have := cpk_n (a := 0) (b := 0) (n := 999) (n0 := 999) (n1 := 999) (by omega) (by omega) (by omega) (by omega)
    exact this
  obtain ⟨σ1, f1, f2, f3, f4, f5⟩ := FoC_v (b0 + 1) (b1 + 1) (by omega) σ
  obtain ⟨σ2, n1, n2, n3⟩ := NiC_v (b0 + 8) (b1 + 8) (by omega) σ1
  obtain ⟨σ3, s1, s2, s3, s4⟩ := StC_v (b0 + 15) (b1 + 15) (by omega) σ2
  have e12 : ∀ c, b1 ≤ c → c ≤ b1 + 17 → σ1 c = σ c := fun c y1 y2 => f2 c (by omega)
  have e2 : ∀ c, b1 ≤ c → c ≤ b1 + 17 → σ2 c = σ c := fun c y1 y2 => by rw [n2 c (by omega), e12 c y1 y2]
  have e3 : ∀ c, b1 ≤ c → c ≤ b1 + 17 → σ3 c = σ c := fun c y1 y2 => by rw [s2 c (by omega), e2 c y1 y2]
  refine ⟨gx_up (gx_up (gx_cp σ3 (b1 + 17) (b0 + 17) 0 0 999) b0 4 (σ b1 4)) b0 5 (σ b1 5), ?_, fun c hc => ?_, fun a a' P W H K T ha r => ?_⟩
  · rw [Va_copy, f1, w_bd, n1, w_bd, s1, w_bd, zc, w_ck, z0, z9, gx_cp_ne (show b1 ≠ b0 + 17 by omega), gx_up_ne (show b1 ≠ b0 by omega), gx_cp_ne (show b1 ≠ b0 + 17 by omega), e3 b1 (by omega) (by omega)]
  · rw [gx_up_ne (by omega), gx_up_ne (by omega), gx_cp_ne (by omega), s2 c (by omega), n2 c (by omega), f2 c (by omega)]
  · have g : ∀ c, c ≠ b0 → c ≠ b0 + 17 → gx_up (gx_up (gx_cp σ3 (b1 + 17) (b0 + 17) 0 0 999) b0 4 (σ b1 4)) b0 5 (σ b1 5) c = σ3 c := fun c y1 y2 => by rw [gx_up_ne y1, gx_up_ne y1, gx_cp_ne y2]
    have gF : ∀ c, b0 + 1 ≤ c → c ≤ b0 + 7 → gx_up (gx_up (gx_cp σ3 (b1 + 17) (b0 + 17) 0 0 999) b0 4 (σ b1 4)) b0 5 (σ b1 5) c = σ1 c := fun c y1 y2 => by rw [g c (by omega) (by omega), s2 c (by omega), n2 c (by omega)]
    refine ValleyR_copy (b := b1) (b' := b0) ⟨?_, ?_⟩ (fun p hp => ⟨?_, ?_, ?_, ?_⟩) (fun p hp => ⟨?_, ?_⟩) (fun i hi => ?_) ⟨?_, ?_⟩ (fun i hi => ?_) (fun i hi => ?_) ⟨?_, ?_⟩ ha r
    · rw [gF _ (by omega) (by omega)]; exact f3.1
    · rw [gF _ (by omega) (by omega)]; exact f3.2
    · rw [gF _ (by omega) (by omega)]; exact (f4 p hp).1
    · rw [gF _ (by omega) (by omega)]; exact (f4 p hp).2.1
    · rw [gF _ (by omega) (by omega)]; exact (f4 p hp).2.2.1
    · rw [gF _ (by omega) (by omega)]; exact (f4 p hp).2.2.2
    · rw [gF _ (by omega) (by omega)]; exact (f5 p hp).1
    · rw [gF _ (by omega) (by omega)]; exact (f5 p hp).2
    · rw [nuC_fr (σ := σ2) (fun k y1 y2 => by rw [g k (by omega) (by omega), s2 k (by omega)]), n3 i hi, nuC_fr (σ := σ) (fun k y1 y2 => e12 k (by omega) (by omega))]
    · rw [g _ (by omega) (by omega), s3.1, e2 _ (by omega) (by omega)]
    · rw [g _ (by omega) (by omega), s3.2, e2 _ (by omega) (by omega)]
    · rw [g _ (by omega) (by omega), show b0 + 16 = b0 + 15 + 1 by omega, s4 i hi, e2 _ (by omega) (by omega)]
    · rw [gx_up_ne (by omega), gx_up_ne (by omega), cp_row, if_pos (by omega), e3 _ (by omega) (by omega)]; congr 1; omega
    · rw [up_p _ _ _ (by omega), up_e]
    · rw [up_e]
theorem cps_1 : ∀ m k n τ, k + m = 8880 → m < n → ∃ τ', Md_copies_2 n 1 (nI k) τ = some ((), τ') ∧ (∀ c, c ≠ 111 → τ' c = τ c) ∧ ∀ j, τ' 111 j = if k ≤ j ∧ j < 8880 then τ 110 j else τ 111 j := by
  intro m
  induction m with
  | zero =>
    intro k n τ hk hn
    obtain ⟨n, rfl⟩ : ∃ q, n = q + 1 := ⟨n - 1, by omega⟩
    have e : k = 8880 := by omega
    subst e
    refine ⟨τ, by rw [Md_copies_2, Md_copies_2_B, if_pos (by decide)], fun _ _ => rfl, fun j => ?_⟩
    rw [if_neg (by omega)]
  | succ m ih =>
    intro k n τ hk hn
    obtain ⟨n, rfl⟩ : ∃ q, n = q + 1 := ⟨n - 1, by omega⟩
    obtain ⟨τ', q1, q2, q3⟩ := ih (k + 1) n (gx_up τ 111 k (τ 110 k)) (by omega) (by omega)
    have c5 : ¬ (8880 : Int32) ≤ nI k := fun z => by have := (nI_leI (a := 8880) (by omega) (by omega)).mp z; omega
    refine ⟨τ', ?_, fun c z1 => by rw [q2 c z1, gx_up_ne z1], fun j => ?_⟩
    · rw [Md_copies_2, Md_copies_2_B, if_neg c5, if_neg (by decide), ix_t (show k < 8880 by omega) (by omega), w_ck, w_ck, cl_n (by omega), Md_copies_24, nI_1]
      exact q1
    · rw [q3 j]
      by_cases e : j = k
      · subst e; rw [if_neg (by omega), up_e, if_pos (by omega)]
      · rw [up_p _ _ _ e, gx_up_ne (by omega)]
        by_cases e2 : k + 1 ≤ j ∧ j < 8880
        · rw [if_pos e2, if_pos (by omega)]
        · rw [if_neg e2, if_neg (by omega)]
theorem cps_0 : ∀ m k n τ, k + m = 8880 → m < n → ∃ τ', Md_copies_2 n 0 (nI k) τ = some ((), τ') ∧ (∀ c, c ≠ 110 → τ' c = τ c) ∧ ∀ j, τ' 110 j = if k ≤ j ∧ j < 8880 then τ 111 j else τ 110 j := by
  intro m
  induction m with
  | zero =>
    intro k n τ hk hn
    obtain ⟨n, rfl⟩ : ∃ q, n = q + 1 := ⟨n - 1, by omega⟩
    have e : k = 8880 := by omega
    subst e
    refine ⟨τ, by rw [Md_copies_2, Md_copies_2_B, if_pos (by decide)], fun _ _ => rfl, fun j => ?_⟩
    rw [if_neg (by omega)]
  | succ m ih =>
    intro k n τ hk hn
    obtain ⟨n, rfl⟩ : ∃ q, n = q + 1 := ⟨n - 1, by omega⟩
    obtain ⟨τ', q1, q2, q3⟩ := ih (k + 1) n (gx_up τ 110 k (τ 111 k)) (by omega) (by omega)
    have c5 : ¬ (8880 : Int32) ≤ nI k := fun z => by have := (nI_leI (a := 8880) (by omega) (by omega)).mp z; omega
    refine ⟨τ', ?_, fun c z1 => by rw [q2 c z1, gx_up_ne z1], fun j => ?_⟩
    · rw [Md_copies_2, Md_copies_2_B, if_neg c5, if_pos rfl, ix_t (show k < 8880 by omega) (by omega), w_ck, w_ck, cl_n (by omega), Md_copies_24, nI_1]
      exact q1
    · rw [q3 j]
      by_cases e : j = k
      · subst e; rw [if_neg (by omega), up_e, if_pos (by omega)]
      · rw [up_p _ _ _ e, gx_up_ne (by omega)]
        by_cases e2 : k + 1 ≤ j ∧ j < 8880
        · rw [if_pos e2, if_pos (by omega)]
        · rw [if_neg e2, if_neg (by omega)]
theorem S_image {σ τ : gx_R} (r : Rel σ τ) : SimP Sf_image Md_image σ τ := by
  obtain ⟨P, W, H, K, T, P', W', H', K', T', r1, r2, r3, r4, r5, r6⟩ := id r
  have hT : T ≤ 4 := r1.2.2.2.2.2.2.1.2.2
  have c1 : σ 9 6 = nI H := r1.2.1.2.2.2.2.2.1.2.2
  have c2 : τ 110 162 = nI H := by rw [← c1]; exact r1.2.1.2.2.2.2.2.1.1
  obtain ⟨σ', s1, s2, s3⟩ := VaC_v 19 1 (by omega) σ
  obtain ⟨τ', t1, t2, t3⟩ := cps_1 8880 0 z_FU τ (by omega) (Nat.lt_of_lt_of_le (by decide) z_FU_ge)
  refine ⟨nI H, σ', τ', ?_, ?_, ⟨P, W, H, K, T, P, W, H, K, T, ?_, ?_, Nat.le_refl _, ?_, ?_, fun t ht => TextR_fr (fun k z1 z2 => s2 k (by omega)) (fun k z1 z2 => t2 k (by omega)) (by omega) (r6 t ht)⟩, fun c hc => s2 c (by omega), fun c hc => t2 c (by omega)⟩
  · rw [Sf_image, s1, w_bd, s2 9 (by omega), c1]
  · rw [Md_image, show Md_copies 1 τ = some ((), τ') from t1, w_bd, show (162 : Int32).toNatClampNeg = 162 from rfl, t2 110 (by omega), c2]
  · rw [t2 110 (by omega)]
    exact ValleyR_fr (fun k z1 z2 => s2 k (by omega)) r1
  · exact s3 (τ 110) (τ' 111) P W H K T (fun i hi => by rw [t3 i, if_pos (by omega)]) r1
  · rw [s2 0 (by omega), s2 38 (by omega), t2 109 (by omega), t2 112 (by omega)]; exact r4
  · rw [s2 39 (by omega), t2 109 (by omega)]; exact r5
theorem S_back {σ τ : gx_R} (r : Rel σ τ) : SimP Sf_back Md_back σ τ := by
  obtain ⟨P, W, H, K, T, P', W', H', K', T', r1, r2, r3, r4, r5, r6⟩ := id r
  have hT : T ≤ 4 := r1.2.2.2.2.2.2.1.2.2
  obtain ⟨σ', s1, s2, s3⟩ := VaC_v 1 19 (by omega) σ
  obtain ⟨τ', t1, t2, t3⟩ := cps_0 8880 0 z_FU τ (by omega) (Nat.lt_of_lt_of_le (by decide) z_FU_ge)
  have V := s3 (τ 111) (τ' 110) P' W' H' K' T' (fun i hi => by rw [t3 i, if_pos (by omega)]) r2
  have c1 : σ' 9 6 = nI H' := V.2.1.2.2.2.2.2.1.2.2
  have c2 : τ' 110 162 = nI H' := by rw [← c1]; exact V.2.1.2.2.2.2.2.1.1
  refine ⟨nI H', σ', τ', ?_, ?_, ⟨P', W', H', K', T', P', W', H', K', T', V, ?_, Nat.le_refl _, ?_, ?_, fun t ht => TextR_fr (fun k z1 z2 => s2 k (by omega)) (fun k z1 z2 => t2 k (by omega)) (by omega) (r6 t (by omega))⟩, fun c hc => s2 c (by omega), fun c hc => t2 c (by omega)⟩
  · rw [Sf_back, s1, w_bd, c1]
  · rw [Md_back, show Md_copies 0 τ = some ((), τ') from t1, w_bd, show (162 : Int32).toNatClampNeg = 162 from rfl, c2]
  · rw [t2 111 (by omega)]
    exact ValleyR_fr (fun k z1 z2 => s2 k (by omega)) r2
  · rw [s2 0 (by omega), s2 38 (by omega), t2 109 (by omega), t2 112 (by omega)]; exact r4
  · rw [s2 39 (by omega), t2 109 (by omega)]; exact r5
