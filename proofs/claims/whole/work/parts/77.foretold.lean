/-! ===== what the coming hours would bring ===== -/
theorem copyN_v (σ : gx_R) : ∃ σ', Ni_copy 56 9 σ = some ((), σ') ∧ (∀ c, ¬ (56 ≤ c ∧ c ≤ 62) → σ' c = σ c) ∧ ∀ i, i < 104 → nuC σ' 56 i = nuC σ 9 i := by
  unfold Ni_copy
  refine ⟨_, rfl, fun c h => ?_, fun i hi => ?_⟩
  · rw [gx_up_ne (by omega), gx_up_ne (by omega), gx_cp_ne (by omega), gx_cp_ne (by omega), gx_cp_ne (by omega), gx_cp_ne (by omega), gx_cp_ne (by omega), gx_cp_ne (by omega)]
  · rw [show (0 : Int32).toNatClampNeg = 0 from rfl, show (8 : Int32).toNatClampNeg = 8 from rfl, show (64 : Int32).toNatClampNeg = 64 from rfl, show (6 : Int32).toNatClampNeg = 6 from rfl]
    unfold nuC
    simp only [gx_up, gx_cp]
    grind
theorem fore_0 {σ τ : gx_R} {P W H K T : Nat} (r : ValleyR σ 1 (τ 110) P W H K T) (ht : ∀ t, t < T → TextR σ τ t) : ∃ σ' τ', Ni_copy 56 9 σ = some ((), σ') ∧ Md_laysNow τ = some ((), τ') ∧ EnvR σ' τ' P W T ∧ NowR 56 σ' τ' (σ' 7) P W H ∧ sc σ σ' ∧ sm τ τ' ∧ (∀ p, p < 8 → σ' 57 p = σ 10 p) := by
  obtain ⟨σ1, s1, s2, s3⟩ := copyN_v σ
  obtain ⟨τ1, u1, hN, u3, u4⟩ := lays_R r
  have hP := r.1.1.1
  refine ⟨σ1, τ1, s1, u1, EnvR_fr (fun c hc => s2 c (by omega)) ⟨fun i _ => by rw [u3 110 (by omega) (by omega)], fun k z1 z2 => u3 k (by omega) (by omega)⟩ (EnvR_of r ht), ?_, fun c hc => s2 c (by omega), ⟨fun c hc => u3 c (by omega) (by omega), fun j hj => u4 j (by omega) (by omega)⟩, fun p hp => ?_⟩
  · rw [s2 7 (by omega)]
    exact (NowR_iff hP).mp (NightR_cong hP s3 (fun _ _ => rfl) (fun _ _ => rfl) ((NowR_iff hP).mpr hN))
  · have := s3 p (by omega)
    rwa [nu_d _ _ hp, nu_d _ _ hp] at this
theorem done_L {P W T A w : Nat} (hA : A ≤ 60) : ∀ m j n n' σ τ H, j + m = A → m < n → m < n' → H + m ≤ 2000 → EnvR σ τ P W T → NowR 56 σ τ (σ 7) P W H → ∃ σ' τ' H', Sf_foretoldDone_22 n (nI A) (nI w) (nI j) σ = Sf_foretoldDone_32 (nI w) σ' ∧ Md_foretoldDone_15 n' (nI A) (nI w) (nI j) τ = Md_foretoldDone_23 (nI w) τ' ∧ NowR 56 σ' τ' (σ' 7) P W H' ∧ sc σ σ' ∧ sm τ τ' := by
  intro m
  induction m with
  | zero =>
    intro j n n' σ τ H hj hn hn' hH hE hN
    obtain ⟨n, rfl⟩ : ∃ q, n = q + 1 := ⟨n - 1, by omega⟩
    obtain ⟨n', rfl⟩ : ∃ q, n' = q + 1 := ⟨n' - 1, by omega⟩
    have e : j = A := by omega
    subst e
    exact ⟨σ, τ, H, by rw [Sf_foretoldDone_22, Sf_foretoldDone_22_B, if_pos Int32.le_rfl], by rw [Md_foretoldDone_15, Md_foretoldDone_15_B, if_pos Int32.le_rfl], hN, sc_rf σ, sm_rf τ⟩
  | succ m ih =>
    intro j n n' σ τ H hj hn hn' hH hE hN
    obtain ⟨n, rfl⟩ : ∃ q, n = q + 1 := ⟨n - 1, by omega⟩
    obtain ⟨n', rfl⟩ : ∃ q, n' = q + 1 := ⟨n' - 1, by omega⟩
    obtain ⟨x, y, l, σ1, τ1, hx, hy, hl, v1, v2, hE2, hN2, -, -, v9, v10, -, -⟩ := pass_v (Or.inr rfl) (by omega) hE hN
    obtain ⟨σ', τ', H', w1, w2, w3, w4, w5⟩ := ih (j + 1) n n' σ1 τ1 (H + 1) (by omega) (by omega) (by omega) (by omega) hE2 hN2
    have d1 : ¬ nI A ≤ nI j := by rw [nI_leI (by omega) (by omega)]; omega
    refine ⟨σ', τ', H', ?_, ?_, w3, sc_tr (fun c hc => v9 c (by omega) (by omega)) w4, sm_tr ⟨fun c hc => v10.1 c (by omega) (by omega), v10.2⟩ w5⟩
    · rw [Sf_foretoldDone_22, Sf_foretoldDone_22_B, if_neg d1, v1, w_bd, nI_1]; exact w1
    · rw [Md_foretoldDone_15, Md_foretoldDone_15_B, if_neg d1, v2, w_bd, nI_1]; exact w2
theorem S_foretoldDone {σ τ : gx_R} (r : Rel σ τ) (a1 a2 : Int32) : SimP (Sf_foretoldDone a1 a2) (Md_foretoldDone a1 a2) σ τ := by
  obtain ⟨P, W, H, K, T, P', W', H', K', T', rr⟩ := id r
  have r1 := rr.1
  have hW := r1.1.1.2
  have hH : H ≤ 999 := r1.2.2.1
  have w1 : σ 2 1 = nI W := r1.1.2.1.2.2.1
  have w2 := r1.1.2.1.2.2.2
  by_cases h1 : a1 < 1
  · exact SimP_ro r (-1) (by rw [Sf_foretoldDone, if_pos h1]) (by rw [Md_foretoldDone, Md_in_v, w_bd, decide_eq_false (fun z => z.1 h1), bI_f, if_pos rfl])
  · by_cases h2 : (60 : Int32) < a1
    · exact SimP_ro r (-1) (by rw [Sf_foretoldDone, if_neg h1, if_pos h2]) (by rw [Md_foretoldDone, Md_in_v, w_bd, decide_eq_false (fun z => z.2 h2), bI_f, if_pos rfl])
    · obtain ⟨A, hA1, hA2, rfl⟩ := in_nat (l := 1) (u := 60) (by omega) (by omega) h1 h2
      cases hw : z_ix a2 W with
      | false =>
        exact SimP_ro r (-1) (by rw [Sf_foretoldDone, if_neg h1, if_neg h2, Fo_isWork_v w1 hW, hw, w_bd, bI_f, if_pos rfl]) (by rw [Md_foretoldDone, Md_in_v, w_bd, decide_eq_true ⟨h1, h2⟩, bI_t, if_neg (by decide), Md_isWork_v w2 hW, hw, w_bd, bI_f, if_pos rfl])
      | true =>
        obtain ⟨w, hw2, rfl⟩ := ix_ex hw (by omega)
        obtain ⟨σ1, τ1, s1, s2, hE, hN, s3, s4, -⟩ := fore_0 r1 rr.2.2.2.2.2
        obtain ⟨σ', τ', H2, q1, q2, q3, q4, q5⟩ := done_L (A := A) (w := w) hA2 A 0 z_FU z_FU σ1 τ1 H (by omega) (Nat.lt_of_le_of_lt hA2 (Nat.lt_of_lt_of_le (by decide) z_FU_ge)) (Nat.lt_of_le_of_lt hA2 (Nat.lt_of_lt_of_le (by decide) z_FU_ge)) (by omega) hE hN
        refine SimP_sc r (σ' 62 w) ?_ ?_ (sc_tr s3 q4) (sm_tr s4 q5)
        · rw [Sf_foretoldDone, if_neg h1, if_neg h2, Fo_isWork_v w1 hW, hw, w_bd, bI_t, if_neg (by decide), s1, w_bd]
          refine q1.trans ?_
          rw [Sf_foretoldDone_32, ix_t (show w < 6 by omega) (by omega), w_ck, cl_n (by omega)]
        · rw [Md_foretoldDone, Md_in_v, w_bd, decide_eq_true ⟨h1, h2⟩, bI_t, if_neg (by decide), Md_isWork_v w2 hW, hw, w_bd, bI_t, if_neg (by decide), s2, w_bd]
          refine q2.trans ?_
          rw [Md_foretoldDone_23, ix_t (show w < 6 by omega) (by omega), w_ck, cl_n (by omega), q3.2.2.2.2.1 w (by omega)]
theorem stop_L {P W T A p : Nat} (hA : A ≤ 60) (hp : p < P) : ∀ m j n n' σ τ H, j + m = A + 1 → m < n → m < n' → H + m ≤ 2000 → EnvR σ τ P W T → NowR 56 σ τ (σ 7) P W H → ∃ v σ' τ', Sf_foretoldStop_21 n (nI A) (nI p) (nI j) σ = some (v, σ') ∧ Md_foretoldStop_15 n' (nI A) (nI p) (nI j) τ = some (v, τ') ∧ sc σ σ' ∧ sm τ τ' ∧ (σ 57 p ≠ 1 → v = -1) := by
  intro m
  induction m with
  | zero =>
    intro j n n' σ τ H hj hn hn' hH hE hN
    obtain ⟨n, rfl⟩ : ∃ q, n = q + 1 := ⟨n - 1, by omega⟩
    obtain ⟨n', rfl⟩ : ∃ q, n' = q + 1 := ⟨n' - 1, by omega⟩
    have d1 : nI A < nI j := by rw [nI_ltI (by omega) (by omega)]; omega
    exact ⟨-1, σ, τ, by rw [Sf_foretoldStop_21, Sf_foretoldStop_21_B, if_pos d1], by rw [Md_foretoldStop_15, Md_foretoldStop_15_B, if_pos d1], sc_rf σ, sm_rf τ, fun _ => rfl⟩
  | succ m ih =>
    intro j n n' σ τ H hj hn hn' hH hE hN
    obtain ⟨n, rfl⟩ : ∃ q, n = q + 1 := ⟨n - 1, by omega⟩
    obtain ⟨n', rfl⟩ : ∃ q, n' = q + 1 := ⟨n' - 1, by omega⟩
    have hP := hE.1.1.1
    obtain ⟨x, y, l, σ1, τ1, hx, hy, hl, v1, v2, hE2, hN2, ⟨-, v4, -⟩, ⟨-, v6, -⟩, v9, v10, v11, v12⟩ := pass_v (Or.inr rfl) (by omega) hE hN
    have d1 : ¬ nI A < nI j := by rw [nI_ltI (by omega) (by omega)]; omega
    have k1 : sc σ σ1 := fun c hc => v9 c (by omega) (by omega)
    have k2 : sm τ τ1 := ⟨fun c hc => v10.1 c (by omega) (by omega), v10.2⟩
    rw [Sf_foretoldStop_21, Sf_foretoldStop_21_B, if_neg d1, v1, w_bd, v4, Md_foretoldStop_15, Md_foretoldStop_15_B, if_neg d1, v2, w_bd, v6, Md_has_v _ (by omega), w_bd, nI_1]
    cases hb : bt (nI y) p with
    | true =>
      rw [if_pos ((h_1 (by omega)).mpr hb), bI_t, if_neg (by decide)]
      exact ⟨nI j, σ1, τ1, rfl, rfl, k1, k2, fun z => absurd (v12 p (by omega) hb).2 z⟩
    | false =>
      rw [if_neg (fun z => by rw [(h_1 (by omega)).mp z] at hb; cases hb), bI_f, if_pos rfl]
      obtain ⟨v, σ', τ', w1, w2, w3, w4, w5⟩ := ih (j + 1) n n' σ1 τ1 (H + 1) (by omega) (by omega) (by omega) (by omega) hE2 hN2
      exact ⟨v, σ', τ', w1, w2, sc_tr k1 w3, sm_tr k2 w4, fun z => w5 (fun z2 => z (v11 p (by omega) z2))⟩
theorem S_foretoldStop {σ τ : gx_R} (r : Rel σ τ) (a1 a2 : Int32) : SimP (Sf_foretoldStop a1 a2) (Md_foretoldStop a1 a2) σ τ := by
  obtain ⟨P, W, H, K, T, P', W', H', K', T', rr⟩ := id r
  have r1 := rr.1
  have hP := r1.1.1.1
  have hH : H ≤ 999 := r1.2.2.1
  have p1 : σ 2 0 = nI P := r1.1.2.1.1
  have p2 := r1.1.2.1.2.1
  by_cases h1 : a1 < 1
  · exact SimP_ro r (-1) (by rw [Sf_foretoldStop, if_pos h1]) (by rw [Md_foretoldStop, Md_in_v, w_bd, decide_eq_false (fun z => z.1 h1), bI_f, if_pos rfl])
  · by_cases h2 : (60 : Int32) < a1
    · exact SimP_ro r (-1) (by rw [Sf_foretoldStop, if_neg h1, if_pos h2]) (by rw [Md_foretoldStop, Md_in_v, w_bd, decide_eq_false (fun z => z.2 h2), bI_f, if_pos rfl])
    · obtain ⟨A, hA1, hA2, rfl⟩ := in_nat (l := 1) (u := 60) (by omega) (by omega) h1 h2
      cases hz : z_ix a2 P with
      | false =>
        exact SimP_ro r (-1) (by rw [Sf_foretoldStop, if_neg h1, if_neg h2, isDoing_v p1 hP, hz, Bool.false_and, w_bd, bI_f, if_pos rfl]) (by rw [Md_foretoldStop, Md_in_v, w_bd, decide_eq_true ⟨h1, h2⟩, bI_t, if_neg (by decide), Md_isPerson_v p2 hP, hz, w_bd, bI_f, if_pos rfl])
      | true =>
        obtain ⟨p, hp, rfl⟩ := ix_ex hz (by omega)
        obtain ⟨σ1, τ1, s1, s2, hE, hN, s3, s4, s5⟩ := fore_0 r1 rr.2.2.2.2.2
        obtain ⟨v, σ', τ', q1, q2, q3, q4, q5⟩ := stop_L (A := A) hA2 hp A 1 z_FU z_FU σ1 τ1 H (by omega) (Nat.lt_of_le_of_lt hA2 (Nat.lt_of_lt_of_le (by decide) z_FU_ge)) (Nat.lt_of_le_of_lt hA2 (Nat.lt_of_lt_of_le (by decide) z_FU_ge)) (by omega) hE hN
        have mda : Md_foretoldStop (nI A) (nI p) τ = some (v, τ') := by
          rw [Md_foretoldStop, Md_in_v, w_bd, decide_eq_true ⟨h1, h2⟩, bI_t, if_neg (by decide), Md_isPerson_v p2 hP, hz, w_bd, bI_t, if_neg (by decide), s2, w_bd]; exact q2
        by_cases h0 : σ 10 p = 1
        · refine SimP_sc r v ?_ mda (sc_tr s3 q3) (sm_tr s4 q4)
          rw [Sf_foretoldStop, if_neg h1, if_neg h2, isDoing_v p1 hP, hz, cl_n (by omega), decide_eq_true h0, w_bd, if_neg (by decide), s1, w_bd]; exact q1
        · have hv : v = -1 := q5 (by rw [s5 p (by omega)]; exact h0)
          subst hv
          refine SimP_sc r (-1) ?_ mda (sc_rf σ) (sm_tr s4 q4)
          rw [Sf_foretoldStop, if_neg h1, if_neg h2, isDoing_v p1 hP, hz, cl_n (by omega), decide_eq_false h0, w_bd, Bool.and_false, bI_f, if_pos rfl]
