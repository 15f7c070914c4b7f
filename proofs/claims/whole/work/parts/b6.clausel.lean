/-! ===== a clause, a law ===== -/
theorem clause_l {b : Nat → Nat} {nb T : Nat} {σb τb σ τ : gx_R} {t q cn rn : Nat} (h : TI b nb T σb τb σ τ t q cn rn) (hq2 : q < 24) (hx : kd b nb t < 4) (h48 : σ 48 (kd b nb t) = -1) (hw : ∀ k, k < q → ¬ τ 126 k = nI (kd b nb t)) : CFail b nb T σb τb t τ (Re_clause σ) ∨ CNext b nb T σb τb t τ (Re_clause σ) := by
  obtain ⟨⟨ck, ca, hC⟩, ⟨ck', ca', hM⟩, ⟨hq, hq43, hq30⟩, ⟨hcr, hrt⟩, hRc, hRd, hCl, hLw⟩ := h
  have hT := hC.1.1
  have htT : t ≤ T := hC.2.1
  obtain ⟨σ1, τ1, a2, x1, eC, eM⟩ := name_l hC hM ⟨hq43, hq30⟩ hq2 hx h48 hw
  obtain ⟨σB, hσB⟩ : ∃ σB, σB = gx_up (gx_up (gx_up (gx_up σ 43 4 (nI (q + 1))) 44 q (nI (kd b nb t))) 39 9 (nI (kd b nb t))) 48 (kd b nb t) (nI cn) := ⟨_, rfl⟩
  obtain ⟨τB, hτB⟩ : ∃ τB, τB = gx_up (gx_up (gx_up τ 109 31 (nI (kd b nb t))) 126 q (nI (kd b nb t))) 127 q (nI rn) := ⟨_, rfl⟩
  rw [← hσB] at a2
  rw [← hτB] at x1
  have x1' : MR b nb rn τB τ1 (t + 1) [(1, 0)] [] 1 0 ck ca := ⟨x1.1, x1.2.1, x1.2.2.1, x1.2.2.2.1, x1.2.2.2.2.1, x1.2.2.2.2.2.1, x1.2.2.2.2.2.2.1, x1.2.2.2.2.2.2.2.1, x1.2.2.2.2.2.2.2.2.1, fun j hj => absurd hj (Nat.not_lt_zero j), x1.2.2.2.2.2.2.2.2.2.2⟩
  have tB : τB 109 30 = nI q ∧ τB 109 31 = nI (kd b nb t) := by
    rw [hτB]
    exact ⟨by rw [up_c _ _ _ _ (by omega), up_c _ _ _ _ (by omega), up_p _ _ _ (by omega)]; exact hq30, by rw [up_c _ _ _ _ (by omega), up_c _ _ _ _ (by omega), up_e]⟩
  have sB1 : ∀ c, c ≠ 39 → c ≠ 43 → c ≠ 44 → c ≠ 48 → σB c = σ c := fun c c0 c1 c2 c3 => by rw [hσB, gx_up_ne c3, gx_up_ne c0, gx_up_ne c2, gx_up_ne c1]
  have s9 : σB 39 9 = nI (kd b nb t) := by rw [hσB, up_c _ _ _ _ (by omega), up_e]
  have gB : RdG τb τB := RdG_t hRd (by
    rw [hτB]
    exact ⟨fun c c1 c2 => by rw [gx_up_ne (by omega), gx_up_ne (by omega), gx_up_ne c1], fun j hj => by rw [up_c _ _ _ _ (by omega), up_c _ _ _ _ (by omega), up_p _ _ _ (by omega)]⟩)
  have rB : RcT σb σB := by
    refine ⟨fun c c1 c2 => ?_, fun j j1 j2 j3 => ?_, fun j j1 j2 => ?_⟩
    · rw [sB1 c c1 (by omega) (by omega) (by omega)]; exact hRc.1 c c1 c2
    · rw [hσB, up_c _ _ _ _ (by omega), up_p _ _ _ j3, up_c _ _ _ _ (by omega), up_c _ _ _ _ (by omega)]; exact hRc.2.1 j j1 j2 j3
    · rw [hσB, up_c _ _ _ _ (by omega), up_c _ _ _ _ (by omega), up_c _ _ _ _ (by omega), up_p _ _ _ j1]; exact hRc.2.2 j j1 j2
  have go : ∀ f, Md_text_44 (f + 1) τ = Md_text_44 f τ1 := fun f => by rw [C_go hM (by omega), eM, w_bd]
  rcases law_v (T := T) (c0 := cn) hx s9 tB.2 a2 x1' ⟨hcr, by omega⟩ with ⟨ef, tf, kf, f1, f2, f3, f4, f6⟩ | ⟨σ', τ', t', k, N, K, A, e1, e2, e3, e3', e3'', e4, e5, e6⟩
  · refine Or.inl ⟨ef, tf, kf + 1, σB, by omega, f2, by omega, rB, by rw [eC]; exact f4, fun f => ?_⟩
    rw [show f + (kf + 1) = f + kf + 1 by omega, go]
    exact EndF_t gB (f6 f)
  refine Or.inr ⟨σ', τ', t', k + 1, q + 1, cn + (N + 1), rn + (N + 1), by rw [eC]; exact e1, fun f => by rw [show f + (k + 1) = f + k + 1 by omega, go, e2], by omega, by omega, ⟨ck, ca, CR_re e4 ck ca⟩, ⟨ck', ca', MR_re e5 ck' ca'⟩, ⟨by omega, ?_, ?_⟩, ⟨by omega, by omega⟩, RcT_E rB e4.2.2.2.2.2.2, ?_, fun k hk => ?_, fun l hl => ?_⟩
  · rw [e4.2.2.2.2.2.2.1.2.2 4 (by omega), hσB, up_c _ _ _ _ (by omega), up_c _ _ _ _ (by omega), up_c _ _ _ _ (by omega), up_e]
  · rw [e5.2.2.2.2.2.2.2.2.2.2.2.2 30 (by omega) (by omega) (by omega) (by omega) (by omega) (by omega), up_e, tB.1]; exact nI_add _ 1
  · refine RdG_t gB (RdG_t ?_ (RdF_G e5.2.2.2.2.2.2.2.2.2.2))
    exact ⟨fun c c1 c2 => by rw [gx_up_ne c1], fun j hj => by rw [up_p _ _ _ (by omega)]⟩
  all_goals
    have s4x : ∀ c, 44 ≤ c ∧ c ≤ 48 → σ' c = σB c := fun c hc => e4.2.2.2.2.2.2.1.1 c (by omega) (by omega) (by omega)
    have t1x : ∀ c, 126 ≤ c ∧ c ≤ 130 → τ' c = τB c := fun c hc => by rw [e5.2.2.2.2.2.2.2.2.2.2.1 c (by omega) (by omega) (by omega) (by omega), gx_up_ne (by omega)]
    have t126 : ∀ k, τ' 126 k = if k = q then nI (kd b nb t) else τ 126 k := fun k => by
      rw [t1x 126 (by omega), hτB, up_c _ _ _ _ (by omega)]
      by_cases c : k = q
      · rw [if_pos c, c, up_e]
      · rw [if_neg c, up_p _ _ _ c, up_c _ _ _ _ (by omega)]
  · unfold ClR
    have s44 : σ' 44 k = if k = q then nI (kd b nb t) else σ 44 k := by
      rw [s4x 44 (by omega), hσB, up_c _ _ _ _ (by omega), up_c _ _ _ _ (by omega)]
      by_cases c : k = q
      · rw [if_pos c, c, up_e]
      · rw [if_neg c, up_p _ _ _ c, up_c _ _ _ _ (by omega)]
    have tk : ∀ c, 128 ≤ c ∧ c ≤ 130 → τ' c = τ c := fun c hc => by rw [t1x c (by omega), hτB, gx_up_ne (by omega), gx_up_ne (by omega), gx_up_ne (by omega)]
    rw [s44, t126, s4x 45 (by omega), s4x 46 (by omega), s4x 47 (by omega), sB1 45 (by omega) (by omega) (by omega) (by omega), sB1 46 (by omega) (by omega) (by omega) (by omega), sB1 47 (by omega) (by omega) (by omega) (by omega), tk 128 (by omega), tk 129 (by omega), tk 130 (by omega)]
    by_cases c : k = q
    · rw [if_pos c, if_pos c]
      exact ⟨kd b nb t, by omega, rfl, rfl, fun z => by omega, fun z => by omega, fun z => by omega, fun z => by omega⟩
    · rw [if_neg c, if_neg c]; exact hCl k (by omega)
  · by_cases cl : l = kd b nb t
    · subst cl
      refine Or.inr ⟨cn, rn, q, by omega, by rw [t126, if_pos rfl], fun k' h1 h2 => ?_, by rw [s4x 48 (by omega), hσB, up_e], by rw [t1x 127 (by omega), hτB, up_e], e6⟩
      rw [t126] at h2
      by_cases c : k' = q
      · exact c
      · rw [if_neg c] at h2; exact absurd h2 (hw k' (by omega))
    · have nx : nI (kd b nb t) ≠ nI l := fun z => cl ((nI_eq (by omega) (by omega)).mp z).symm
      have s48 : σ' 48 l = σ 48 l := by rw [s4x 48 (by omega), hσB, up_p _ _ _ cl, up_c _ _ _ _ (by omega), up_c _ _ _ _ (by omega), up_c _ _ _ _ (by omega)]
      rcases hLw l hl with ⟨r1, r2⟩ | ⟨c0, r0, k, r1, r2, r3, r4, r5, r6⟩
      · refine Or.inl ⟨by rw [s48]; exact r1, fun k hk => ?_⟩
        rw [t126]
        by_cases c : k = q
        · rw [if_pos c]; exact nx
        · rw [if_neg c]; exact r2 k (by omega)
      · refine Or.inr ⟨c0, r0, k, by omega, by rw [t126, if_neg (by omega)]; exact r2, fun k' h1 h2 => ?_, by rw [s48]; exact r4, by rw [t1x 127 (by omega), hτB, up_p _ _ _ (by omega), up_c _ _ _ _ (by omega), up_c _ _ _ _ (by omega)]; exact r5, CodeZ_c r6 (fun i hi => ?_) (fun i hi => ?_) ⟨by omega, by have := e4.2.2.2.2.1.2; omega, by omega, by have := e4.2.1; omega⟩⟩
        · rw [t126] at h2
          by_cases c : k' = q
          · rw [if_pos c] at h2; exact absurd h2 nx
          · rw [if_neg c] at h2; exact r3 k' (by omega) h2
        · rw [e4.2.2.2.2.2.2.2.2 i hi, sB1 49 (by omega) (by omega) (by omega) (by omega)]
        · have := e5.2.2.2.2.2.2.2.2.2.2.2.1 i hi
          rw [this.1, this.2, up_c _ _ _ _ (by omega), up_c _ _ _ _ (by omega), hτB, up_c _ _ _ _ (by omega), up_c _ _ _ _ (by omega), up_c _ _ _ _ (by omega), up_c _ _ _ _ (by omega), up_c _ _ _ _ (by omega), up_c _ _ _ _ (by omega)]
          exact ⟨rfl, rfl⟩
