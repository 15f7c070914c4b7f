/-! ===== one more person ===== -/
theorem NightR_person {ν s s' nd : gx_F} {P W H : Nat} (hP : P < 8) (h1 : ∀ i, i < 104 → s' i = if i = 8 + P then -1 else s i) (r : NightR ν s nd P W H) : NightR ν s' nd (P + 1) W H := by
  obtain ⟨r1, r2, r3, r4, r5, ⟨r6, r7, r8⟩, r9, r10, r11, r12, r13⟩ := r
  refine ⟨fun i hi => ?_, fun i hi => ?_, fun i hi hi2 => r3 i (by omega) hi2, fun i hi => ?_, fun i hi => ?_, ⟨?_, ?_, r8⟩, r9, fun i hi => ?_, fun i hi => ?_, fun i j hi hj => ?_, r13⟩
  · rw [h1 i (by omega), h1 (16 + i) (by omega), h1 (24 + i) (by omega), if_neg (by omega), if_neg (by omega), if_neg (by omega)]; exact r1 i hi
  · rw [h1 (8 + i) (by omega)]
    by_cases e : i = P
    · subst e; rw [if_pos rfl]; exact (r3 i (Nat.le_refl _) hP).2.1.symm
    · rw [if_neg (by omega)]; exact r2 i (by omega)
  · rw [h1 (38 + i) (by omega), if_neg (by omega)]; exact r4 i hi
  · rw [h1 (32 + i) (by omega), if_neg (by omega)]; exact r5 i hi
  · rw [h1 102 (by omega), if_neg (by omega)]; exact r6
  · rw [h1 103 (by omega), if_neg (by omega)]; exact r7
  · by_cases e : i = P
    · subst e; exact Or.inl ⟨(r3 i (Nat.le_refl _) hP).1, (r3 i (Nat.le_refl _) hP).2.1⟩
    · rcases r10 i (by omega) with q | q | ⟨q, x, hx, q2⟩
      · exact Or.inl q
      · exact Or.inr (Or.inl q)
      · exact Or.inr (Or.inr ⟨q, x, by omega, q2⟩)
  · by_cases e : i = P
    · subst e; exact ⟨0, 0, by omega, by omega, (r3 i (Nat.le_refl _) hP).2.2.1, (r3 i (Nat.le_refl _) hP).2.2.2⟩
    · exact r11 i (by omega)
  · obtain ⟨o, q1, q2, q3⟩ := r12 i j hi hj
    exact ⟨o, q1, q2, fun z => q3 (by omega)⟩
theorem person_L {P K : Nat} (hP : P < 8) (hK : K ≤ 30) : ∀ k n τ, K ≤ k + n → n ≤ 30 → ∀ f, n < f → k ≤ K → τ 110 4 = nI K → τ 110 0 = nI P → ∃ τ', Md_person_43 f (nI P) (nI k) τ = some (nI P, τ') ∧ (∀ c, c ≠ 110 → τ' c = τ c) ∧ τ' 110 0 = nI (P + 1) ∧ (∀ i, k ≤ i → i < K → τ' 110 (368 + 284 * i + P) = -1) ∧ ∀ j, j ≠ 0 → (∀ i, k ≤ i → i < K → j ≠ 368 + 284 * i + P) → τ' 110 j = τ 110 j := by
  intro k n
  induction n generalizing k with
  | zero =>
    intro τ h1 h2 f hf hk h4 h0
    obtain ⟨f, rfl⟩ : ∃ q, f = q + 1 := ⟨f - 1, by omega⟩
    have e : k = K := by omega
    subst e
    refine ⟨gx_up τ 110 0 (nI (P + 1)), ?_, fun c hc => gx_up_ne hc, up_e _ _ _ _, fun i y1 y2 => absurd y2 (by omega), fun j y1 y2 => up_p _ _ _ y1⟩
    simp (disch := omega) only [Md_person_43, Md_person_43_B, Md_person_66, z_c0, z_c1, nI_leI, nI_ltI, nI_eq, ix_n, cl_n, nI_add, pk_mul, nI_1, n_lt0, n_0le, n_le0, n_0lt, n_eq0, n_1le, n_le1, n_lt1, n_1lt, n_eq1, n_m1, n_m1a, L_2, L_3, L_4, L_5, L_6, L_7, L_8, L_9, L_10, L_11, L_12, L_14, L_15, L_16, L_17, L_18, L_20, L_21, L_24, L_26, L_30, L_32, L_34, L_35, L_36, L_37, L_38, L_39, L_40, L_41, L_42, L_43, L_44, L_45, L_46, L_47, L_48, L_57, L_59, L_60, L_61, L_62, L_64, L_65, L_68, L_76, L_80, L_84, L_90, L_92, L_96, L_97, L_98, L_99, L_100, L_104, L_122, L_139, L_140, L_162, L_163, L_164, L_200, L_241, L_255, L_256, L_280, L_284, L_300, L_301, L_303, L_309, L_360, L_400, L_401, L_402, L_403, L_404, L_405, L_406, L_407, L_408, L_999, L_1600, L_3120, L_8596, L_8880, L_9999, L_10000, L_30211, L_99999, L_1000000, h4, h0, Nat.le_refl, w_bd, w_ck, bI_0, bI_1, bI_bo, bo_0, bo_1, decide_true, decide_false, if_true, if_false, ite_true, ite_false, not_true_eq_false, not_false_eq_true, Bool.true_eq_false, Bool.false_eq_true]
  | succ n ih =>
    intro τ h1 h2 f hf hk h4 h0
    obtain ⟨f, rfl⟩ : ∃ q, f = q + 1 := ⟨f - 1, by omega⟩
    by_cases e : k = K
    · subst e
      refine ⟨gx_up τ 110 0 (nI (P + 1)), ?_, fun c hc => gx_up_ne hc, up_e _ _ _ _, fun i y1 y2 => absurd y2 (by omega), fun j y1 y2 => up_p _ _ _ y1⟩
      simp (disch := omega) only [Md_person_43, Md_person_43_B, Md_person_66, z_c0, z_c1, nI_leI, nI_ltI, nI_eq, ix_n, cl_n, nI_add, pk_mul, nI_1, n_lt0, n_0le, n_le0, n_0lt, n_eq0, n_1le, n_le1, n_lt1, n_1lt, n_eq1, n_m1, n_m1a, L_2, L_3, L_4, L_5, L_6, L_7, L_8, L_9, L_10, L_11, L_12, L_14, L_15, L_16, L_17, L_18, L_20, L_21, L_24, L_26, L_30, L_32, L_34, L_35, L_36, L_37, L_38, L_39, L_40, L_41, L_42, L_43, L_44, L_45, L_46, L_47, L_48, L_57, L_59, L_60, L_61, L_62, L_64, L_65, L_68, L_76, L_80, L_84, L_90, L_92, L_96, L_97, L_98, L_99, L_100, L_104, L_122, L_139, L_140, L_162, L_163, L_164, L_200, L_241, L_255, L_256, L_280, L_284, L_300, L_301, L_303, L_309, L_360, L_400, L_401, L_402, L_403, L_404, L_405, L_406, L_407, L_408, L_999, L_1600, L_3120, L_8596, L_8880, L_9999, L_10000, L_30211, L_99999, L_1000000, h4, h0, Nat.le_refl, w_bd, w_ck, bI_0, bI_1, bI_bo, bo_0, bo_1, decide_true, decide_false, if_true, if_false, ite_true, ite_false, not_true_eq_false, not_false_eq_true, Bool.true_eq_false, Bool.false_eq_true]
    · have c1 : 368 + 284 * k + P < 8880 := by omega
      obtain ⟨τ', q1, q2, q3, q4, q5⟩ := ih (k + 1) (gx_up τ 110 (368 + 284 * k + P) (-1)) (by omega) (by omega) f (by omega) (by omega) (by rw [up_p _ _ _ (by omega)]; exact h4) (by rw [up_p _ _ _ (by omega)]; exact h0)
      refine ⟨τ', ?_, fun c hc => by rw [q2 c hc, gx_up_ne hc], q3, fun i y1 y2 => ?_, fun j y1 y2 => ?_⟩
      · have c2 : ¬ K ≤ k := by omega
        have c3 : nI (360 + 284 * k + 68) - nI 60 = nI (368 + 284 * k) := by rw [pk_sub (by omega)]; congr 1; omega
        simp (disch := omega) only [Md_person_43, Md_person_43_B, z_c0, z_c1, nI_leI, nI_ltI, nI_eq, ix_n, cl_n, nI_add, pk_mul, nI_1, n_lt0, n_0le, n_le0, n_0lt, n_eq0, n_1le, n_le1, n_lt1, n_1lt, n_eq1, n_m1, n_m1a, L_2, L_3, L_4, L_5, L_6, L_7, L_8, L_9, L_10, L_11, L_12, L_14, L_15, L_16, L_17, L_18, L_20, L_21, L_24, L_26, L_30, L_32, L_34, L_35, L_36, L_37, L_38, L_39, L_40, L_41, L_42, L_43, L_44, L_45, L_46, L_47, L_48, L_57, L_59, L_60, L_61, L_62, L_64, L_65, L_68, L_76, L_80, L_84, L_90, L_92, L_96, L_97, L_98, L_99, L_100, L_104, L_122, L_139, L_140, L_162, L_163, L_164, L_200, L_241, L_255, L_256, L_280, L_284, L_300, L_301, L_303, L_309, L_360, L_400, L_401, L_402, L_403, L_404, L_405, L_406, L_407, L_408, L_999, L_1600, L_3120, L_8596, L_8880, L_9999, L_10000, L_30211, L_99999, L_1000000, h4, c1, c2, c3, w_bd, w_ck, bI_0, bI_1, bI_bo, bo_0, bo_1, decide_true, decide_false, if_true, if_false, ite_true, ite_false, not_true_eq_false, not_false_eq_true, Bool.true_eq_false, Bool.false_eq_true]
        exact q1
      · by_cases e2 : i = k
        · subst e2; rw [q5 _ (by omega) (fun i' z1 z2 => by omega), up_e]
        · exact q4 i (by omega) y2
      · rw [q5 j y1 (fun i z1 z2 => y2 i (by omega) z2), up_p _ _ _ (y2 k (Nat.le_refl _) (by omega))]
theorem S_person {σ τ : gx_R} (r : Rel σ τ) (a1 a2 : Int32) : SimP (Sf_person a1 a2) (Md_person a1 a2) σ τ := by
  obtain ⟨P, W, H, K, T, P', W', H', K', T', rr⟩ := id r
  have r1 := rr.1
  have hP := r1.1.1.1
  have p1 : σ 2 0 = nI P := r1.1.2.1.1
  have p2 := r1.1.2.1.2.1
  have hK : K ≤ 30 := by obtain ⟨O, -, q⟩ := r1.2.2.2.2.1; exact q.1
  have k2 : τ 110 4 = nI K := r1.2.2.2.2.2.1.2
  by_cases hc : ¬ a1 < 0 ∧ ¬ (9 : Int32) < a1 ∧ ¬ a2 < 0 ∧ ¬ (9 : Int32) < a2
  · obtain ⟨h1, h2, h3, h4⟩ := hc
    have mda : Md_person a1 a2 τ = if τ 110 0 = nI 8 then some (-1, τ) else z_ck (z_ix (nI 10 + τ 110 0) 8880) (z_ck (z_ix (nI 18 + τ 110 0) 8880) (z_ck (z_ix (nI 68 + τ 110 0) 8880) (Md_person_43 z_FU (τ 110 0) 0 (gx_up (gx_up (gx_up τ 110 (nI 10 + τ 110 0).toNatClampNeg a1) 110 (nI 18 + τ 110 0).toNatClampNeg a2) 110 (nI 68 + τ 110 0).toNatClampNeg (-1))))) := by
      rw [Md_person, Md_in_v, w_bd, decide_eq_true ⟨h1, h2⟩, bI_t, if_neg (by decide), Md_in_v, w_bd, decide_eq_true ⟨h3, h4⟩, bI_t, if_neg (by decide)]
      rfl
    have cla : Sf_person a1 a2 σ = Sf_person_17 a1 a2 1 σ := by rw [Sf_person_v, if_pos ⟨h1, h2, h3, h4⟩]
    by_cases e8 : P = 8
    · subst e8
      refine SimP_ro r (-1) ?_ ?_
      · rw [cla, Sf_person_17, if_neg (by decide), p1, if_neg (by decide)]
      · rw [mda, p2, if_pos rfl]
    · have c1 : P < 8 := by omega
      have c2 : 10 + P < 8880 := by omega
      have c3 : 18 + P < 8880 := by omega
      have c4 : 68 + P < 8880 := by omega
      obtain ⟨x, hx, hx2, rfl⟩ := in_nat (l := 0) (u := 9) (by omega) (by omega) h1 h2
      obtain ⟨y, hy, hy2, rfl⟩ := in_nat (l := 0) (u := 9) (by omega) (by omega) h3 h4
      have e1 : nI (P + 1) - 1 = nI P := by rw [show (1 : Int32) = nI 1 from rfl, pk_sub (by omega), Nat.add_sub_cancel]
      have cla2 : Sf_person (nI x) (nI y) σ = some (nI P, gx_up (gx_up (gx_up σ 3 P (nI x)) 4 P (nI y)) 2 0 (nI (P + 1))) := by
        rw [cla, Sf_person_17, if_neg (by decide)]
        simp (disch := omega) only [z_c0, z_c1, nI_leI, nI_ltI, nI_eq, ix_n, cl_n, nI_add, pk_mul, nI_1, n_lt0, n_0le, n_le0, n_0lt, n_eq0, n_1le, n_le1, n_lt1, n_1lt, n_eq1, n_m1, n_m1a, L_2, L_3, L_4, L_5, L_6, L_7, L_8, L_9, L_10, L_11, L_12, L_14, L_15, L_16, L_17, L_18, L_20, L_21, L_24, L_26, L_30, L_32, L_34, L_35, L_36, L_37, L_38, L_39, L_40, L_41, L_42, L_43, L_44, L_45, L_46, L_47, L_48, L_57, L_59, L_60, L_61, L_62, L_64, L_65, L_68, L_76, L_80, L_84, L_90, L_92, L_96, L_97, L_98, L_99, L_100, L_104, L_122, L_139, L_140, L_162, L_163, L_164, L_200, L_241, L_255, L_256, L_280, L_284, L_300, L_301, L_303, L_309, L_360, L_400, L_401, L_402, L_403, L_404, L_405, L_406, L_407, L_408, L_999, L_1600, L_3120, L_8596, L_8880, L_9999, L_10000, L_30211, L_99999, L_1000000, up_c, up_e, p1, c1, e1, w_bd, w_ck, bI_0, bI_1, bI_bo, bo_0, bo_1, decide_true, decide_false, if_true, if_false, ite_true, ite_false, not_true_eq_false, not_false_eq_true, Bool.true_eq_false, Bool.false_eq_true]
      obtain ⟨τ', q1, q2, q3, q4, q5⟩ := person_L c1 hK 0 30 (gx_up (gx_up (gx_up τ 110 (10 + P) (nI x)) 110 (18 + P) (nI y)) 110 (68 + P) (-1)) (by omega) (by omega) z_FU (Nat.lt_of_lt_of_le (by decide) z_FU_ge) (by omega) (by rw [up_p _ _ _ (by omega), up_p _ _ _ (by omega), up_p _ _ _ (by omega)]; exact k2) (by rw [up_p _ _ _ (by omega), up_p _ _ _ (by omega), up_p _ _ _ (by omega)]; exact p2)
      have mda2 : Md_person (nI x) (nI y) τ = some (nI P, τ') := by
        rw [mda, p2, show (0 : Int32) = nI 0 from rfl]
        simp (disch := omega) only [ix_n, cl_n, nI_add, nI_eq, c2, c3, c4, show (P = 8) = False from eq_false e8, w_bd, w_ck, bI_0, bI_1, bI_bo, bo_0, bo_1, decide_true, decide_false, if_true, if_false, ite_true, ite_false, not_true_eq_false, not_false_eq_true, Bool.true_eq_false, Bool.false_eq_true]
        exact q1
      have g1 : ∀ j, j ≠ 0 → j ≠ 10 + P → j ≠ 18 + P → j ≠ 68 + P → (∀ i, i < K → j ≠ 368 + 284 * i + P) → τ' 110 j = τ 110 j := by
        intro j z0 z1 z2 z3 z4
        rw [q5 j z0 (fun i w1 w2 => z4 i w2), up_p _ _ _ z3, up_p _ _ _ z2, up_p _ _ _ z1]
      refine ⟨nI P, _, τ', cla2, mda2, ?_, fun c hc => by rw [gx_up_ne (by omega), gx_up_ne (by omega), gx_up_ne (by omega)], fun c hc => by rw [q2 c (by omega), gx_up_ne (by omega), gx_up_ne (by omega), gx_up_ne (by omega)]⟩
      have V : ValleyR (gx_up (gx_up (gx_up σ 3 P (nI x)) 4 P (nI y)) 2 0 (nI (P + 1))) 1 (τ' 110) (P + 1) W H K T := by
        refine Valley_folk ?_ (fun c y1 y2 y3 => by rw [gx_up_ne (by omega), gx_up_ne (by omega), gx_up_ne (by omega)]) (fun o ν h ho hn => ?_) (fun o i ho y1 y2 => g1 _ (by omega) (by omega) (by omega) (by omega) (fun k hk => by rcases ho with rfl | ⟨k2, hk2, rfl⟩ <;> omega)) ⟨g1 _ (by omega) (by omega) (by omega) (by omega) (fun k hk => by omega), g1 _ (by omega) (by omega) (by omega) (by omega) (fun k hk => by omega), g1 _ (by omega) (by omega) (by omega) (by omega) (fun k hk => by omega)⟩ r1
        · obtain ⟨⟨-, hW⟩, ⟨t1, t2, t3, t4⟩, t5, t6, t7, t8⟩ := r1.1
          refine ⟨⟨by omega, hW⟩, ⟨up_e _ _ _ _, q3, ?_, ?_⟩, fun p hp => ?_, fun p hp => ?_, fun p hp => ?_, fun w hw => ?_⟩
          · rw [up_p _ _ _ (by omega), up_c _ _ _ _ (by omega), up_c _ _ _ _ (by omega)]; exact t3
          · rw [g1 1 (by omega) (by omega) (by omega) (by omega) (fun k hk => by omega)]; exact t4
          · by_cases ew : p = P
            · subst ew
              refine ⟨x, y, hx2, hy2, ?_, ?_, ?_, ?_⟩
              · rw [up_c _ _ _ _ (by omega), up_c _ _ _ _ (by omega), up_e]
              · rw [q5 _ (by omega) (fun k w1 w2 => by omega), up_p _ _ _ (by omega), up_p _ _ _ (by omega), up_e]
              · rw [up_c _ _ _ _ (by omega), up_e]
              · rw [q5 _ (by omega) (fun k w1 w2 => by omega), up_p _ _ _ (by omega), up_e]
            · obtain ⟨x', y', s1, s2, s3, s4, s5, s6⟩ := t5 p (by omega)
              refine ⟨x', y', s1, s2, ?_, ?_, ?_, ?_⟩
              · rw [up_c _ _ _ _ (by omega), up_c _ _ _ _ (by omega), up_p _ _ _ (by omega)]; exact s3
              · rw [g1 _ (by omega) (by omega) (by omega) (by omega) (fun k hk => by omega)]; exact s4
              · rw [up_c _ _ _ _ (by omega), up_p _ _ _ (by omega), up_c _ _ _ _ (by omega)]; exact s5
              · rw [g1 _ (by omega) (by omega) (by omega) (by omega) (fun k hk => by omega)]; exact s6
          · rw [g1 _ (by omega) (by omega) (by omega) (by omega) (fun k hk => by omega), gx_up_ne (by omega), gx_up_ne (by omega), gx_up_ne (by omega)]
            refine ⟨(t6 p hp).1, fun i hi hb => ?_⟩
            obtain ⟨z1, z2, z3⟩ := (t6 p hp).2 i hi hb
            exact ⟨by omega, z2, by omega⟩
          · rw [g1 _ (by omega) (by omega) (by omega) (by omega) (fun k hk => by omega), gx_up_ne (by omega), gx_up_ne (by omega), gx_up_ne (by omega)]
            refine ⟨(t7 p hp).1, fun i hi hb => ?_⟩
            obtain ⟨z1, z2, z3⟩ := (t7 p hp).2 i hi hb
            exact ⟨by omega, z2, by omega⟩
          · rw [g1 (42 + w) (by omega) (by omega) (by omega) (by omega) (fun k hk => by omega), g1 (48 + w) (by omega) (by omega) (by omega) (by omega) (fun k hk => by omega), up_c _ _ _ _ (by omega), up_c _ _ _ _ (by omega), up_c _ _ _ _ (by omega), up_c _ _ _ _ (by omega), up_c _ _ _ _ (by omega), up_c _ _ _ _ (by omega)]
            exact t8 w hw
        · rw [gx_up_ne (by omega), gx_up_ne (by omega), gx_up_ne (by omega)]
          refine NightR_person c1 (fun i hi => ?_) hn
          rcases ho with rfl | ⟨k, hk, rfl⟩
          · by_cases e : i = 8 + P
            · rw [if_pos e, q5 _ (by omega) (fun k w1 w2 => by omega), show 60 + i = 68 + P by omega, up_e]
            · rw [if_neg e, g1 _ (by omega) (by omega) (by omega) (by omega) (fun k hk => by omega)]
          · by_cases e : i = 8 + P
            · rw [if_pos e, show 360 + 284 * k + i = 368 + 284 * k + P by omega]; exact q4 k (by omega) hk
            · rw [if_neg e, g1 _ (by omega) (by omega) (by omega) (by omega) (fun k2 hk2 => by omega)]
      exact Rel_mk V (fun c y1 y2 => by rw [gx_up_ne (by omega), gx_up_ne (by omega), gx_up_ne (by omega)]) ⟨fun c y1 => by rw [q2 c (by omega), gx_up_ne (by omega), gx_up_ne (by omega), gx_up_ne (by omega)], fun j hj => by rw [q2 109 (by omega), gx_up_ne (by omega), gx_up_ne (by omega), gx_up_ne (by omega)]⟩ rr
  · refine SimP_ro r (-1) ?_ ?_
    · rw [Sf_person_v, if_neg hc]
    · rw [Md_person, Md_in_v, w_bd]
      by_cases h1 : ¬ a1 < 0 ∧ ¬ (9 : Int32) < a1
      · rw [decide_eq_true h1, bI_t, if_neg (by decide), Md_in_v, w_bd, decide_eq_false (fun z => hc ⟨h1.1, h1.2, z.1, z.2⟩), bI_f, if_pos rfl]
      · rw [decide_eq_false h1, bI_f, if_pos rfl]
