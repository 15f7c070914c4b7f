/-! ===== a text is played ===== -/
def SimT (Q : Int32 → Prop) (f g : gx_R → Option (Int32 × gx_R)) (σ τ : gx_R) : Prop := ∃ v σ' τ', (Q v ∧ σ' 1 4 = σ 1 4) ∧ f σ = some (v, σ') ∧ g τ = some (v, τ') ∧ Rel σ' τ' ∧ (∀ k, 109 ≤ k → σ' k = σ k) ∧ ∀ k, k < 109 → τ' k = τ k
theorem SimT_ro {Q : Int32 → Prop} {f g : gx_R → Option (Int32 × gx_R)} {σ τ : gx_R} (r : Rel σ τ) (v : Int32) (hq : Q v) (h1 : f σ = some (v, σ)) (h2 : g τ = some (v, τ)) : SimT Q f g σ τ := ⟨v, σ, τ, ⟨hq, rfl⟩, h1, h2, r, fun _ _ => rfl, fun _ _ => rfl⟩
theorem T_wake {σ τ : gx_R} (r : Rel σ τ) (a1 a2 : Int32) : SimT (fun v => z_bo v = true) (Sf_wake a1 a2) (Md_wake a1 a2) σ τ := by
  obtain ⟨P, W, H, K, T, P', W', H', K', T', rr⟩ := id r
  have r1 := rr.1
  have hP := r1.1.1.1
  have hW := r1.1.1.2
  have p1 : σ 2 0 = nI P := r1.1.2.1.1
  have p2 := r1.1.2.1.2.1
  have w1 : σ 2 1 = nI W := r1.1.2.1.2.2.1
  have w2 := r1.1.2.1.2.2.2
  cases hz : z_ix a1 P with
  | false =>
    refine SimT_ro r 0 bo_0 ?_ ?_
    · rw [Sf_wake, isDoing_v p1 hP, hz, Bool.false_and, w_bd, bI_f, if_pos rfl]
    · rw [Md_wake, isAt_v p2 hP, hz, Bool.false_and, w_bd, bI_f, if_pos rfl]
  | true =>
    obtain ⟨p, hp, rfl⟩ := ix_ex hz (by omega)
    have e := doing_eq r1 (show p < 8 by omega)
    by_cases h0 : σ 10 p = 0
    · cases hw : z_ix a2 W with
      | false =>
        refine SimT_ro r 0 bo_0 ?_ ?_
        · rw [Sf_wake, isDoing_v p1 hP, hz, cl_n (by omega), decide_eq_true h0, w_bd, if_neg (by decide), Fo_isWork_v w1 hW, hw, w_bd, bI_f, if_pos rfl]
        · rw [Md_wake, isAt_v p2 hP, hz, cl_n (by omega), e, decide_eq_true h0, w_bd, if_neg (by decide), Md_isWork_v w2 hW, hw, w_bd, bI_f, if_pos rfl]
      | true =>
        obtain ⟨w, hw2, rfl⟩ := ix_ex hw (by omega)
        obtain ⟨σ1, τ1, s1, s2, s3, s4, s5, s6⟩ := push_R r1
        obtain ⟨b1, b2, b3⟩ := begin_R (w := 1) (x := nI w) hp (Or.inr (Or.inl ⟨rfl, w, hw2, rfl⟩)) s3
        refine ⟨1, _, _, ⟨bo_1, ?_⟩, ?_, ?_, Rel_mk b3 (fun c h1 h2 => by rw [gx_up_ne (by omega), gx_up_ne (by omega), gx_up_ne (by omega), s4 c (by omega) (by omega)]) ⟨fun c h1 => by rw [gx_up_ne (by omega), gx_up_ne (by omega), gx_up_ne (by omega), s5 c (by omega)], fun j hj => by rw [gx_up_ne (by omega), gx_up_ne (by omega), gx_up_ne (by omega), s5 109 (by omega)]⟩ rr, fun c hc => by rw [gx_up_ne (by omega), gx_up_ne (by omega), gx_up_ne (by omega), s4 c (by omega) (by omega)], fun c hc => by rw [gx_up_ne (by omega), gx_up_ne (by omega), gx_up_ne (by omega), s5 c (by omega)]⟩
        · rw [gx_up_ne (show (1 : Nat) ≠ 12 by omega), gx_up_ne (show (1 : Nat) ≠ 11 by omega), gx_up_ne (show (1 : Nat) ≠ 10 by omega), s4 1 (by omega) (by omega)]
        · rw [Sf_wake, isDoing_v p1 hP, hz, cl_n (by omega), decide_eq_true h0, w_bd, if_neg (by decide), Fo_isWork_v w1 hW, hw, w_bd, bI_t, if_neg (by decide), s1, w_bd, b1, w_bd]
        · rw [Md_wake, isAt_v p2 hP, hz, cl_n (by omega), e, decide_eq_true h0, w_bd, if_neg (by decide), Md_isWork_v w2 hW, hw, w_bd, bI_t, if_neg (by decide), s2, w_bd, b2, w_bd]
    · refine SimT_ro r 0 bo_0 ?_ ?_
      · rw [Sf_wake, isDoing_v p1 hP, hz, cl_n (by omega), decide_eq_false h0, w_bd, Bool.and_false, bI_f, if_pos rfl]
      · rw [Md_wake, isAt_v p2 hP, hz, cl_n (by omega), e, decide_eq_false h0, w_bd, Bool.and_false, bI_f, if_pos rfl]
theorem T_sleep {σ τ : gx_R} (r : Rel σ τ) (a1 a2 : Int32) : SimT (fun v => z_bo v = true) (Sf_sleep a1 a2) (Md_sleep a1 a2) σ τ := by
  obtain ⟨P, W, H, K, T, P', W', H', K', T', rr⟩ := id r
  have r1 := rr.1
  have hP := r1.1.1.1
  have p1 : σ 2 0 = nI P := r1.1.2.1.1
  have p2 := r1.1.2.1.2.1
  cases hz : z_ix a1 P with
  | false =>
    refine SimT_ro r 0 bo_0 ?_ ?_
    · rw [Sf_sleep, isDoing_v p1 hP, hz, Bool.false_and, w_bd, bI_f, if_pos rfl]
    · rw [Md_sleep, isAt_v p2 hP, hz, Bool.false_and, w_bd, bI_f, if_pos rfl]
  | true =>
    obtain ⟨p, hp, rfl⟩ := ix_ex hz (by omega)
    have e := doing_eq r1 (show p < 8 by omega)
    by_cases h0 : σ 10 p = 0
    · cases hw : z_ix a2 P with
      | false =>
        refine SimT_ro r 0 bo_0 ?_ ?_
        · rw [Sf_sleep, isDoing_v p1 hP, hz, cl_n (by omega), decide_eq_true h0, w_bd, if_neg (by decide), areUnlike_v p1 hP, hw, w_bd, Bool.and_false, Bool.and_false, bI_f, if_pos rfl]
        · rw [Md_sleep, isAt_v p2 hP, hz, cl_n (by omega), e, decide_eq_true h0, w_bd, if_neg (by decide), Md_isPerson_v p2 hP, hw, w_bd, bI_f, if_pos rfl]
      | true =>
        obtain ⟨q, hq, rfl⟩ := ix_ex hw (by omega)
        obtain ⟨m1, m2⟩ := r1.1.2.2.2.1 p (by omega)
        have m1 : τ 110 (26 + p) = σ 5 p := m1
        have m2 : ∀ i, i < 32 → bt (σ 5 p) i = true → i < P ∧ i ≠ p ∧ p < P := m2
        have c1 : 26 + p < 8880 := by omega
        have mda : Md_sleep (nI p) (nI q) τ = (if bI (bt (σ 5 p) q) = 0 then some (0, τ) else z_bd (Md_keepsStep τ) (fun _ σ15 => z_bd (Md_beginsTo (nI p) 2 (nI q) σ15) (fun _ σ18 => some (1, σ18)))) := by
          rw [Md_sleep, isAt_v p2 hP, hz, cl_n (by omega), e, decide_eq_true h0, w_bd, if_neg (by decide), Md_isPerson_v p2 hP, hw, w_bd, bI_t, if_neg (by decide)]
          simp (disch := omega) only [z_c0, z_c1, nI_leI, nI_ltI, nI_eq, ix_n, cl_n, nI_add, pk_mul, nI_1, n_lt0, n_0le, n_le0, n_0lt, n_eq0, n_1le, n_le1, n_lt1, n_1lt, n_eq1, n_m1, n_m1a, L_2, L_3, L_4, L_5, L_6, L_7, L_8, L_9, L_10, L_11, L_12, L_14, L_15, L_16, L_17, L_18, L_20, L_21, L_24, L_26, L_30, L_32, L_34, L_35, L_36, L_37, L_38, L_39, L_40, L_41, L_42, L_43, L_44, L_45, L_46, L_47, L_48, L_57, L_59, L_60, L_61, L_62, L_64, L_65, L_68, L_76, L_80, L_84, L_90, L_92, L_96, L_97, L_98, L_99, L_100, L_104, L_122, L_139, L_140, L_162, L_163, L_164, L_200, L_241, L_255, L_256, L_280, L_284, L_300, L_301, L_303, L_309, L_360, L_400, L_401, L_402, L_403, L_404, L_405, L_406, L_407, L_408, L_999, L_1600, L_3120, L_8596, L_8880, L_9999, L_10000, L_30211, L_99999, L_1000000, c1, m1, Md_has_v, w_bd, w_ck, bI_0, bI_1, bI_bo, bo_0, bo_1, decide_true, decide_false, if_true, if_false, ite_true, ite_false, not_true_eq_false, not_false_eq_true, Bool.true_eq_false, Bool.false_eq_true]
        cases hb : bt (σ 5 p) q with
        | false =>
          refine SimT_ro r 0 bo_0 ?_ ?_
          · rw [Sf_sleep, isDoing_v p1 hP, hz, cl_n (by omega), decide_eq_true h0, w_bd, if_neg (by decide), areUnlike_v p1 hP, hw, hz, w_bd]
            by_cases e2 : nI p = nI q
            · rw [decide_eq_true e2, if_pos (by decide)]
            · rw [decide_eq_false e2, if_neg (by decide), ix_t (show p < 8 by omega) (by omega), w_ck]
              simp (disch := omega) only [h_0, hb, cl_n, if_true]
          · rw [mda, hb, bI_f, if_pos rfl]
        | true =>
          have hne : p ≠ q := fun z => (m2 q (by omega) hb).2.1 z.symm
          obtain ⟨σ1, τ1, s1, s2, s3, s4, s5, s6⟩ := push_R r1
          obtain ⟨b1, b2, b3⟩ := begin_R (w := 2) (x := nI q) hp (Or.inr (Or.inr ⟨rfl, q, hq, rfl⟩)) s3
          refine ⟨1, _, _, ⟨bo_1, ?_⟩, ?_, ?_, Rel_begin rr s4 s5 b3⟩
          · rw [gx_up_ne (show (1 : Nat) ≠ 12 by omega), gx_up_ne (show (1 : Nat) ≠ 11 by omega), gx_up_ne (show (1 : Nat) ≠ 10 by omega), s4 1 (by omega) (by omega)]
          · rw [Sf_sleep, isDoing_v p1 hP, hz, cl_n (by omega), decide_eq_true h0, w_bd, if_neg (by decide), areUnlike_v p1 hP, hw, hz, w_bd, decide_eq_false (fun z => hne ((nI_eq (by omega) (by omega)).mp z)), if_neg (by decide), ix_t (show p < 8 by omega) (by omega), w_ck]
            simp (disch := omega) only [h_0, hb, cl_n, Bool.true_eq_false, if_false]
            rw [s1, w_bd, b1, w_bd]
          · rw [mda, hb, bI_t, if_neg (by decide), s2, w_bd, b2, w_bd]
    · refine SimT_ro r 0 bo_0 ?_ ?_
      · rw [Sf_sleep, isDoing_v p1 hP, hz, cl_n (by omega), decide_eq_false h0, w_bd, Bool.and_false, bI_f, if_pos rfl]
      · rw [Md_sleep, isAt_v p2 hP, hz, cl_n (by omega), e, decide_eq_false h0, w_bd, Bool.and_false, bI_f, if_pos rfl]
theorem T_idle {σ τ : gx_R} (r : Rel σ τ) (a1 : Int32) : SimT (fun v => z_bo v = true) (Sf_idle a1) (Md_idle a1) σ τ := by
  obtain ⟨P, W, H, K, T, P', W', H', K', T', rr⟩ := id r
  have r1 := rr.1
  have hP := r1.1.1.1
  have p1 : σ 2 0 = nI P := r1.1.2.1.1
  have p2 := r1.1.2.1.2.1
  cases hz : z_ix a1 P with
  | false =>
    refine SimT_ro r 0 bo_0 ?_ ?_
    · rw [Sf_idle, Fo_isPerson_v p1 hP, hz, w_bd, bI_f, if_pos rfl]
    · rw [Md_idle, Md_isPerson_v p2 hP, hz, w_bd, bI_f, if_pos rfl]
  | true =>
    obtain ⟨p, hp, rfl⟩ := ix_ex hz (by omega)
    have e := doing_eq r1 (show p < 8 by omega)
    have c1 : 60 + p < 8880 := by omega
    by_cases h0 : σ 10 p = 0
    · refine SimT_ro r 0 bo_0 ?_ ?_
      · rw [Sf_idle, Fo_isPerson_v p1 hP, hz, w_bd, bI_t, if_neg (by decide), isDoing_v p1 hP, hz, cl_n (by omega), decide_eq_true h0, w_bd, if_neg (by decide)]
      · rw [Md_idle, Md_isPerson_v p2 hP, hz, w_bd, bI_t, if_neg (by decide)]
        simp (disch := omega) only [z_c0, z_c1, nI_leI, nI_ltI, nI_eq, ix_n, cl_n, nI_add, pk_mul, nI_1, n_lt0, n_0le, n_le0, n_0lt, n_eq0, n_1le, n_le1, n_lt1, n_1lt, n_eq1, n_m1, n_m1a, L_2, L_3, L_4, L_5, L_6, L_7, L_8, L_9, L_10, L_11, L_12, L_14, L_15, L_16, L_17, L_18, L_20, L_21, L_24, L_26, L_30, L_32, L_34, L_35, L_36, L_37, L_38, L_39, L_40, L_41, L_42, L_43, L_44, L_45, L_46, L_47, L_48, L_57, L_59, L_60, L_61, L_62, L_64, L_65, L_68, L_76, L_80, L_84, L_90, L_92, L_96, L_97, L_98, L_99, L_100, L_104, L_122, L_139, L_140, L_162, L_163, L_164, L_200, L_241, L_255, L_256, L_280, L_284, L_300, L_301, L_303, L_309, L_360, L_400, L_401, L_402, L_403, L_404, L_405, L_406, L_407, L_408, L_999, L_1600, L_3120, L_8596, L_8880, L_9999, L_10000, L_30211, L_99999, L_1000000, c1, e, h0, w_bd, w_ck, bI_0, bI_1, bI_bo, bo_0, bo_1, decide_true, decide_false, if_true, if_false, ite_true, ite_false, not_true_eq_false, not_false_eq_true, Bool.true_eq_false, Bool.false_eq_true]
    · obtain ⟨σ1, τ1, s1, s2, s3, s4, s5, s6⟩ := push_R r1
      obtain ⟨b1, b2, b3⟩ := begin_R (w := 0) (x := -1) hp (Or.inl ⟨rfl, rfl⟩) s3
      refine ⟨1, _, _, ⟨bo_1, ?_⟩, ?_, ?_, Rel_begin rr s4 s5 b3⟩
      · rw [gx_up_ne (show (1 : Nat) ≠ 12 by omega), gx_up_ne (show (1 : Nat) ≠ 11 by omega), gx_up_ne (show (1 : Nat) ≠ 10 by omega), s4 1 (by omega) (by omega)]
      · rw [Sf_idle, Fo_isPerson_v p1 hP, hz, w_bd, bI_t, if_neg (by decide), isDoing_v p1 hP, hz, cl_n (by omega), decide_eq_false h0, w_bd, if_pos (by decide), s1, w_bd, makeIdle_1 (by omega), w_bd]
      · rw [Md_idle, Md_isPerson_v p2 hP, hz, w_bd, bI_t, if_neg (by decide)]
        simp (disch := omega) only [z_c0, z_c1, nI_leI, nI_ltI, nI_eq, ix_n, cl_n, nI_add, pk_mul, nI_1, n_lt0, n_0le, n_le0, n_0lt, n_eq0, n_1le, n_le1, n_lt1, n_1lt, n_eq1, n_m1, n_m1a, L_2, L_3, L_4, L_5, L_6, L_7, L_8, L_9, L_10, L_11, L_12, L_14, L_15, L_16, L_17, L_18, L_20, L_21, L_24, L_26, L_30, L_32, L_34, L_35, L_36, L_37, L_38, L_39, L_40, L_41, L_42, L_43, L_44, L_45, L_46, L_47, L_48, L_57, L_59, L_60, L_61, L_62, L_64, L_65, L_68, L_76, L_80, L_84, L_90, L_92, L_96, L_97, L_98, L_99, L_100, L_104, L_122, L_139, L_140, L_162, L_163, L_164, L_200, L_241, L_255, L_256, L_280, L_284, L_300, L_301, L_303, L_309, L_360, L_400, L_401, L_402, L_403, L_404, L_405, L_406, L_407, L_408, L_999, L_1600, L_3120, L_8596, L_8880, L_9999, L_10000, L_30211, L_99999, L_1000000, c1, e, h0, s2, b2, w_bd, w_ck, bI_0, bI_1, bI_bo, bo_0, bo_1, decide_true, decide_false, if_true, if_false, ite_true, ite_false, not_true_eq_false, not_false_eq_true, Bool.true_eq_false, Bool.false_eq_true]
theorem T_repay {σ τ : gx_R} (r : Rel σ τ) (a1 a2 a3 : Int32) : SimT (fun _ => True) (Sf_repay a1 a2 a3) (Md_repay a1 a2 a3) σ τ := by
  obtain ⟨P, W, H, K, T, P', W', H', K', T', rr⟩ := id r
  have r1 := rr.1
  have hP := r1.1.1.1
  have p1 : σ 2 0 = nI P := r1.1.2.1.1
  have p2 := r1.1.2.1.2.1
  cases hz : z_ix a1 P with
  | false =>
    refine SimT_ro r (-1) trivial ?_ ?_
    · rw [Sf_repay, areUnlike_v p1 hP, hz, w_bd, Bool.false_and, Bool.and_false, bI_f, if_pos rfl]
    · rw [Md_repay, Md_isPerson_v p2 hP, hz, w_bd, bI_f, if_pos rfl]
  | true =>
    cases hw : z_ix a2 P with
    | false =>
      refine SimT_ro r (-1) trivial ?_ ?_
      · rw [Sf_repay, areUnlike_v p1 hP, hw, w_bd, Bool.and_false, Bool.and_false, bI_f, if_pos rfl]
      · rw [Md_repay, Md_isPerson_v p2 hP, hz, w_bd, bI_t, if_neg (by decide), Md_isPerson_v p2 hP, hw, w_bd, bI_f, if_pos rfl]
    | true =>
      obtain ⟨p, hp, rfl⟩ := ix_ex hz (by omega)
      obtain ⟨q, hq, rfl⟩ := ix_ex hw (by omega)
      by_cases e : p = q
      · refine SimT_ro r (-1) trivial ?_ ?_
        · rw [Sf_repay, areUnlike_v p1 hP, decide_eq_true (show nI p = nI q by rw [e]), w_bd, if_pos (by rw [Bool.not_true, Bool.false_and, bI_f])]
        · rw [Md_repay, Md_isPerson_v p2 hP, hz, w_bd, bI_t, if_neg (by decide), Md_isPerson_v p2 hP, hw, w_bd, bI_t, if_neg (by decide), if_pos (show nI p = nI q by rw [e])]
      · have en : ¬ nI p = nI q := fun z => e ((nI_eq (by omega) (by omega)).mp z)
        have c1 : 8 * p + q < 64 := by omega
        have c2 : 98 + 8 * p + q < 8880 := by omega
        obtain ⟨o, ho, ho2, -⟩ := r1.2.1.2.2.2.2.2.2.2.2.2.1 p q (by omega) (by omega)
        rw [nu_e σ _ c1] at ho2
        have ho2 : σ 14 (8 * p + q) = nI o := ho2
        have ho3 : τ 110 (98 + 8 * p + q) = nI o := by rw [← ho2, ← owes_eq r1 c1]; exact congrArg (τ 110) (by omega)
        have mda : Md_repay (nI p) (nI q) a3 τ = if bI (decide (¬ a3 < 1 ∧ ¬ nI o < a3)) = 0 then some (-1, τ) else z_bd (Md_keepsStep τ) (fun _ σ16 => some (σ16 110 (98 + 8 * p + q) - a3, gx_up σ16 110 (98 + 8 * p + q) (σ16 110 (98 + 8 * p + q) - a3))) := by
          rw [Md_repay, Md_isPerson_v p2 hP, hz, w_bd, bI_t, if_neg (by decide), Md_isPerson_v p2 hP, hw, w_bd, bI_t, if_neg (by decide), if_neg en]
          simp (disch := omega) only [z_c0, z_c1, nI_leI, nI_ltI, nI_eq, ix_n, cl_n, nI_add, pk_mul, nI_1, n_lt0, n_0le, n_le0, n_0lt, n_eq0, n_1le, n_le1, n_lt1, n_1lt, n_eq1, n_m1, n_m1a, L_2, L_3, L_4, L_5, L_6, L_7, L_8, L_9, L_10, L_11, L_12, L_14, L_15, L_16, L_17, L_18, L_20, L_21, L_24, L_26, L_30, L_32, L_34, L_35, L_36, L_37, L_38, L_39, L_40, L_41, L_42, L_43, L_44, L_45, L_46, L_47, L_48, L_57, L_59, L_60, L_61, L_62, L_64, L_65, L_68, L_76, L_80, L_84, L_90, L_92, L_96, L_97, L_98, L_99, L_100, L_104, L_122, L_139, L_140, L_162, L_163, L_164, L_200, L_241, L_255, L_256, L_280, L_284, L_300, L_301, L_303, L_309, L_360, L_400, L_401, L_402, L_403, L_404, L_405, L_406, L_407, L_408, L_999, L_1600, L_3120, L_8596, L_8880, L_9999, L_10000, L_30211, L_99999, L_1000000, c2, ho3, w_bd, w_ck, bI_0, bI_1, bI_bo, bo_0, bo_1, decide_true, decide_false, if_true, if_false, ite_true, ite_false, not_true_eq_false, not_false_eq_true, Bool.true_eq_false, Bool.false_eq_true]
          rw [Md_in_v, w_bd]
          simp (disch := omega) only [z_c0, z_c1, nI_leI, nI_ltI, nI_eq, ix_n, cl_n, nI_add, pk_mul, nI_1, n_lt0, n_0le, n_le0, n_0lt, n_eq0, n_1le, n_le1, n_lt1, n_1lt, n_eq1, n_m1, n_m1a, L_2, L_3, L_4, L_5, L_6, L_7, L_8, L_9, L_10, L_11, L_12, L_14, L_15, L_16, L_17, L_18, L_20, L_21, L_24, L_26, L_30, L_32, L_34, L_35, L_36, L_37, L_38, L_39, L_40, L_41, L_42, L_43, L_44, L_45, L_46, L_47, L_48, L_57, L_59, L_60, L_61, L_62, L_64, L_65, L_68, L_76, L_80, L_84, L_90, L_92, L_96, L_97, L_98, L_99, L_100, L_104, L_122, L_139, L_140, L_162, L_163, L_164, L_200, L_241, L_255, L_256, L_280, L_284, L_300, L_301, L_303, L_309, L_360, L_400, L_401, L_402, L_403, L_404, L_405, L_406, L_407, L_408, L_999, L_1600, L_3120, L_8596, L_8880, L_9999, L_10000, L_30211, L_99999, L_1000000, up_e, c2, w_bd, w_ck, bI_0, bI_1, bI_bo, bo_0, bo_1, decide_true, decide_false, if_true, if_false, ite_true, ite_false, not_true_eq_false, not_false_eq_true, Bool.true_eq_false, Bool.false_eq_true]
        have cla : Sf_repay (nI p) (nI q) a3 σ = if a3 < 1 then some (-1, σ) else if a3 ≤ nI o then z_bd (St_push σ) (fun _ σ9 => some (σ9 14 (8 * p + q) - a3, gx_up σ9 14 (8 * p + q) (σ9 14 (8 * p + q) - a3))) else some (-1, σ) := by
          rw [Sf_repay, areUnlike_v p1 hP, hz, hw, w_bd, decide_eq_false en, if_neg (by decide)]
          simp (disch := omega) only [z_c0, z_c1, nI_leI, nI_ltI, nI_eq, ix_n, cl_n, nI_add, pk_mul, nI_1, n_lt0, n_0le, n_le0, n_0lt, n_eq0, n_1le, n_le1, n_lt1, n_1lt, n_eq1, n_m1, n_m1a, L_2, L_3, L_4, L_5, L_6, L_7, L_8, L_9, L_10, L_11, L_12, L_14, L_15, L_16, L_17, L_18, L_20, L_21, L_24, L_26, L_30, L_32, L_34, L_35, L_36, L_37, L_38, L_39, L_40, L_41, L_42, L_43, L_44, L_45, L_46, L_47, L_48, L_57, L_59, L_60, L_61, L_62, L_64, L_65, L_68, L_76, L_80, L_84, L_90, L_92, L_96, L_97, L_98, L_99, L_100, L_104, L_122, L_139, L_140, L_162, L_163, L_164, L_200, L_241, L_255, L_256, L_280, L_284, L_300, L_301, L_303, L_309, L_360, L_400, L_401, L_402, L_403, L_404, L_405, L_406, L_407, L_408, L_999, L_1600, L_3120, L_8596, L_8880, L_9999, L_10000, L_30211, L_99999, L_1000000, show p * 8 + q = 8 * p + q by omega, c1, ho2, up_e, w_bd, w_ck, bI_0, bI_1, bI_bo, bo_0, bo_1, decide_true, decide_false, if_true, if_false, ite_true, ite_false, not_true_eq_false, not_false_eq_true, Bool.true_eq_false, Bool.false_eq_true]
        by_cases h1 : a3 < 1
        · refine SimT_ro r (-1) trivial (by rw [cla, if_pos h1]) (by rw [mda, decide_eq_false (fun z => z.1 h1), bI_f, if_pos rfl])
        · by_cases h2 : a3 ≤ nI o
          · obtain ⟨k, hk, rfl⟩ := nI_of (x := a3) (fun z => h1 (by grind))
            have hko : k ≤ o := (nI_leI hk (by omega)).mp h2
            obtain ⟨σ1, τ1, s1, s2, s3, s4, s5, s6⟩ := push_R r1
            have g1 : σ1 14 (8 * p + q) = nI o := by rw [s4 14 (by omega) (by omega)]; exact ho2
            have g2 : τ1 110 (98 + 8 * p + q) = nI o := by rw [s6 _ (by omega) (by omega)]; exact ho3
            have g3 : nI o - nI k = nI (o - k) := pk_sub hko
            have hs : ∀ i, i < 104 → (fun i => gx_up τ1 110 (98 + 8 * p + q) (nI (o - k)) 110 (60 + i)) i = if i = 38 + (8 * p + q) then nI (o - k) else (fun i => τ1 110 (60 + i)) i := by
              intro i hi
              show gx_up τ1 110 (98 + 8 * p + q) (nI (o - k)) 110 (60 + i) = if i = 38 + (8 * p + q) then nI (o - k) else τ1 110 (60 + i)
              simp only [up_row]
              by_cases z : i = 38 + (8 * p + q)
              · rw [if_pos z, if_pos (by omega)]
              · rw [if_neg z, if_neg (by omega)]
            have hn := NightR_owes hP hp hq (show o - k ≤ 99 by omega) (fun z => absurd z e) s3.2.1 (nuC_owes (σ := σ1) (x := nI (o - k)) c1) hs
            have V : ValleyR (gx_up σ1 14 (8 * p + q) (nI (o - k))) 1 (gx_up τ1 110 (98 + 8 * p + q) (nI (o - k)) 110) P W H (min K 29 + 1) T := Valley_night (fun c y1 y2 y3 => gx_up_ne (by omega)) (fun j hj => up_p _ _ _ (by omega)) hn s3
            refine ⟨nI (o - k), _, _, ⟨trivial, by rw [gx_up_ne (show (1 : Nat) ≠ 14 by omega), s4 1 (by omega) (by omega)]⟩, ?_, ?_, Rel_mk V (fun c y1 y2 => by rw [gx_up_ne (by omega), s4 c (by omega) (by omega)]) ⟨fun c y1 => by rw [gx_up_ne (by omega), s5 c (by omega)], fun j hj => by rw [gx_up_ne (by omega), s5 109 (by omega)]⟩ rr, fun c hc => by rw [gx_up_ne (by omega), s4 c (by omega) (by omega)], fun c hc => by rw [gx_up_ne (by omega), s5 c (by omega)]⟩
            · rw [cla, if_neg h1, if_pos h2, s1, w_bd, g1, g3]
            · rw [mda, decide_eq_true ⟨h1, fun z => absurd h2 (Int32.not_le.mpr z)⟩, bI_t, if_neg (by decide), s2, w_bd, g2, g3]
          · refine SimT_ro r (-1) trivial (by rw [cla, if_neg h1, if_neg h2]) (by rw [mda, decide_eq_false (fun z => z.2 (Int32.not_le.mp h2)), bI_f, if_pos rfl])
theorem T_call {σ τ : gx_R} (r : Rel σ τ) (a1 : Int32) : SimT (fun _ => True) (Sf_call a1) (Md_call a1) σ τ := by
  obtain ⟨P, W, H, K, T, P', W', H', K', T', rr⟩ := id r
  have r1 := rr.1
  have hP := r1.1.1.1
  have hT : T ≤ 4 := r1.2.2.2.2.2.2.1.2.2
  have p1 : σ 2 0 = nI P := r1.1.2.1.1
  have p2 := r1.1.2.1.2.1
  cases hz : z_ix a1 P with
  | false =>
    refine SimT_ro r (-1) trivial ?_ ?_
    · rw [Sf_call, isDoing_v p1 hP, hz, Bool.false_and, w_bd, bI_f, if_pos rfl]
    · rw [Md_call, isAt_v p2 hP, hz, Bool.false_and, w_bd, bI_f, if_pos rfl]
  | true =>
    obtain ⟨p, hp, rfl⟩ := ix_ex hz (by omega)
    have e := doing_eq r1 (show p < 8 by omega)
    by_cases h0 : σ 10 p = 2
    · obtain ⟨σ1, τ1, s1, s2, s3, s4, s5, s6⟩ := push_R r1
      have ht1 : ∀ t, t < T → TextR σ1 τ1 t := fun t h => TextR_fr (fun k z1 z2 => s4 k (by omega) (by omega)) (fun k z1 z2 => s5 k (by omega)) (by omega) (rr.2.2.2.2.2 t h)
      obtain ⟨x, σ2, σ3, τ3, hx, w1, w2, w3, w4, w5, w6, w7⟩ := calls_v s3 ht1 hp
      have kC : keepC σ σ3 := fun c z1 z2 => by rw [w5 c z1 z2, s4 c (by omega) (by omega)]
      have kM : keepM τ τ3 := ⟨fun c z => by rw [w6.1 c z, s5 c (by omega)], fun j hj => by rw [w6.2 j hj, s5 109 (by omega)]⟩
      refine ⟨nI (pcN 8 x), σ3, τ3, ⟨trivial, by rw [w7 1 (by omega) (by omega), s4 1 (by omega) (by omega)]⟩, ?_, ?_, Rel_mk w4 kC kM rr, fun c hc => kC c (by omega) (by omega), fun c hc => kM.1 c (by omega)⟩
      · rw [Sf_call, isDoing_v p1 hP, hz, cl_n (by omega), decide_eq_true h0, w_bd, if_neg (by decide), s1, w_bd, w1, w_bd, w2, w_bd, bitCount_v hx, w_bd]
      · rw [Md_call, isAt_v p2 hP, hz, cl_n (by omega), e, decide_eq_true h0, w_bd, if_neg (by decide), s2, w_bd, w3, w_bd]
    · refine SimT_ro r (-1) trivial ?_ ?_
      · rw [Sf_call, isDoing_v p1 hP, hz, cl_n (by omega), decide_eq_false h0, w_bd, Bool.and_false, bI_f, if_pos rfl]
      · rw [Md_call, isAt_v p2 hP, hz, cl_n (by omega), e, decide_eq_false h0, w_bd, Bool.and_false, bI_f, if_pos rfl]
theorem pass_1 {σ τ : gx_R} {P W H K T : Nat} (r : ValleyR σ 1 (τ 110) P W H K T) (ht : ∀ t, t < T → TextR σ τ t) (hH : H ≤ 998) : ∃ v σ' τ', v ≤ 8 ∧ (∀ n A j a, j < A → A ≤ 60 → Sf_passHours_8 (n + 1) (nI A) 1 a (nI j) σ = Sf_passHours_8 n (nI A) 1 (a + nI v) (nI (j + 1)) σ') ∧ Md_hour 1 τ = some (nI v, τ') ∧ ValleyR σ' 1 (τ' 110) P W (H + 1) (min K 29 + 1) T ∧ keepC σ σ' ∧ keepM τ τ' := by
  have c1 : σ 9 6 = nI H := r.2.1.2.2.2.2.2.1.2.2
  have c2 : τ 110 162 = nI H := by rw [← c1]; exact r.2.1.2.2.2.2.2.1.1
  have hT : T ≤ 4 := r.2.2.2.2.2.2.1.2.2
  obtain ⟨σ1, τ1, s1, s2, s3, s4, s5, s6⟩ := push_R r
  have ht1 : ∀ t, t < T → TextR σ1 τ1 t := fun t h => TextR_fr (fun k z1 z2 => s4 k (by omega) (by omega)) (fun k z1 z2 => s5 k (by omega)) (by omega) (ht t h)
  obtain ⟨v, σ2, τ2, hv, u1, u2, u3, u4, u5, u6⟩ := hour_v s3 ht1 (by omega)
  refine ⟨v, σ2, τ2, hv, fun n A j a hj hA => ?_, ?_, u3, fun c z1 z2 => by rw [u4 c z1 z2, s4 c (by omega) (by omega)], fun c z => by rw [u5.1 c z, s5 c (by omega)], fun i hi => by rw [u5.2 i hi, s5 109 (by omega)]⟩
  · have d1 : ¬ nI A ≤ nI j := by rw [nI_leI (by omega) (by omega)]; omega
    have d2 : ¬ nI H < 0 := nI_pos (by omega)
    have d3 : ¬ (999 : Int32) ≤ nI H := fun z => by have := (nI_leI (a := 999) (by omega) (by omega)).mp z; omega
    rw [Sf_passHours_8, Sf_passHours_8_B, if_neg d1, c1, if_neg d2, if_neg d3, if_neg (by decide), s1, w_bd, u1, nI_1]
  · obtain ⟨N, hN⟩ : ∃ N, z_FU = N + 2 := ⟨z_FU - 2, by have := z_FU_ge; omega⟩
    have d3 : nI (H + 1) ≤ (999 : Int32) := (nI_leI (b := 999) (by omega) (by omega)).mpr (by omega)
    rw [Md_hour, Md_in_v, w_bd, decide_eq_true (by decide), bI_t, if_neg (by decide), show (162 : Int32).toNatClampNeg = 162 from rfl, c2, nI_1, if_pos d3, hN, Md_hour_19, Md_hour_19_B, if_neg (by decide), s2, w_bd, u2, w_bd, Md_hour_19, Md_hour_19_B, if_pos (by decide), Int32.zero_add]
theorem hours2_L {P W T A : Nat} (hA : A ≤ 60) : ∀ m j n n' σ τ H K a, j + m = A → m < n → m < n' → ValleyR σ 1 (τ 110) P W H K T → (∀ t, t < T → TextR σ τ t) → ∃ v σ' τ' H' K', Sf_passHours_8 n (nI A) 1 a (nI j) σ = some (v, σ') ∧ Md_hours_2 n' (nI A) (nI j) τ = some (bI (decide (H' = H + m)), τ') ∧ ValleyR σ' 1 (τ' 110) P W H' K' T ∧ keepC σ σ' ∧ keepM τ τ' ∧ H ≤ H' ∧ H' ≤ H + m := by
  intro m
  induction m with
  | zero =>
    intro j n n' σ τ H K a hj hn hn' r ht
    obtain ⟨n, rfl⟩ : ∃ q, n = q + 1 := ⟨n - 1, by omega⟩
    obtain ⟨n', rfl⟩ : ∃ q, n' = q + 1 := ⟨n' - 1, by omega⟩
    have e : j = A := by omega
    subst e
    refine ⟨a, σ, τ, H, K, ?_, ?_, r, fun _ _ _ => rfl, ⟨fun _ _ => rfl, fun _ _ => rfl⟩, Nat.le_refl _, Nat.le_refl _⟩
    · rw [Sf_passHours_8, Sf_passHours_8_B, if_pos Int32.le_rfl]
    · rw [Md_hours_2, Md_hours_2_B, if_pos Int32.le_rfl, decide_eq_true (by omega), bI_t]
  | succ m ih =>
    intro j n n' σ τ H K a hj hn hn' r ht
    obtain ⟨n, rfl⟩ : ∃ q, n = q + 1 := ⟨n - 1, by omega⟩
    obtain ⟨n', rfl⟩ : ∃ q, n' = q + 1 := ⟨n' - 1, by omega⟩
    have hT : T ≤ 4 := r.2.2.2.2.2.2.1.2.2
    have hH : H ≤ 999 := r.2.2.1
    have d1 : ¬ nI A ≤ nI j := by rw [nI_leI (by omega) (by omega)]; omega
    by_cases h9 : H ≤ 998
    · obtain ⟨v, σ1, τ1, hv, u1, u2, u3, u4, u5⟩ := pass_1 r ht h9
      obtain ⟨v', σ', τ', H', K', w1, w2, w3, w4, w5, w6, w7⟩ := ih (j + 1) n n' σ1 τ1 (H + 1) (min K 29 + 1) (a + nI v) (by omega) (by omega) (by omega) u3 (Texts_k hT u4 u5 ht)
      have e1 : ¬ nI v = -1 := fun z => by
        have : (0 : Int32) ≤ nI v := by rw [← nI_0, nI_leI (by omega) (by omega)]; omega
        rw [z] at this
        exact absurd this (by decide)
      refine ⟨v', σ', τ', H', K', ?_, ?_, w3, keepC_tr u4 w4, keepM_tr u5 w5, by omega, by omega⟩
      · rw [u1 n A j a (by omega) hA]; exact w1
      · rw [Md_hours_2, Md_hours_2_B, if_neg d1, u2, w_bd, if_neg e1, nI_1, w2, show H + 1 + m = H + (m + 1) by omega]
    · have e9 : H = 999 := by omega
      subst e9
      have c1 : σ 9 6 = nI 999 := r.2.1.2.2.2.2.2.1.2.2
      have c2 : τ 110 162 = nI 999 := by rw [← c1]; exact r.2.1.2.2.2.2.2.1.1
      refine ⟨a, σ, τ, 999, K, ?_, ?_, r, fun _ _ _ => rfl, ⟨fun _ _ => rfl, fun _ _ => rfl⟩, Nat.le_refl _, by omega⟩
      · rw [Sf_passHours_8, Sf_passHours_8_B, if_neg d1, c1, if_neg (by decide), if_pos (by decide)]
      · have e : Md_hour 1 τ = some (-1, τ) := by
          rw [Md_hour, Md_in_v, w_bd, decide_eq_true (by decide), bI_t, if_neg (by decide), show (162 : Int32).toNatClampNeg = 162 from rfl, c2, if_neg (by decide)]
        rw [Md_hours_2, Md_hours_2_B, if_neg d1, e, w_bd, if_pos rfl, decide_eq_false (by omega), bI_f]
theorem T_hours {σ τ : gx_R} (r : Rel σ τ) {A : Nat} (hA : A ≤ 60) : SimT (fun _ => True) (fun s => z_bd (Sf_passHours (nI A) 1 s) (fun _ s2 => if s2 9 6 = s 9 6 + nI A then some (1, s2) else some (0, s2))) (Md_hours (nI A)) σ τ := by
  obtain ⟨P, W, H, K, T, P', W', H', K', T', rr⟩ := id r
  have r1 := rr.1
  have hH : H ≤ 999 := r1.2.2.1
  have c1 : σ 9 6 = nI H := r1.2.1.2.2.2.2.2.1.2.2
  obtain ⟨v, σ', τ', H2, K2, w1, w2, w3, w4, w5, w6, w7⟩ := hours2_L (A := A) hA A 0 z_FU z_FU σ τ H K 0 (by omega) (Nat.lt_of_le_of_lt hA (Nat.lt_of_lt_of_le (by decide) z_FU_ge)) (Nat.lt_of_le_of_lt hA (Nat.lt_of_lt_of_le (by decide) z_FU_ge)) r1 rr.2.2.2.2.2
  have c2 : σ' 9 6 = nI H2 := w3.2.1.2.2.2.2.2.1.2.2
  have q1 : σ' 1 4 = nI T := w3.2.2.2.2.2.2.1.1
  have q2 : σ 1 4 = nI T := r1.2.2.2.2.2.2.1.1
  refine ⟨bI (decide (H2 = H + A)), σ', τ', ⟨trivial, by rw [q1, q2]⟩, ?_, w2, Rel_mk w3 w4 w5 rr, fun c hc => w4 c (by omega) (by omega), fun c hc => w5.1 c (by omega)⟩
  show z_bd (Sf_passHours (nI A) 1 σ) _ = _
  rw [show Sf_passHours (nI A) 1 σ = some (v, σ') from w1, w_bd, c1, c2, nI_add]
  by_cases e : H2 = H + A
  · rw [if_pos (by rw [e]), decide_eq_true e]; rfl
  · rw [if_neg (fun z => e ((nI_eq (by omega) (by omega)).mp z)), decide_eq_false e]; rfl
