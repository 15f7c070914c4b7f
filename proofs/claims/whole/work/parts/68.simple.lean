/-! ===== sleep, idle, repay ===== -/
theorem areUnlike_v {σ : gx_R} {P : Nat} (h : σ 2 0 = nI P) (hP : P ≤ 8) (a b : Int32) : Fo_areUnlike a b σ = some (bI (!decide (a = b) && (z_ix a P && z_ix b P)), σ) := by
  unfold Fo_areUnlike
  by_cases e : a = b
  · rw [if_pos e, decide_eq_true e]; rfl
  · rw [if_neg e, decide_eq_false e, Fo_isPerson_v h hP, w_bd]
    cases hz : z_ix a P with
    | false => rfl
    | true =>
      rw [bI_t, if_neg (by decide), Fo_isPerson_v h hP, w_bd]
      cases hz2 : z_ix b P <;> rfl
/-- a step and then a beginning: the same cells in both -/
theorem Rel_begin {σ τ σ1 τ1 : gx_R} {P W H K T P' W' H' K' T' K2 p : Nat} {w x : Int32} (rr : ValleyR σ 1 (τ 110) P W H K T ∧ ValleyR σ 19 (τ 111) P' W' H' K' T' ∧ T' ≤ T ∧ TapeR (σ 0 4) (τ 109 3) (σ 38) (τ 112) ∧ (τ 109 4 = σ 39 11 ∧ τ 109 5 = σ 39 12) ∧ ∀ t, t < T → TextR σ τ t) (s4 : ∀ c, c ≠ 16 → c ≠ 17 → σ1 c = σ c) (s5 : ∀ c, c ≠ 110 → τ1 c = τ c) (b3 : ValleyR (gx_up (gx_up (gx_up σ1 10 p w) 11 p x) 12 p 0) 1 (gx_up (gx_up (gx_up τ1 110 (60 + p) w) 110 (68 + p) x) 110 (76 + p) 0 110) P W H K2 T) : Rel (gx_up (gx_up (gx_up σ1 10 p w) 11 p x) 12 p 0) (gx_up (gx_up (gx_up τ1 110 (60 + p) w) 110 (68 + p) x) 110 (76 + p) 0) ∧ (∀ k, 109 ≤ k → gx_up (gx_up (gx_up σ1 10 p w) 11 p x) 12 p 0 k = σ k) ∧ ∀ k, k < 109 → gx_up (gx_up (gx_up τ1 110 (60 + p) w) 110 (68 + p) x) 110 (76 + p) 0 k = τ k :=
  ⟨Rel_mk b3 (fun c h1 h2 => by rw [gx_up_ne (by omega), gx_up_ne (by omega), gx_up_ne (by omega), s4 c (by omega) (by omega)]) ⟨fun c h1 => by rw [gx_up_ne (by omega), gx_up_ne (by omega), gx_up_ne (by omega), s5 c (by omega)], fun j hj => by rw [gx_up_ne (by omega), gx_up_ne (by omega), gx_up_ne (by omega), s5 109 (by omega)]⟩ rr, fun c hc => by rw [gx_up_ne (by omega), gx_up_ne (by omega), gx_up_ne (by omega), s4 c (by omega) (by omega)], fun c hc => by rw [gx_up_ne (by omega), gx_up_ne (by omega), gx_up_ne (by omega), s5 c (by omega)]⟩
theorem S_sleep {σ τ : gx_R} (r : Rel σ τ) (a1 a2 : Int32) : SimP (Sf_sleep a1 a2) (Md_sleep a1 a2) σ τ := by
  obtain ⟨P, W, H, K, T, P', W', H', K', T', rr⟩ := id r
  have r1 := rr.1
  have hP := r1.1.1.1
  have p1 : σ 2 0 = nI P := r1.1.2.1.1
  have p2 := r1.1.2.1.2.1
  cases hz : z_ix a1 P with
  | false =>
    refine SimP_ro r 0 ?_ ?_
    · rw [Sf_sleep, isDoing_v p1 hP, hz, Bool.false_and, w_bd, bI_f, if_pos rfl]
    · rw [Md_sleep, isAt_v p2 hP, hz, Bool.false_and, w_bd, bI_f, if_pos rfl]
  | true =>
    obtain ⟨p, hp, rfl⟩ := ix_ex hz (by omega)
    have e := doing_eq r1 (show p < 8 by omega)
    by_cases h0 : σ 10 p = 0
    · cases hw : z_ix a2 P with
      | false =>
        refine SimP_ro r 0 ?_ ?_
        · rw [Sf_sleep, isDoing_v p1 hP, hz, cl_n (by omega), decide_eq_true h0, w_bd, if_neg (by decide), areUnlike_v p1 hP, hw, w_bd, Bool.and_false, Bool.and_false, bI_f, if_pos rfl]
        · rw [Md_sleep, isAt_v p2 hP, hz, cl_n (by omega), e, decide_eq_true h0, w_bd, if_neg (by decide), Md_isPerson_v p2 hP, hw, w_bd, bI_f, if_pos rfl]
      | true =>
        obtain ⟨q, hq, rfl⟩ := ix_ex hw (by omega)
        obtain ⟨m1, m2⟩ := r1.1.2.2.2.1 p (by omega)
        have m1 : τ 110 (26 + p) = σ 5 p := m1
        have m2 : ∀ i, i < 32 → bt (σ 5 p) i = true → i < P ∧ i ≠ p ∧ p < P := m2
        have c1 : 26 + p < 8880 := by omega
        have mda : Md_sleep (nI p) (nI q) τ = (if bI (bt (σ 5 p) q) = 0 then some (0, τ) else z_bd (Md_keepsStep τ) (fun _ σ15 => z_bd (Md_beginsTo (nI p) 2 (nI q) σ15) (fun _ σ18 => some (1, σ18)))) := by
          rw [Md_sleep, isAt_v p2 hP, hz, cl_n (by omega), e, decide_eq_true h0, w_bd, if_neg (by decide), Md_isPerson_v p2 hP, hw, w_bd, bI_t, if_neg (by decide)]
          simp (disch := omega) only [z_c0, z_c1, nI_leI, nI_ltI, nI_eq, ix_n, cl_n, nI_add, pk_mul, nI_1, n_lt0, n_0le, n_le0, n_0lt, n_eq0, n_1le, n_le1, n_lt1, n_1lt, n_eq1, n_m1, n_m1a, L_2, L_3, L_4, L_5, L_6, L_7, L_8, L_9, L_10, L_11, L_12, L_14, L_15, L_16, L_17, L_18, L_20, L_21, L_24, L_26, L_30, L_32, L_34, L_35, L_36, L_37, L_38, L_39, L_40, L_41, L_42, L_43, L_44, L_45, L_46, L_47, L_48, L_57, L_59, L_60, L_61, L_62, L_64, L_65, L_68, L_76, L_80, L_84, L_90, L_92, L_96, L_97, L_98, L_99, L_100, L_104, L_122, L_139, L_140, L_162, L_163, L_164, L_200, L_241, L_255, L_256, L_280, L_284, L_300, L_301, L_303, L_309, L_360, L_400, L_401, L_402, L_403, L_404, L_405, L_406, L_407, L_408, L_999, L_1600, L_3120, L_8596, L_8880, L_9999, L_10000, L_30211, L_99999, L_1000000, c1, m1, Md_has_v, w_bd, w_ck, bI_0, bI_1, bI_bo, bo_0, bo_1, decide_true, decide_false, if_true, if_false, ite_true, ite_false, not_true_eq_false, not_false_eq_true, Bool.true_eq_false, Bool.false_eq_true]
        cases hb : bt (σ 5 p) q with
        | false =>
          refine SimP_ro r 0 ?_ ?_
          · rw [Sf_sleep, isDoing_v p1 hP, hz, cl_n (by omega), decide_eq_true h0, w_bd, if_neg (by decide), areUnlike_v p1 hP, hw, hz, w_bd]
            by_cases e2 : nI p = nI q
            · rw [decide_eq_true e2, if_pos (by decide)]
            · rw [decide_eq_false e2, if_neg (by decide), ix_t (show p < 8 by omega) (by omega), w_ck]
              simp (disch := omega) only [h_0, hb, cl_n, if_true]
          · rw [mda, hb, bI_f, if_pos rfl]
        | true =>
          have hne : p ≠ q := fun z => (m2 q (by omega) hb).2.1 z.symm
          obtain ⟨σ1, τ1, s1, s2, s3, s4, s5, s6⟩ := push_R r1
          obtain ⟨b1, b2, b3⟩ := begin_R (w := 2) (x := nI q) hp (Or.inr (Or.inr ⟨rfl, q, hq, rfl⟩)) s3
          refine ⟨1, _, _, ?_, ?_, Rel_begin rr s4 s5 b3⟩
          · rw [Sf_sleep, isDoing_v p1 hP, hz, cl_n (by omega), decide_eq_true h0, w_bd, if_neg (by decide), areUnlike_v p1 hP, hw, hz, w_bd, decide_eq_false (fun z => hne ((nI_eq (by omega) (by omega)).mp z)), if_neg (by decide), ix_t (show p < 8 by omega) (by omega), w_ck]
            simp (disch := omega) only [h_0, hb, cl_n, Bool.true_eq_false, if_false]
            rw [s1, w_bd, b1, w_bd]
          · rw [mda, hb, bI_t, if_neg (by decide), s2, w_bd, b2, w_bd]
    · refine SimP_ro r 0 ?_ ?_
      · rw [Sf_sleep, isDoing_v p1 hP, hz, cl_n (by omega), decide_eq_false h0, w_bd, Bool.and_false, bI_f, if_pos rfl]
      · rw [Md_sleep, isAt_v p2 hP, hz, cl_n (by omega), e, decide_eq_false h0, w_bd, Bool.and_false, bI_f, if_pos rfl]
theorem makeIdle_1 {p : Nat} (hp : p < 8) (σ : gx_R) : Ni_makeIdle 9 ((1 : Int32) <<< (nI p &&& 31)) σ = some ((), gx_up (gx_up (gx_up σ 10 p 0) 11 p (-1)) 12 p 0) := by
  obtain ⟨σ', q1, q2, q3, q4, q5⟩ := makeIdle_L 9 ((1 : Int32) <<< (nI p &&& 31)) 8 0 z_FU σ (by omega) (Nat.lt_of_lt_of_le (by decide) z_FU_ge)
  have e : σ' = gx_up (gx_up (gx_up σ 10 p 0) 11 p (-1)) 12 p 0 := by
    funext c j
    have hc : (0 ≤ j ∧ j < 8 ∧ bt ((1 : Int32) <<< (nI p &&& 31)) j = true) ↔ j = p := by
      constructor
      · rintro ⟨-, h1, h2⟩
        rw [b_bit (by omega) (by omega)] at h2
        exact of_decide_eq_true h2
      · rintro rfl
        exact ⟨by omega, hp, by rw [b_bit (by omega) (by omega), decide_eq_true rfl]⟩
    by_cases c1 : c = 10
    · subst c1
      rw [gx_up_ne (by omega), gx_up_ne (by omega), up_row, q3 j]
      simp only [hc]
    · by_cases c2 : c = 11
      · subst c2
        rw [gx_up_ne (by omega), up_row, gx_up_ne (by omega), q4 j]
        simp only [hc]
      · by_cases c3 : c = 12
        · subst c3
          rw [up_row, gx_up_ne (by omega), gx_up_ne (by omega), q5 j]
          simp only [hc]
        · rw [gx_up_ne c3, gx_up_ne c2, gx_up_ne c1, q2 c c1 c2 c3]
  rw [← e]; exact q1
theorem S_idle {σ τ : gx_R} (r : Rel σ τ) (a1 : Int32) : SimP (Sf_idle a1) (Md_idle a1) σ τ := by
  obtain ⟨P, W, H, K, T, P', W', H', K', T', rr⟩ := id r
  have r1 := rr.1
  have hP := r1.1.1.1
  have p1 : σ 2 0 = nI P := r1.1.2.1.1
  have p2 := r1.1.2.1.2.1
  cases hz : z_ix a1 P with
  | false =>
    refine SimP_ro r 0 ?_ ?_
    · rw [Sf_idle, Fo_isPerson_v p1 hP, hz, w_bd, bI_f, if_pos rfl]
    · rw [Md_idle, Md_isPerson_v p2 hP, hz, w_bd, bI_f, if_pos rfl]
  | true =>
    obtain ⟨p, hp, rfl⟩ := ix_ex hz (by omega)
    have e := doing_eq r1 (show p < 8 by omega)
    have c1 : 60 + p < 8880 := by omega
    by_cases h0 : σ 10 p = 0
    · refine SimP_ro r 0 ?_ ?_
      · rw [Sf_idle, Fo_isPerson_v p1 hP, hz, w_bd, bI_t, if_neg (by decide), isDoing_v p1 hP, hz, cl_n (by omega), decide_eq_true h0, w_bd, if_neg (by decide)]
      · rw [Md_idle, Md_isPerson_v p2 hP, hz, w_bd, bI_t, if_neg (by decide)]
        simp (disch := omega) only [z_c0, z_c1, nI_leI, nI_ltI, nI_eq, ix_n, cl_n, nI_add, pk_mul, nI_1, n_lt0, n_0le, n_le0, n_0lt, n_eq0, n_1le, n_le1, n_lt1, n_1lt, n_eq1, n_m1, n_m1a, L_2, L_3, L_4, L_5, L_6, L_7, L_8, L_9, L_10, L_11, L_12, L_14, L_15, L_16, L_17, L_18, L_20, L_21, L_24, L_26, L_30, L_32, L_34, L_35, L_36, L_37, L_38, L_39, L_40, L_41, L_42, L_43, L_44, L_45, L_46, L_47, L_48, L_57, L_59, L_60, L_61, L_62, L_64, L_65, L_68, L_76, L_80, L_84, L_90, L_92, L_96, L_97, L_98, L_99, L_100, L_104, L_122, L_139, L_140, L_162, L_163, L_164, L_200, L_241, L_255, L_256, L_280, L_284, L_300, L_301, L_303, L_309, L_360, L_400, L_401, L_402, L_403, L_404, L_405, L_406, L_407, L_408, L_999, L_1600, L_3120, L_8596, L_8880, L_9999, L_10000, L_30211, L_99999, L_1000000, c1, e, h0, w_bd, w_ck, bI_0, bI_1, bI_bo, bo_0, bo_1, decide_true, decide_false, if_true, if_false, ite_true, ite_false, not_true_eq_false, not_false_eq_true, Bool.true_eq_false, Bool.false_eq_true]
    · obtain ⟨σ1, τ1, s1, s2, s3, s4, s5, s6⟩ := push_R r1
      obtain ⟨b1, b2, b3⟩ := begin_R (w := 0) (x := -1) hp (Or.inl ⟨rfl, rfl⟩) s3
      refine ⟨1, _, _, ?_, ?_, Rel_begin rr s4 s5 b3⟩
      · rw [Sf_idle, Fo_isPerson_v p1 hP, hz, w_bd, bI_t, if_neg (by decide), isDoing_v p1 hP, hz, cl_n (by omega), decide_eq_false h0, w_bd, if_pos (by decide), s1, w_bd, makeIdle_1 (by omega), w_bd]
      · rw [Md_idle, Md_isPerson_v p2 hP, hz, w_bd, bI_t, if_neg (by decide)]
        simp (disch := omega) only [z_c0, z_c1, nI_leI, nI_ltI, nI_eq, ix_n, cl_n, nI_add, pk_mul, nI_1, n_lt0, n_0le, n_le0, n_0lt, n_eq0, n_1le, n_le1, n_lt1, n_1lt, n_eq1, n_m1, n_m1a, L_2, L_3, L_4, L_5, L_6, L_7, L_8, L_9, L_10, L_11, L_12, L_14, L_15, L_16, L_17, L_18, L_20, L_21, L_24, L_26, L_30, L_32, L_34, L_35, L_36, L_37, L_38, L_39, L_40, L_41, L_42, L_43, L_44, L_45, L_46, L_47, L_48, L_57, L_59, L_60, L_61, L_62, L_64, L_65, L_68, L_76, L_80, L_84, L_90, L_92, L_96, L_97, L_98, L_99, L_100, L_104, L_122, L_139, L_140, L_162, L_163, L_164, L_200, L_241, L_255, L_256, L_280, L_284, L_300, L_301, L_303, L_309, L_360, L_400, L_401, L_402, L_403, L_404, L_405, L_406, L_407, L_408, L_999, L_1600, L_3120, L_8596, L_8880, L_9999, L_10000, L_30211, L_99999, L_1000000, c1, e, h0, s2, b2, w_bd, w_ck, bI_0, bI_1, bI_bo, bo_0, bo_1, decide_true, decide_false, if_true, if_false, ite_true, ite_false, not_true_eq_false, not_false_eq_true, Bool.true_eq_false, Bool.false_eq_true]
/-- one nap less -/
theorem NightR_owes {ν s nd ν' s' : gx_F} {P W H p q o : Nat} (hP : P ≤ 8) (hp : p < P) (hq : q < P) (ho : o ≤ 99) (hz : p = q → o = 0) (r : NightR ν s nd P W H) (h1 : ∀ i, i < 104 → ν' i = if i = 32 + (8 * p + q) then nI o else ν i) (h2 : ∀ i, i < 104 → s' i = if i = 38 + (8 * p + q) then nI o else s i) : NightR ν' s' nd P W H := by
  obtain ⟨r1, r2, r3, r4, r5, ⟨r6, r7, r8⟩, r9, r10, r11, r12, r13⟩ := r
  refine ⟨fun i hi => ?_, fun i hi => ?_, fun i hi hi2 => ?_, fun i hi => ?_, fun i hi => ?_, ⟨?_, ?_, ?_⟩, ?_, fun i hi => ?_, fun i hi => ?_, fun i j hi hj => ?_, fun i hi => ?_⟩
  · rw [h1 i (by omega), h1 (16 + i) (by omega), h1 (24 + i) (by omega), h2 i (by omega), h2 (16 + i) (by omega), h2 (24 + i) (by omega)]
    refine ⟨?_, ?_, ?_⟩ <;> rw [if_neg (by omega), if_neg (by omega)]
    · exact (r1 i hi).1
    · exact (r1 i hi).2.1
    · exact (r1 i hi).2.2
  · rw [h1 (8 + i) (by omega), h2 (8 + i) (by omega), if_neg (by omega), if_neg (by omega)]; exact r2 i hi
  · rw [h1 i (by omega), h1 (8 + i) (by omega), h1 (16 + i) (by omega), h1 (24 + i) (by omega), if_neg (by omega), if_neg (by omega), if_neg (by omega), if_neg (by omega)]; exact r3 i hi hi2
  · rw [h1 (32 + i) (by omega), h2 (38 + i) (by omega)]
    by_cases e : i = 8 * p + q
    · subst e; rw [if_pos rfl, if_pos rfl]
    · rw [if_neg (by omega), if_neg (by omega)]; exact r4 i hi
  · rw [h1 (96 + i) (by omega), h2 (32 + i) (by omega), if_neg (by omega), if_neg (by omega)]; exact r5 i hi
  · rw [h1 102 (by omega), h2 102 (by omega), if_neg (by omega), if_neg (by omega)]; exact r6
  · rw [h1 103 (by omega), h2 103 (by omega), if_neg (by omega), if_neg (by omega)]; exact r7
  · rw [h1 102 (by omega), if_neg (by omega)]; exact r8
  · rw [h1 103 (by omega), if_neg (by omega)]; exact r9
  · rw [h1 i (by omega), h1 (8 + i) (by omega), if_neg (by omega), if_neg (by omega)]; exact r10 i hi
  · rw [h1 (16 + i) (by omega), h1 (24 + i) (by omega), if_neg (by omega), if_neg (by omega)]; exact r11 i hi
  · rw [h1 (32 + (8 * i + j)) (by omega)]
    by_cases e : 8 * i + j = 8 * p + q
    · rw [if_pos (by omega)]; exact ⟨o, ho, rfl, fun z => by
        rcases z with z | z | z
        · omega
        · omega
        · exact hz (by omega)⟩
    · rw [if_neg (by omega)]; exact r12 i j hi hj
  · rw [h1 (96 + i) (by omega), if_neg (by omega)]; exact r13 i hi
theorem nuC_owes {σ : gx_R} {j : Nat} {x : Int32} (hj : j < 64) : ∀ i, i < 104 → nuC (gx_up σ 14 j x) 9 i = if i = 32 + j then x else nuC σ 9 i := by
  intro i hi
  unfold nuC
  simp only [gx_up]
  grind
theorem owes_eq {σ : gx_R} {a : gx_F} {P W H K T : Nat} (r : ValleyR σ 1 a P W H K T) {j : Nat} (hj : j < 64) : a (98 + j) = σ 14 j := by
  have := r.2.1.2.2.2.1 j hj
  rw [nu_e σ _ hj] at this
  rw [← this]; exact congrArg a (by omega)
theorem S_repay {σ τ : gx_R} (r : Rel σ τ) (a1 a2 a3 : Int32) : SimP (Sf_repay a1 a2 a3) (Md_repay a1 a2 a3) σ τ := by
  obtain ⟨P, W, H, K, T, P', W', H', K', T', rr⟩ := id r
  have r1 := rr.1
  have hP := r1.1.1.1
  have p1 : σ 2 0 = nI P := r1.1.2.1.1
  have p2 := r1.1.2.1.2.1
  cases hz : z_ix a1 P with
  | false =>
    refine SimP_ro r (-1) ?_ ?_
    · rw [Sf_repay, areUnlike_v p1 hP, hz, w_bd, Bool.false_and, Bool.and_false, bI_f, if_pos rfl]
    · rw [Md_repay, Md_isPerson_v p2 hP, hz, w_bd, bI_f, if_pos rfl]
  | true =>
    cases hw : z_ix a2 P with
    | false =>
      refine SimP_ro r (-1) ?_ ?_
      · rw [Sf_repay, areUnlike_v p1 hP, hw, w_bd, Bool.and_false, Bool.and_false, bI_f, if_pos rfl]
      · rw [Md_repay, Md_isPerson_v p2 hP, hz, w_bd, bI_t, if_neg (by decide), Md_isPerson_v p2 hP, hw, w_bd, bI_f, if_pos rfl]
    | true =>
      obtain ⟨p, hp, rfl⟩ := ix_ex hz (by omega)
      obtain ⟨q, hq, rfl⟩ := ix_ex hw (by omega)
      by_cases e : p = q
      · refine SimP_ro r (-1) ?_ ?_
        · rw [Sf_repay, areUnlike_v p1 hP, decide_eq_true (show nI p = nI q by rw [e]), w_bd, if_pos (by rw [Bool.not_true, Bool.false_and, bI_f])]
        · rw [Md_repay, Md_isPerson_v p2 hP, hz, w_bd, bI_t, if_neg (by decide), Md_isPerson_v p2 hP, hw, w_bd, bI_t, if_neg (by decide), if_pos (show nI p = nI q by rw [e])]
      · have en : ¬ nI p = nI q := fun z => e ((nI_eq (by omega) (by omega)).mp z)
        have c1 : 8 * p + q < 64 := by omega
        have c2 : 98 + 8 * p + q < 8880 := by omega
        obtain ⟨o, ho, ho2, -⟩ := r1.2.1.2.2.2.2.2.2.2.2.2.1 p q (by omega) (by omega)
        rw [nu_e σ _ c1] at ho2
        have ho2 : σ 14 (8 * p + q) = nI o := ho2
        have ho3 : τ 110 (98 + 8 * p + q) = nI o := by rw [← ho2, ← owes_eq r1 c1]; exact congrArg (τ 110) (by omega)
        have mda : Md_repay (nI p) (nI q) a3 τ = if bI (decide (¬ a3 < 1 ∧ ¬ nI o < a3)) = 0 then some (-1, τ) else z_bd (Md_keepsStep τ) (fun _ σ16 => some (σ16 110 (98 + 8 * p + q) - a3, gx_up σ16 110 (98 + 8 * p + q) (σ16 110 (98 + 8 * p + q) - a3))) := by
          rw [Md_repay, Md_isPerson_v p2 hP, hz, w_bd, bI_t, if_neg (by decide), Md_isPerson_v p2 hP, hw, w_bd, bI_t, if_neg (by decide), if_neg en]
          simp (disch := omega) only [z_c0, z_c1, nI_leI, nI_ltI, nI_eq, ix_n, cl_n, nI_add, pk_mul, nI_1, n_lt0, n_0le, n_le0, n_0lt, n_eq0, n_1le, n_le1, n_lt1, n_1lt, n_eq1, n_m1, n_m1a, L_2, L_3, L_4, L_5, L_6, L_7, L_8, L_9, L_10, L_11, L_12, L_14, L_15, L_16, L_17, L_18, L_20, L_21, L_24, L_26, L_30, L_32, L_34, L_35, L_36, L_37, L_38, L_39, L_40, L_41, L_42, L_43, L_44, L_45, L_46, L_47, L_48, L_57, L_59, L_60, L_61, L_62, L_64, L_65, L_68, L_76, L_80, L_84, L_90, L_92, L_96, L_97, L_98, L_99, L_100, L_104, L_122, L_139, L_140, L_162, L_163, L_164, L_200, L_241, L_255, L_256, L_280, L_284, L_300, L_301, L_303, L_309, L_360, L_400, L_401, L_402, L_403, L_404, L_405, L_406, L_407, L_408, L_999, L_1600, L_3120, L_8596, L_8880, L_9999, L_10000, L_30211, L_99999, L_1000000, c2, ho3, w_bd, w_ck, bI_0, bI_1, bI_bo, bo_0, bo_1, decide_true, decide_false, if_true, if_false, ite_true, ite_false, not_true_eq_false, not_false_eq_true, Bool.true_eq_false, Bool.false_eq_true]
          rw [Md_in_v, w_bd]
          simp (disch := omega) only [z_c0, z_c1, nI_leI, nI_ltI, nI_eq, ix_n, cl_n, nI_add, pk_mul, nI_1, n_lt0, n_0le, n_le0, n_0lt, n_eq0, n_1le, n_le1, n_lt1, n_1lt, n_eq1, n_m1, n_m1a, L_2, L_3, L_4, L_5, L_6, L_7, L_8, L_9, L_10, L_11, L_12, L_14, L_15, L_16, L_17, L_18, L_20, L_21, L_24, L_26, L_30, L_32, L_34, L_35, L_36, L_37, L_38, L_39, L_40, L_41, L_42, L_43, L_44, L_45, L_46, L_47, L_48, L_57, L_59, L_60, L_61, L_62, L_64, L_65, L_68, L_76, L_80, L_84, L_90, L_92, L_96, L_97, L_98, L_99, L_100, L_104, L_122, L_139, L_140, L_162, L_163, L_164, L_200, L_241, L_255, L_256, L_280, L_284, L_300, L_301, L_303, L_309, L_360, L_400, L_401, L_402, L_403, L_404, L_405, L_406, L_407, L_408, L_999, L_1600, L_3120, L_8596, L_8880, L_9999, L_10000, L_30211, L_99999, L_1000000, up_e, c2, w_bd, w_ck, bI_0, bI_1, bI_bo, bo_0, bo_1, decide_true, decide_false, if_true, if_false, ite_true, ite_false, not_true_eq_false, not_false_eq_true, Bool.true_eq_false, Bool.false_eq_true]
        have cla : Sf_repay (nI p) (nI q) a3 σ = if a3 < 1 then some (-1, σ) else if a3 ≤ nI o then z_bd (St_push σ) (fun _ σ9 => some (σ9 14 (8 * p + q) - a3, gx_up σ9 14 (8 * p + q) (σ9 14 (8 * p + q) - a3))) else some (-1, σ) := by
          rw [Sf_repay, areUnlike_v p1 hP, hz, hw, w_bd, decide_eq_false en, if_neg (by decide)]
          simp (disch := omega) only [z_c0, z_c1, nI_leI, nI_ltI, nI_eq, ix_n, cl_n, nI_add, pk_mul, nI_1, n_lt0, n_0le, n_le0, n_0lt, n_eq0, n_1le, n_le1, n_lt1, n_1lt, n_eq1, n_m1, n_m1a, L_2, L_3, L_4, L_5, L_6, L_7, L_8, L_9, L_10, L_11, L_12, L_14, L_15, L_16, L_17, L_18, L_20, L_21, L_24, L_26, L_30, L_32, L_34, L_35, L_36, L_37, L_38, L_39, L_40, L_41, L_42, L_43, L_44, L_45, L_46, L_47, L_48, L_57, L_59, L_60, L_61, L_62, L_64, L_65, L_68, L_76, L_80, L_84, L_90, L_92, L_96, L_97, L_98, L_99, L_100, L_104, L_122, L_139, L_140, L_162, L_163, L_164, L_200, L_241, L_255, L_256, L_280, L_284, L_300, L_301, L_303, L_309, L_360, L_400, L_401, L_402, L_403, L_404, L_405, L_406, L_407, L_408, L_999, L_1600, L_3120, L_8596, L_8880, L_9999, L_10000, L_30211, L_99999, L_1000000, show p * 8 + q = 8 * p + q by omega, c1, ho2, up_e, w_bd, w_ck, bI_0, bI_1, bI_bo, bo_0, bo_1, decide_true, decide_false, if_true, if_false, ite_true, ite_false, not_true_eq_false, not_false_eq_true, Bool.true_eq_false, Bool.false_eq_true]
        by_cases h1 : a3 < 1
        · refine SimP_ro r (-1) (by rw [cla, if_pos h1]) (by rw [mda, decide_eq_false (fun z => z.1 h1), bI_f, if_pos rfl])
        · by_cases h2 : a3 ≤ nI o
          · obtain ⟨k, hk, rfl⟩ := nI_of (x := a3) (fun z => h1 (by grind))
            have hko : k ≤ o := (nI_leI hk (by omega)).mp h2
            obtain ⟨σ1, τ1, s1, s2, s3, s4, s5, s6⟩ := push_R r1
            have g1 : σ1 14 (8 * p + q) = nI o := by rw [s4 14 (by omega) (by omega)]; exact ho2
            have g2 : τ1 110 (98 + 8 * p + q) = nI o := by rw [s6 _ (by omega) (by omega)]; exact ho3
            have g3 : nI o - nI k = nI (o - k) := pk_sub hko
            have hs : ∀ i, i < 104 → (fun i => gx_up τ1 110 (98 + 8 * p + q) (nI (o - k)) 110 (60 + i)) i = if i = 38 + (8 * p + q) then nI (o - k) else (fun i => τ1 110 (60 + i)) i := by
              intro i hi
              show gx_up τ1 110 (98 + 8 * p + q) (nI (o - k)) 110 (60 + i) = if i = 38 + (8 * p + q) then nI (o - k) else τ1 110 (60 + i)
              simp only [up_row]
              by_cases z : i = 38 + (8 * p + q)
              · rw [if_pos z, if_pos (by omega)]
              · rw [if_neg z, if_neg (by omega)]
            have hn := NightR_owes hP hp hq (show o - k ≤ 99 by omega) (fun z => absurd z e) s3.2.1 (nuC_owes (σ := σ1) (x := nI (o - k)) c1) hs
            have V : ValleyR (gx_up σ1 14 (8 * p + q) (nI (o - k))) 1 (gx_up τ1 110 (98 + 8 * p + q) (nI (o - k)) 110) P W H (min K 29 + 1) T := Valley_night (fun c y1 y2 y3 => gx_up_ne (by omega)) (fun j hj => up_p _ _ _ (by omega)) hn s3
            refine ⟨nI (o - k), _, _, ?_, ?_, Rel_mk V (fun c y1 y2 => by rw [gx_up_ne (by omega), s4 c (by omega) (by omega)]) ⟨fun c y1 => by rw [gx_up_ne (by omega), s5 c (by omega)], fun j hj => by rw [gx_up_ne (by omega), s5 109 (by omega)]⟩ rr, fun c hc => by rw [gx_up_ne (by omega), s4 c (by omega) (by omega)], fun c hc => by rw [gx_up_ne (by omega), s5 c (by omega)]⟩
            · rw [cla, if_neg h1, if_pos h2, s1, w_bd, g1, g3]
            · rw [mda, decide_eq_true ⟨h1, fun z => absurd h2 (Int32.not_le.mpr z)⟩, bI_t, if_neg (by decide), s2, w_bd, g2, g3]
          · refine SimP_ro r (-1) (by rw [cla, if_neg h1, if_neg h2]) (by rw [mda, decide_eq_false (fun z => z.2 (Int32.not_le.mp h2)), bI_f, if_pos rfl])
