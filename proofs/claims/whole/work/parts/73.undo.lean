/-! ===== undo ===== -/
theorem load_v {A : Nat} (hA : A ≤ 3016) (σ : gx_R) : ∃ σ', Ni_load (nI A) σ = some ((), σ') ∧ (∀ c, ¬ (9 ≤ c ∧ c ≤ 15) → σ' c = σ c) ∧ ∀ i, i < 104 → nuC σ' 9 i = σ 17 (A + i) := by
  have e1 : nI 3120 - nI 104 = nI 3016 := by rw [pk_sub (by omega)]
  have e2 : nI (A + 104) - nI 2 = nI (A + 102) := by rw [pk_sub (by omega)]; congr 1
  have e3 : nI (A + 104) - 1 = nI (A + 103) := nI_pred (A + 103)
  have x1 : z_ix (nI (A + 102)) 3120 = true := ix_t (by omega) (by omega)
  have x2 : z_ix (nI (A + 103)) 3120 = true := ix_t (by omega) (by omega)
  have e4 : A + 32 + 64 = A + 96 := by omega
  unfold Ni_load
  simp (disch := omega) only [z_c0, z_c1, nI_leI, nI_ltI, nI_eq, ix_n, cl_n, nI_add, pk_mul, nI_1, n_lt0, n_0le, n_le0, n_0lt, n_eq0, n_1le, n_le1, n_lt1, n_1lt, n_eq1, n_m1, n_m1a, L_2, L_3, L_4, L_5, L_6, L_7, L_8, L_9, L_10, L_11, L_12, L_14, L_15, L_16, L_17, L_18, L_20, L_21, L_24, L_26, L_30, L_32, L_34, L_35, L_36, L_37, L_38, L_39, L_40, L_41, L_42, L_43, L_44, L_45, L_46, L_47, L_48, L_57, L_59, L_60, L_61, L_62, L_64, L_65, L_68, L_76, L_80, L_84, L_90, L_92, L_96, L_97, L_98, L_99, L_100, L_104, L_122, L_139, L_140, L_162, L_163, L_164, L_200, L_241, L_255, L_256, L_280, L_284, L_300, L_301, L_303, L_309, L_360, L_400, L_401, L_402, L_403, L_404, L_405, L_406, L_407, L_408, L_999, L_1600, L_3120, L_8596, L_8880, L_9999, L_10000, L_30211, L_99999, L_1000000, e1, e2, e3, e4, hA, x1, x2, cpk_n, cpk_r, if_true, w_bd, w_ck, bI_0, bI_1, bI_bo, bo_0, bo_1, decide_true, decide_false, if_true, if_false, ite_true, ite_false, not_true_eq_false, not_false_eq_true, Bool.true_eq_false, Bool.false_eq_true]
  refine ⟨_, rfl, fun c h => ?_, fun i hi => ?_⟩
  · rw [gx_up_ne (by omega), gx_up_ne (by omega), gx_cp_ne (by omega), gx_cp_ne (by omega), gx_cp_ne (by omega), gx_cp_ne (by omega), gx_cp_ne (by omega), gx_cp_ne (by omega)]
  · unfold nuC
    simp only [gx_up, gx_cp]
    grind
theorem undo_M {K : Nat} (hK : K ≤ 29) : ∀ m k n τ, k + m = 284 → m < n → τ 110 4 = nI K → ∃ τ', Md_undo_17 n (nI k) τ = some (nI K, τ') ∧ (∀ c, c ≠ 110 → τ' c = τ c) ∧ ∀ j, τ' 110 j = if 60 + k ≤ j ∧ j < 344 then τ 110 (300 + 284 * K + j) else τ 110 j := by
  intro m
  induction m with
  | zero =>
    intro k n τ hk hn h4
    obtain ⟨n, rfl⟩ : ∃ q, n = q + 1 := ⟨n - 1, by omega⟩
    have e : k = 284 := by omega
    subst e
    refine ⟨τ, ?_, fun _ _ => rfl, fun j => by rw [if_neg (by omega)]⟩
    rw [Md_undo_17, Md_undo_17_B, if_pos (by decide), Md_undo_41, show (4 : Int32).toNatClampNeg = 4 from rfl, h4]
  | succ m ih =>
    intro k n τ hk hn h4
    obtain ⟨n, rfl⟩ : ∃ q, n = q + 1 := ⟨n - 1, by omega⟩
    obtain ⟨τ', q1, q2, q3⟩ := ih (k + 1) n (gx_up τ 110 (60 + k) (τ 110 (360 + 284 * K + k))) (by omega) (by omega) (by rw [up_p _ _ _ (by omega)]; exact h4)
    have c1 : 360 + 284 * K + k < 8880 := by omega
    have c2 : 60 + k < 8880 := by omega
    have c3 : ¬ 284 ≤ k := by omega
    refine ⟨τ', ?_, fun c z1 => by rw [q2 c z1, gx_up_ne z1], fun j => ?_⟩
    · simp (disch := omega) only [Md_undo_17, Md_undo_17_B, z_c0, z_c1, nI_leI, nI_ltI, nI_eq, ix_n, cl_n, nI_add, pk_mul, nI_1, n_lt0, n_0le, n_le0, n_0lt, n_eq0, n_1le, n_le1, n_lt1, n_1lt, n_eq1, n_m1, n_m1a, L_2, L_3, L_4, L_5, L_6, L_7, L_8, L_9, L_10, L_11, L_12, L_14, L_15, L_16, L_17, L_18, L_20, L_21, L_24, L_26, L_30, L_32, L_34, L_35, L_36, L_37, L_38, L_39, L_40, L_41, L_42, L_43, L_44, L_45, L_46, L_47, L_48, L_57, L_59, L_60, L_61, L_62, L_64, L_65, L_68, L_76, L_80, L_84, L_90, L_92, L_96, L_97, L_98, L_99, L_100, L_104, L_122, L_139, L_140, L_162, L_163, L_164, L_200, L_241, L_255, L_256, L_280, L_284, L_300, L_301, L_303, L_309, L_360, L_400, L_401, L_402, L_403, L_404, L_405, L_406, L_407, L_408, L_999, L_1600, L_3120, L_8596, L_8880, L_9999, L_10000, L_30211, L_99999, L_1000000, h4, c1, c2, c3, w_bd, w_ck, bI_0, bI_1, bI_bo, bo_0, bo_1, decide_true, decide_false, if_true, if_false, ite_true, ite_false, not_true_eq_false, not_false_eq_true, Bool.true_eq_false, Bool.false_eq_true]
      exact q1
    · rw [q3 j]
      by_cases e : j = 60 + k
      · subst e
        rw [if_neg (by omega), up_e, if_pos (by omega)]
        congr 1; omega
      · rw [up_p _ _ _ e]
        by_cases e2 : 60 + (k + 1) ≤ j ∧ j < 344
        · rw [if_pos e2, if_pos (by omega), up_p _ _ _ (by omega)]
        · rw [if_neg e2, if_neg (by omega)]
theorem S_undo {σ τ : gx_R} (r : Rel σ τ) : SimP Sf_undo Md_undo σ τ := by
  obtain ⟨P, W, H, K, T, P', W', H', K', T', rr⟩ := id r
  have r1 := rr.1
  have hP := r1.1.1.1
  obtain ⟨q1, q2, q3, q4, ⟨O, q5, q6⟩, ⟨q7, q8⟩, ⟨q9, q10, q11⟩, q12, q13⟩ := r1
  have q5 : σ 16 1 = nI O := q5
  have q7 : σ 16 2 = nI K := q7
  have q6 : StepsR (σ 17) (σ 18) (σ 7) (τ 110) P W H K O := q6
  obtain ⟨hK, hO, hs, s1, s2⟩ := q6
  by_cases h0 : K = 0
  · subst h0
    refine SimP_ro r (-1) ?_ ?_
    · rw [Sf_undo, St_pop, q7, if_pos (show nI 0 = (0 : Int32) from rfl), w_bd, if_pos rfl]
    · rw [Md_undo, show (4 : Int32).toNatClampNeg = 4 from rfl, q8, if_pos (show nI 0 = (0 : Int32) from rfl)]
  · obtain ⟨K, rfl⟩ : ∃ k, K = k + 1 := ⟨K - 1, by omega⟩
    obtain ⟨t1, t2, t3⟩ := s1 K (by omega)
    have hm : (O + K) % 30 < 30 := Nat.mod_lt _ (by omega)
    obtain ⟨σ', l1, l2, l3⟩ := load_v (A := (O + K) % 30 * 104) (by omega) (gx_up σ 16 2 (nI K))
    obtain ⟨τ', m1, m2, m3⟩ := undo_M (K := K) (by omega) 284 0 z_FU (gx_up τ 110 4 (nI K)) (by omega) (Nat.lt_of_lt_of_le (by decide) z_FU_ge) (up_e _ _ _ _)
    have g16 : σ' 16 2 = nI K := by rw [l2 16 (by omega), up_e]
    have cS : ∀ c, ¬ (9 ≤ c ∧ c ≤ 16) → σ' c = σ c := fun c z => by rw [l2 c (by omega), gx_up_ne (by omega)]
    have aM : ∀ j, ¬ (60 ≤ j ∧ j < 344) → j ≠ 4 → τ' 110 j = τ 110 j := fun j z1 z2 => by rw [m3 j, if_neg (by omega), up_p _ _ _ z2]
    have bM : ∀ i, i < 284 → τ' 110 (60 + i) = τ 110 (360 + 284 * K + i) := fun i hi => by rw [m3, if_pos (by omega), up_p _ _ _ (by omega)]; congr 1; omega
    have e1 : nI (K + 1) - 1 = nI K := nI_pred K
    refine ⟨nI K, σ', τ', ?_, ?_, ?_, fun c hc => cS c (by omega), fun c hc => by rw [m2 c (by omega), gx_up_ne (by omega)]⟩
    · have h1 : ¬ nI (K + 1) = 0 := fun z => by have := (nI_eq (b := 0) (by omega) (by omega)).mp z; omega
      rw [Sf_undo, St_pop, q7, if_neg h1, e1, up_e, up_p _ _ _ (by omega), q5]
      simp (disch := omega) only [nI_add, L_30, L_104, pk_rem, pk_mul]
      rw [l1, w_bd, w_bd, if_neg (by decide), g16]
    · have h1 : ¬ nI (K + 1) = 0 := fun z => by have := (nI_eq (b := 0) (by omega) (by omega)).mp z; omega
      rw [Md_undo, show (4 : Int32).toNatClampNeg = 4 from rfl, q8, if_neg h1, e1]
      exact m1
    · have V : ValleyR σ' 1 (τ' 110) P W (hs K) K T := by
        refine ⟨?_, ?_, by omega, ?_, ⟨O, ?_, ?_⟩, ⟨g16, ?_⟩, ⟨?_, ?_, q11⟩, ?_, ?_⟩
        · show FolkR (σ' 2 0) (σ' 2 1) (σ' 3) (σ' 4) (σ' 5) (σ' 6) (σ' 7) (σ' 8) (τ' 110) P W
          rw [cS 2 (by omega), cS 3 (by omega), cS 4 (by omega), cS 5 (by omega), cS 6 (by omega), cS 7 (by omega), cS 8 (by omega)]
          obtain ⟨a1, ⟨a2, a3, a4, a5⟩, a6, a7, a8, a9⟩ := q1
          refine ⟨a1, ⟨a2, by rw [aM 0 (by omega) (by omega)]; exact a3, a4, by rw [aM 1 (by omega) (by omega)]; exact a5⟩, fun p hp => ?_, fun p hp => ?_, fun p hp => ?_, fun w hw => ?_⟩
          · rw [aM (10 + p) (by omega) (by omega), aM (18 + p) (by omega) (by omega)]; exact a6 p hp
          · rw [aM (26 + p) (by omega) (by omega)]; exact a7 p hp
          · rw [aM (34 + p) (by omega) (by omega)]; exact a8 p hp
          · rw [aM (42 + w) (by omega) (by omega), aM (48 + w) (by omega) (by omega)]; exact a9 w hw
        · show NightR (nuC σ' 9) (fun i => τ' 110 (60 + i)) (σ' 7) P W (hs K)
          rw [cS 7 (by omega)]
          refine NightR_cong hP (fun i hi => ?_) (fun i hi => bM i (by omega)) (fun _ _ => rfl) t1
          rw [l3 i hi, gx_up_ne (by omega)]
        · show KeptR (σ' 18) (fun i => τ' 110 (60 + i)) (hs K)
          rw [cS 18 (by omega)]
          exact KeptR_cong (fun _ _ => rfl) (fun i z1 z2 => bM i z2) t2
        · show σ' 16 1 = nI O
          rw [l2 16 (by omega), up_p _ _ _ (by omega)]; exact q5
        · show StepsR (σ' 17) (σ' 18) (σ' 7) (τ' 110) P W (hs K) K O
          rw [cS 17 (by omega), cS 18 (by omega), cS 7 (by omega)]
          refine ⟨by omega, hO, hs, fun k hk => ?_, fun j k hj hk => s2 j k hj (by omega)⟩
          obtain ⟨u1, u2, u3⟩ := s1 k (by omega)
          exact ⟨NightR_cong hP (fun _ _ => rfl) (fun i hi => aM _ (by omega) (by omega)) (fun _ _ => rfl) u1, KeptR_cong (fun _ _ => rfl) (fun i z1 z2 => aM _ (by omega) (by omega)) u2, s2 k K (by omega) (by omega)⟩
        · rw [m3 4, if_neg (by omega), up_e]
        · rw [cS 1 (by omega)]; exact q9
        · rw [aM 2 (by omega) (by omega)]; exact q10
        · rw [aM 3 (by omega) (by omega), cS 1 (by omega)]; exact q12
        · rw [cS 1 (by omega)]; exact q13
      exact Rel_mk V (fun c y1 y2 => cS c (by omega)) ⟨fun c y1 => by rw [m2 c (by omega), gx_up_ne (by omega)], fun j hj => by rw [m2 109 (by omega), gx_up_ne (by omega)]⟩ rr
