/-! ===== nights are saved and taken back ===== -/
theorem L_29 : (29 : Int32) = nI 29 := rfl
theorem cpk_n {a b n n0 n1 : Nat} (h1 : a + n ≤ n0) (h2 : b + n ≤ n1) (h3 : n0 < 2 ^ 31) (h4 : n1 < 2 ^ 31) : z_cpk (nI a) (nI b) (nI n) n0 n1 = true := by
  refine decide_eq_true ⟨nI_pos (by omega), nI_pos (by omega), nI_pos (by omega), ?_, ?_⟩
  · rw [cl_n (by omega), cl_n (by omega)]; exact h1
  · rw [cl_n (by omega), cl_n (by omega)]; exact h2
theorem cpk_l {b n n0 n1 : Nat} (h1 : n ≤ n0) (h2 : b + n ≤ n1) (h3 : n0 < 2 ^ 31) (h4 : n1 < 2 ^ 31) : z_cpk 0 (nI b) (nI n) n0 n1 = true := cpk_n (a := 0) (by omega) h2 h3 h4
theorem cpk_r {a n n0 n1 : Nat} (h1 : a + n ≤ n0) (h2 : n ≤ n1) (h3 : n0 < 2 ^ 31) (h4 : n1 < 2 ^ 31) : z_cpk (nI a) 0 (nI n) n0 n1 = true := cpk_n (b := 0) h1 (by omega) h3 h4
theorem cp_row (σ : gx_R) (k0 k1 sp dp n j : Nat) : gx_cp σ k0 k1 sp dp n k1 j = if dp ≤ j ∧ j < dp + n then σ k0 (sp + (j - dp)) else σ k1 j := by simp [gx_cp]
theorem up_row (σ : gx_R) (k i j : Nat) (x : Int32) : gx_up σ k i x k j = if j = i then x else σ k j := by simp [gx_up]
theorem save_v {A : Nat} (hA : A ≤ 3016) (σ : gx_R) : ∃ σ', Ni_save (nI A) σ = some ((), σ') ∧ (∀ c, c ≠ 17 → σ' c = σ c) ∧ ∀ j, σ' 17 j = if A ≤ j ∧ j < A + 104 then nuC σ 9 (j - A) else σ 17 j := by
  have e1 : nI 3120 - nI 104 = nI 3016 := by rw [pk_sub (by omega)]
  have e2 : nI (A + 104) - nI 2 = nI (A + 102) := by rw [pk_sub (by omega)]; congr 1
  have e3 : nI (A + 104) - 1 = nI (A + 103) := nI_pred (A + 103)
  have x1 : z_ix (nI (A + 102)) 3120 = true := ix_t (by omega) (by omega)
  have x2 : z_ix (nI (A + 103)) 3120 = true := ix_t (by omega) (by omega)
  unfold Ni_save
  simp (disch := omega) only [z_c0, z_c1, nI_leI, nI_ltI, nI_eq, ix_n, cl_n, nI_add, pk_mul, nI_1, n_lt0, n_0le, n_le0, n_0lt, n_eq0, n_1le, n_le1, n_lt1, n_1lt, n_eq1, n_m1, n_m1a, L_2, L_3, L_4, L_5, L_6, L_7, L_8, L_9, L_10, L_11, L_12, L_14, L_15, L_16, L_17, L_18, L_20, L_21, L_24, L_26, L_30, L_32, L_34, L_35, L_36, L_37, L_38, L_39, L_40, L_41, L_42, L_43, L_44, L_45, L_46, L_47, L_48, L_57, L_59, L_60, L_61, L_62, L_64, L_65, L_68, L_76, L_80, L_84, L_90, L_92, L_96, L_97, L_98, L_99, L_100, L_104, L_122, L_139, L_140, L_162, L_163, L_164, L_200, L_241, L_255, L_256, L_280, L_284, L_300, L_301, L_303, L_309, L_360, L_400, L_401, L_402, L_403, L_404, L_405, L_406, L_407, L_408, L_999, L_1600, L_3120, L_8596, L_8880, L_9999, L_10000, L_30211, L_99999, L_1000000, Nat.add_assoc, e1, e2, e3, hA, x1, x2, cpk_l, w_bd, w_ck, bI_0, bI_1, bI_bo, bo_0, bo_1, decide_true, decide_false, if_true, if_false, ite_true, ite_false, not_true_eq_false, not_false_eq_true, Bool.true_eq_false, Bool.false_eq_true]
  refine ⟨_, rfl, fun c h => ?_, fun j => ?_⟩
  · simp only [gx_up_ne h, gx_cp_ne h]
  · simp only [up_row, cp_row, gx_up_ne (show 9 ≠ 17 by omega), gx_cp_ne (show 9 ≠ 17 by omega), gx_cp_ne (show 10 ≠ 17 by omega), gx_cp_ne (show 11 ≠ 17 by omega), gx_cp_ne (show 12 ≠ 17 by omega), gx_cp_ne (show 13 ≠ 17 by omega), gx_cp_ne (show 14 ≠ 17 by omega), gx_cp_ne (show 15 ≠ 17 by omega), nuC]
    rcases Nat.lt_or_ge j A with h | h
    · simp (disch := omega) only [if_neg]
    · obtain ⟨i, rfl⟩ : ∃ i, j = A + i := ⟨j - A, by omega⟩
      simp only [Nat.add_sub_cancel_left]
      rcases Nat.lt_or_ge i 104 with h2 | h2
      · have hh : A ≤ A + i ∧ A + i < A + 104 := by omega
        rw [if_pos hh]
        grind
      · simp (disch := omega) only [if_neg]
theorem shift_M {K28 : gx_R → Option (Unit × gx_R)} : ∀ m k n τ, k + m = 8596 → 360 ≤ k → m < n → ∃ τ', Md_keepsStep_8 K28 n (nI k) τ = K28 (gx_up τ' 110 4 (nI 29)) ∧ (∀ c, c ≠ 110 → τ' c = τ c) ∧ ∀ j, τ' 110 j = if k ≤ j ∧ j < 8596 then τ 110 (j + 284) else τ 110 j := by
  intro m
  induction m with
  | zero =>
    intro k n τ hk h360 hn
    obtain ⟨n, rfl⟩ : ∃ q, n = q + 1 := ⟨n - 1, by omega⟩
    obtain rfl : k = 8596 := by omega
    refine ⟨τ, ?_, fun _ _ => rfl, fun j => by rw [if_neg (by omega)]⟩
    simp (disch := omega) only [Md_keepsStep_8, Md_keepsStep_8_B, Md_keepsStep_23, z_c0, z_c1, nI_leI, nI_ltI, nI_eq, ix_n, cl_n, nI_add, pk_mul, nI_1, n_lt0, n_0le, n_le0, n_0lt, n_eq0, n_1le, n_le1, n_lt1, n_1lt, n_eq1, n_m1, n_m1a, L_2, L_3, L_4, L_5, L_6, L_7, L_8, L_9, L_10, L_11, L_12, L_14, L_15, L_16, L_17, L_18, L_20, L_21, L_24, L_26, L_30, L_32, L_34, L_35, L_36, L_37, L_38, L_39, L_40, L_41, L_42, L_43, L_44, L_45, L_46, L_47, L_48, L_57, L_59, L_60, L_61, L_62, L_64, L_65, L_68, L_76, L_80, L_84, L_90, L_92, L_96, L_97, L_98, L_99, L_100, L_104, L_122, L_139, L_140, L_162, L_163, L_164, L_200, L_241, L_255, L_256, L_280, L_284, L_300, L_301, L_303, L_309, L_360, L_400, L_401, L_402, L_403, L_404, L_405, L_406, L_407, L_408, L_999, L_1600, L_3120, L_8596, L_8880, L_9999, L_10000, L_30211, L_99999, L_1000000, Nat.le_refl, w_bd, w_ck, bI_0, bI_1, bI_bo, bo_0, bo_1, decide_true, decide_false, if_true, if_false, ite_true, ite_false, not_true_eq_false, not_false_eq_true, Bool.true_eq_false, Bool.false_eq_true, L_29]
  | succ m ih =>
    intro k n τ hk h360 hn
    obtain ⟨n, rfl⟩ : ∃ q, n = q + 1 := ⟨n - 1, by omega⟩
    have c1 : ¬ 8596 ≤ k := by omega
    have c2 : k + 284 < 8880 := by omega
    have c3 : k < 8880 := by omega
    obtain ⟨τ', q1, q2, q3⟩ := ih (k + 1) n (gx_up τ 110 k (τ 110 (k + 284))) (by omega) (by omega) (by omega)
    refine ⟨τ', ?_, fun c h => (q2 c h).trans (gx_up_ne h), fun j => ?_⟩
    · simp (disch := omega) only [Md_keepsStep_8, Md_keepsStep_8_B, z_c0, z_c1, nI_leI, nI_ltI, nI_eq, ix_n, cl_n, nI_add, pk_mul, nI_1, n_lt0, n_0le, n_le0, n_0lt, n_eq0, n_1le, n_le1, n_lt1, n_1lt, n_eq1, n_m1, n_m1a, L_2, L_3, L_4, L_5, L_6, L_7, L_8, L_9, L_10, L_11, L_12, L_14, L_15, L_16, L_17, L_18, L_20, L_21, L_24, L_26, L_30, L_32, L_34, L_35, L_36, L_37, L_38, L_39, L_40, L_41, L_42, L_43, L_44, L_45, L_46, L_47, L_48, L_57, L_59, L_60, L_61, L_62, L_64, L_65, L_68, L_76, L_80, L_84, L_90, L_92, L_96, L_97, L_98, L_99, L_100, L_104, L_122, L_139, L_140, L_162, L_163, L_164, L_200, L_241, L_255, L_256, L_280, L_284, L_300, L_301, L_303, L_309, L_360, L_400, L_401, L_402, L_403, L_404, L_405, L_406, L_407, L_408, L_999, L_1600, L_3120, L_8596, L_8880, L_9999, L_10000, L_30211, L_99999, L_1000000, L_284, c1, c2, c3, w_bd, w_ck, bI_0, bI_1, bI_bo, bo_0, bo_1, decide_true, decide_false, if_true, if_false, ite_true, ite_false, not_true_eq_false, not_false_eq_true, Bool.true_eq_false, Bool.false_eq_true]
      exact q1
    · rw [q3 j]
      simp only [up_row]
      by_cases h : j = k
      · subst h
        rw [if_neg (by omega), if_pos rfl, if_pos (by omega)]
      · by_cases h2 : k ≤ j ∧ j < 8596
        · rw [if_pos (by omega), if_neg (by omega), if_pos h2]
        · rw [if_neg (by omega), if_neg h, if_neg h2]
theorem keep_M {K : Nat} (hK : K ≤ 29) : ∀ m k n τ, k + m = 284 → m < n → τ 110 4 = nI K → ∃ τ', Md_keepsStep_30 n (nI k) τ = some ((), gx_up τ' 110 4 (nI (K + 1))) ∧ (∀ c, c ≠ 110 → τ' c = τ c) ∧ ∀ j, τ' 110 j = if 360 + 284 * K + k ≤ j ∧ j < 360 + 284 * K + 284 then τ 110 (60 + (j - (360 + 284 * K))) else τ 110 j := by
  intro m
  induction m with
  | zero =>
    intro k n τ hk hn h4
    obtain ⟨n, rfl⟩ : ∃ q, n = q + 1 := ⟨n - 1, by omega⟩
    obtain rfl : k = 284 := by omega
    refine ⟨τ, ?_, fun _ _ => rfl, fun j => by rw [if_neg (by omega)]⟩
    simp (disch := omega) only [Md_keepsStep_30, Md_keepsStep_30_B, Md_keepsStep_54, h4, z_c0, z_c1, nI_leI, nI_ltI, nI_eq, ix_n, cl_n, nI_add, pk_mul, nI_1, n_lt0, n_0le, n_le0, n_0lt, n_eq0, n_1le, n_le1, n_lt1, n_1lt, n_eq1, n_m1, n_m1a, L_2, L_3, L_4, L_5, L_6, L_7, L_8, L_9, L_10, L_11, L_12, L_14, L_15, L_16, L_17, L_18, L_20, L_21, L_24, L_26, L_30, L_32, L_34, L_35, L_36, L_37, L_38, L_39, L_40, L_41, L_42, L_43, L_44, L_45, L_46, L_47, L_48, L_57, L_59, L_60, L_61, L_62, L_64, L_65, L_68, L_76, L_80, L_84, L_90, L_92, L_96, L_97, L_98, L_99, L_100, L_104, L_122, L_139, L_140, L_162, L_163, L_164, L_200, L_241, L_255, L_256, L_280, L_284, L_300, L_301, L_303, L_309, L_360, L_400, L_401, L_402, L_403, L_404, L_405, L_406, L_407, L_408, L_999, L_1600, L_3120, L_8596, L_8880, L_9999, L_10000, L_30211, L_99999, L_1000000, Nat.le_refl, w_bd, w_ck, bI_0, bI_1, bI_bo, bo_0, bo_1, decide_true, decide_false, if_true, if_false, ite_true, ite_false, not_true_eq_false, not_false_eq_true, Bool.true_eq_false, Bool.false_eq_true]
  | succ m ih =>
    intro k n τ hk hn h4
    obtain ⟨n, rfl⟩ : ∃ q, n = q + 1 := ⟨n - 1, by omega⟩
    have c1 : ¬ 284 ≤ k := by omega
    have c2 : 60 + k < 8880 := by omega
    have c3 : 360 + 284 * K + k < 8880 := by omega
    obtain ⟨τ', q1, q2, q3⟩ := ih (k + 1) n (gx_up τ 110 (360 + 284 * K + k) (τ 110 (60 + k))) (by omega) (by omega) (by rw [up_p _ _ _ (by omega)]; exact h4)
    refine ⟨τ', ?_, fun c h => (q2 c h).trans (gx_up_ne h), fun j => ?_⟩
    · simp (disch := omega) only [Md_keepsStep_30, Md_keepsStep_30_B, h4, z_c0, z_c1, nI_leI, nI_ltI, nI_eq, ix_n, cl_n, nI_add, pk_mul, nI_1, n_lt0, n_0le, n_le0, n_0lt, n_eq0, n_1le, n_le1, n_lt1, n_1lt, n_eq1, n_m1, n_m1a, L_2, L_3, L_4, L_5, L_6, L_7, L_8, L_9, L_10, L_11, L_12, L_14, L_15, L_16, L_17, L_18, L_20, L_21, L_24, L_26, L_30, L_32, L_34, L_35, L_36, L_37, L_38, L_39, L_40, L_41, L_42, L_43, L_44, L_45, L_46, L_47, L_48, L_57, L_59, L_60, L_61, L_62, L_64, L_65, L_68, L_76, L_80, L_84, L_90, L_92, L_96, L_97, L_98, L_99, L_100, L_104, L_122, L_139, L_140, L_162, L_163, L_164, L_200, L_241, L_255, L_256, L_280, L_284, L_300, L_301, L_303, L_309, L_360, L_400, L_401, L_402, L_403, L_404, L_405, L_406, L_407, L_408, L_999, L_1600, L_3120, L_8596, L_8880, L_9999, L_10000, L_30211, L_99999, L_1000000, c1, c2, c3, w_bd, w_ck, bI_0, bI_1, bI_bo, bo_0, bo_1, decide_true, decide_false, if_true, if_false, ite_true, ite_false, not_true_eq_false, not_false_eq_true, Bool.true_eq_false, Bool.false_eq_true]
      exact q1
    · rw [q3 j]
      simp only [up_row]
      by_cases h : j = 360 + 284 * K + k
      · subst h
        rw [if_neg (by omega), if_pos rfl, if_pos (by omega)]
        exact congrArg (τ 110) (by omega)
      · by_cases h2 : 360 + 284 * K + k ≤ j ∧ j < 360 + 284 * K + 284
        · rw [if_pos (by omega), if_neg (by omega), if_pos h2]
        · rw [if_neg (by omega), if_neg h, if_neg h2]
/-- what keepsStep does -/
theorem keeps_v {K : Nat} (hK : K ≤ 30) {τ : gx_R} (h4 : τ 110 4 = nI K) : ∃ τ', Md_keepsStep τ = some ((), τ') ∧ (∀ c, c ≠ 110 → τ' c = τ c) ∧ τ' 110 4 = nI (min K 29 + 1) ∧ (∀ j, j < 360 → j ≠ 4 → τ' 110 j = τ 110 j) ∧ (∀ k i, k < min K 29 → i < 284 → τ' 110 (360 + 284 * k + i) = τ 110 (360 + 284 * (if K = 30 then k + 1 else k) + i)) ∧ ∀ i, i < 284 → τ' 110 (360 + 284 * min K 29 + i) = τ 110 (60 + i) := by
  by_cases h30 : K = 30
  · subst h30
    obtain ⟨τ1, q1, q2, q3⟩ := shift_M (K28 := Md_keepsStep_28) 8236 360 z_FU τ (by omega) (by omega) (Nat.lt_of_lt_of_le (by decide) z_FU_ge)
    obtain ⟨τ2, y1, y2, y3⟩ := keep_M (K := 29) (by omega) 284 0 z_FU (gx_up τ1 110 4 (nI 29)) (by omega) (Nat.lt_of_lt_of_le (by decide) z_FU_ge) (up_e _ _ _ _)
    refine ⟨gx_up τ2 110 4 (nI 30), ?_, fun c h => by rw [gx_up_ne h, y2 c h, gx_up_ne h, q2 c h], up_e _ _ _ _, fun j h1 h2 => ?_, fun k i hk hi => ?_, fun i hi => ?_⟩
    · rw [Md_keepsStep, show (4 : Int32).toNatClampNeg = 4 from rfl, h4, if_pos (show nI 30 = 30 from rfl)]
      refine q1.trans ?_
      exact y1
    · rw [up_p _ _ _ h2, y3 j, if_neg (by omega), up_p _ _ _ h2, q3 j, if_neg (by omega)]
    · rw [up_p _ _ _ (by omega), y3, if_neg (by omega), up_p _ _ _ (by omega), q3, if_pos (by omega), if_pos rfl]
      exact congrArg (τ 110) (by omega)
    · rw [up_p _ _ _ (by omega), y3, if_pos (by omega), up_p _ _ _ (by omega), q3, if_neg (by omega)]
      exact congrArg (τ 110) (by omega)
  · obtain ⟨τ2, y1, y2, y3⟩ := keep_M (K := K) (by omega) 284 0 z_FU τ (by omega) (Nat.lt_of_lt_of_le (by decide) z_FU_ge) h4
    have hm : min K 29 = K := by omega
    rw [hm]
    refine ⟨gx_up τ2 110 4 (nI (K + 1)), ?_, fun c h => by rw [gx_up_ne h, y2 c h], up_e _ _ _ _, fun j h1 h2 => ?_, fun k i hk hi => ?_, fun i hi => ?_⟩
    · rw [Md_keepsStep, show (4 : Int32).toNatClampNeg = 4 from rfl, h4, if_neg (show ¬ nI K = 30 from fun q => h30 ((nI_eq (by omega) (by omega)).mp q))]
      exact y1
    · rw [up_p _ _ _ h2, y3 j, if_neg (by omega)]
    · rw [up_p _ _ _ (by omega), y3, if_neg (by omega), if_neg h30]
    · rw [up_p _ _ _ (by omega), y3, if_pos (by omega)]
      exact congrArg (τ 110) (by omega)
theorem push_v {O K : Nat} (hO : O < 30) (hK : K ≤ 30) {σ : gx_R} (h1 : σ 16 1 = nI O) (h2 : σ 16 2 = nI K) : ∃ σ', St_push σ = some ((), σ') ∧ (∀ c, c ≠ 16 → c ≠ 17 → σ' c = σ c) ∧ (∀ j, σ' 17 j = if (O + K) % 30 * 104 ≤ j ∧ j < (O + K) % 30 * 104 + 104 then nuC σ 9 (j - (O + K) % 30 * 104) else σ 17 j) ∧ σ' 16 2 = nI (min K 29 + 1) ∧ σ' 16 1 = nI (if K = 30 then (O + 1) % 30 else O) := by
  obtain ⟨σ1, q1, q2, q3⟩ := save_v (A := (O + K) % 30 * 104) (by have : (O + K) % 30 < 30 := Nat.mod_lt _ (by omega); omega) σ
  have e16 := q2 16 (by omega)
  by_cases h30 : K = 30
  · refine ⟨gx_up σ1 16 1 (nI ((O + 1) % 30)), ?_, fun c y1 y2 => by rw [gx_up_ne y1, q2 c y2], fun j => by rw [gx_up_ne (by omega)]; exact q3 j, by rw [up_p _ _ _ (by omega), e16, h2, h30]; rfl, by rw [up_e, if_pos h30]⟩
    have c : 30 ≤ K := by omega
    simp (disch := omega) only [St_push, h1, h2, nI_add, L_30, L_104, pk_rem, pk_mul, q1, w_bd, e16, nI_leI, c, if_true, nI_1]
  · refine ⟨gx_up σ1 16 2 (nI (K + 1)), ?_, fun c y1 y2 => by rw [gx_up_ne y1, q2 c y2], fun j => by rw [gx_up_ne (by omega)]; exact q3 j, by rw [up_e]; congr 1; omega, by rw [up_p _ _ _ (by omega), e16, h1, if_neg h30]⟩
    have c : ¬ 30 ≤ K := by omega
    simp (disch := omega) only [St_push, h1, h2, nI_add, L_30, L_104, pk_rem, pk_mul, q1, w_bd, e16, nI_leI, c, if_false, nI_1]
