/-! ===== an hour passes ===== -/
theorem keep14 : ∀ m k n τ, k + m = 8 → m < n → ∃ τ', Md_keepsNow_14 n (nI k) τ = Md_keepsNow_59 τ' ∧ (∀ c, c ≠ 110 → τ' c = τ c) ∧ ∀ j, τ' 110 j = if 60 + k ≤ j ∧ j < 68 then τ 135 (j - 60) else if 68 + k ≤ j ∧ j < 76 then τ 136 (j - 68) else if 76 + k ≤ j ∧ j < 84 then τ 137 (j - 76) else if 84 + k ≤ j ∧ j < 92 then τ 138 (j - 84) else τ 110 j := by
  intro m
  induction m with
  | zero =>
    intro k n τ hk hn
    obtain ⟨n, rfl⟩ : ∃ q, n = q + 1 := ⟨n - 1, by omega⟩
    have e : k = 8 := by omega
    subst e
    refine ⟨τ, by rw [Md_keepsNow_14, Md_keepsNow_14_B, if_pos (by decide)], fun _ _ => rfl, fun j => ?_⟩
    rw [if_neg (by omega), if_neg (by omega), if_neg (by omega), if_neg (by omega)]
  | succ m ih =>
    intro k n τ hk hn
    obtain ⟨n, rfl⟩ : ∃ q, n = q + 1 := ⟨n - 1, by omega⟩
    obtain ⟨τ', q1, q2, q3⟩ := ih (k + 1) n (gx_up (gx_up (gx_up (gx_up τ 110 (60 + k) (τ 135 k)) 110 (68 + k) (τ 136 k)) 110 (76 + k) (τ 137 k)) 110 (84 + k) (τ 138 k)) (by omega) (by omega)
    have c0 : k < 8 := by omega
    have c1 : 60 + k < 8880 := by omega
    have c2 : 68 + k < 8880 := by omega
    have c3 : 76 + k < 8880 := by omega
    have c4 : 84 + k < 8880 := by omega
    have c5 : ¬ 8 ≤ k := by omega
    refine ⟨τ', ?_, fun c z1 => by rw [q2 c z1, gx_up_ne z1, gx_up_ne z1, gx_up_ne z1, gx_up_ne z1], fun j => ?_⟩
    · simp (disch := omega) only [Md_keepsNow_14, Md_keepsNow_14_B, z_c0, z_c1, nI_leI, nI_ltI, nI_eq, ix_n, cl_n, nI_add, pk_mul, nI_1, n_lt0, n_0le, n_le0, n_0lt, n_eq0, n_1le, n_le1, n_lt1, n_1lt, n_eq1, n_m1, n_m1a, L_2, L_3, L_4, L_5, L_6, L_7, L_8, L_9, L_10, L_11, L_12, L_14, L_15, L_16, L_17, L_18, L_20, L_21, L_24, L_26, L_30, L_32, L_34, L_35, L_36, L_37, L_38, L_39, L_40, L_41, L_42, L_43, L_44, L_45, L_46, L_47, L_48, L_57, L_59, L_60, L_61, L_62, L_64, L_65, L_68, L_76, L_80, L_84, L_90, L_92, L_96, L_97, L_98, L_99, L_100, L_104, L_122, L_139, L_140, L_162, L_163, L_164, L_200, L_241, L_255, L_256, L_280, L_284, L_300, L_301, L_303, L_309, L_360, L_400, L_401, L_402, L_403, L_404, L_405, L_406, L_407, L_408, L_999, L_1600, L_3120, L_8596, L_8880, L_9999, L_10000, L_30211, L_99999, L_1000000, up_c, c0, c1, c2, c3, c4, c5, w_bd, w_ck, bI_0, bI_1, bI_bo, bo_0, bo_1, decide_true, decide_false, if_true, if_false, ite_true, ite_false, not_true_eq_false, not_false_eq_true, Bool.true_eq_false, Bool.false_eq_true]
      exact q1
    · rw [q3 j]
      simp (disch := omega) only [up_c, up_row]
      by_cases e1 : j = 60 + k
      · subst e1; grind
      · by_cases e2 : j = 68 + k
        · subst e2; grind
        · by_cases e3 : j = 76 + k
          · subst e3; grind
          · by_cases e4 : j = 84 + k
            · subst e4; grind
            · grind
theorem keep61 : ∀ m k n τ, k + m = 6 → m < n → ∃ τ', Md_keepsNow_61 n (nI k) τ = Md_keepsNow_76 τ' ∧ (∀ c, c ≠ 110 → τ' c = τ c) ∧ ∀ j, τ' 110 j = if 92 + k ≤ j ∧ j < 98 then τ 139 (j - 92) else τ 110 j := by
  intro m
  induction m with
  | zero =>
    intro k n τ hk hn
    obtain ⟨n, rfl⟩ : ∃ q, n = q + 1 := ⟨n - 1, by omega⟩
    have e : k = 6 := by omega
    subst e
    refine ⟨τ, by rw [Md_keepsNow_61, Md_keepsNow_61_B, if_pos (by decide)], fun _ _ => rfl, fun j => ?_⟩
    rw [if_neg (by omega)]
  | succ m ih =>
    intro k n τ hk hn
    obtain ⟨n, rfl⟩ : ∃ q, n = q + 1 := ⟨n - 1, by omega⟩
    obtain ⟨τ', q1, q2, q3⟩ := ih (k + 1) n (gx_up τ 110 (92 + k) (τ 139 k)) (by omega) (by omega)
    have c0 : k < 6 := by omega
    have c1 : 92 + k < 8880 := by omega
    have c5 : ¬ 6 ≤ k := by omega
    refine ⟨τ', ?_, fun c z1 => by rw [q2 c z1, gx_up_ne z1], fun j => ?_⟩
    · simp (disch := omega) only [Md_keepsNow_61, Md_keepsNow_61_B, z_c0, z_c1, nI_leI, nI_ltI, nI_eq, ix_n, cl_n, nI_add, pk_mul, nI_1, n_lt0, n_0le, n_le0, n_0lt, n_eq0, n_1le, n_le1, n_lt1, n_1lt, n_eq1, n_m1, n_m1a, L_2, L_3, L_4, L_5, L_6, L_7, L_8, L_9, L_10, L_11, L_12, L_14, L_15, L_16, L_17, L_18, L_20, L_21, L_24, L_26, L_30, L_32, L_34, L_35, L_36, L_37, L_38, L_39, L_40, L_41, L_42, L_43, L_44, L_45, L_46, L_47, L_48, L_57, L_59, L_60, L_61, L_62, L_64, L_65, L_68, L_76, L_80, L_84, L_90, L_92, L_96, L_97, L_98, L_99, L_100, L_104, L_122, L_139, L_140, L_162, L_163, L_164, L_200, L_241, L_255, L_256, L_280, L_284, L_300, L_301, L_303, L_309, L_360, L_400, L_401, L_402, L_403, L_404, L_405, L_406, L_407, L_408, L_999, L_1600, L_3120, L_8596, L_8880, L_9999, L_10000, L_30211, L_99999, L_1000000, c0, c1, c5, w_bd, w_ck, bI_0, bI_1, bI_bo, bo_0, bo_1, decide_true, decide_false, if_true, if_false, ite_true, ite_false, not_true_eq_false, not_false_eq_true, Bool.true_eq_false, Bool.false_eq_true]
      exact q1
    · rw [q3 j]
      simp (disch := omega) only [up_c, up_row]
      by_cases e1 : j = 92 + k
      · subst e1; grind
      · grind
theorem keep78 : ∀ m k n τ, k + m = 64 → m < n → ∃ τ', Md_keepsNow_78 n (nI k) τ = some ((), τ') ∧ (∀ c, c ≠ 110 → τ' c = τ c) ∧ ∀ j, τ' 110 j = if 98 + k ≤ j ∧ j < 162 then τ 140 (j - 98) else τ 110 j := by
  intro m
  induction m with
  | zero =>
    intro k n τ hk hn
    obtain ⟨n, rfl⟩ : ∃ q, n = q + 1 := ⟨n - 1, by omega⟩
    have e : k = 64 := by omega
    subst e
    refine ⟨τ, by rw [Md_keepsNow_78, Md_keepsNow_78_B, if_pos (by decide)], fun _ _ => rfl, fun j => ?_⟩
    rw [if_neg (by omega)]
  | succ m ih =>
    intro k n τ hk hn
    obtain ⟨n, rfl⟩ : ∃ q, n = q + 1 := ⟨n - 1, by omega⟩
    obtain ⟨τ', q1, q2, q3⟩ := ih (k + 1) n (gx_up τ 110 (98 + k) (τ 140 k)) (by omega) (by omega)
    have c0 : k < 64 := by omega
    have c1 : 98 + k < 8880 := by omega
    have c5 : ¬ 64 ≤ k := by omega
    refine ⟨τ', ?_, fun c z1 => by rw [q2 c z1, gx_up_ne z1], fun j => ?_⟩
    · simp (disch := omega) only [Md_keepsNow_78, Md_keepsNow_78_B, z_c0, z_c1, nI_leI, nI_ltI, nI_eq, ix_n, cl_n, nI_add, pk_mul, nI_1, n_lt0, n_0le, n_le0, n_0lt, n_eq0, n_1le, n_le1, n_lt1, n_1lt, n_eq1, n_m1, n_m1a, L_2, L_3, L_4, L_5, L_6, L_7, L_8, L_9, L_10, L_11, L_12, L_14, L_15, L_16, L_17, L_18, L_20, L_21, L_24, L_26, L_30, L_32, L_34, L_35, L_36, L_37, L_38, L_39, L_40, L_41, L_42, L_43, L_44, L_45, L_46, L_47, L_48, L_57, L_59, L_60, L_61, L_62, L_64, L_65, L_68, L_76, L_80, L_84, L_90, L_92, L_96, L_97, L_98, L_99, L_100, L_104, L_122, L_139, L_140, L_162, L_163, L_164, L_200, L_241, L_255, L_256, L_280, L_284, L_300, L_301, L_303, L_309, L_360, L_400, L_401, L_402, L_403, L_404, L_405, L_406, L_407, L_408, L_999, L_1600, L_3120, L_8596, L_8880, L_9999, L_10000, L_30211, L_99999, L_1000000, c0, c1, c5, w_bd, w_ck, bI_0, bI_1, bI_bo, bo_0, bo_1, decide_true, decide_false, if_true, if_false, ite_true, ite_false, not_true_eq_false, not_false_eq_true, Bool.true_eq_false, Bool.false_eq_true]
      exact q1
    · rw [q3 j]
      simp (disch := omega) only [up_c, up_row]
      by_cases e1 : j = 98 + k
      · subst e1; grind
      · grind
theorem keepsNow_v (τ : gx_R) : ∃ τ', Md_keepsNow τ = some ((), τ') ∧ (∀ c, c ≠ 110 → τ' c = τ c) ∧ (∀ j, ¬ (60 ≤ j ∧ j < 164) → τ' 110 j = τ 110 j) ∧ ∀ i, i < 104 → τ' 110 (60 + i) = nuM τ i := by
  obtain ⟨τ1, q1, q2, q3⟩ := keep14 8 0 z_FU (gx_up (gx_up τ 110 162 (τ 109 42)) 110 163 (τ 109 43)) (by omega) (Nat.lt_of_lt_of_le (by decide) z_FU_ge)
  obtain ⟨τ2, q4, q5, q6⟩ := keep61 6 0 z_FU τ1 (by omega) (Nat.lt_of_lt_of_le (by decide) z_FU_ge)
  obtain ⟨τ3, q7, q8, q9⟩ := keep78 64 0 z_FU τ2 (by omega) (Nat.lt_of_lt_of_le (by decide) z_FU_ge)
  have e1 : ∀ c, c ≠ 110 → τ1 c = τ c := fun c z1 => by rw [q2 c z1, gx_up_ne z1, gx_up_ne z1]
  have g : ∀ c, c ≠ 110 → gx_up (gx_up τ 110 162 (τ 109 42)) 110 163 (τ 109 43) c = τ c := fun c z1 => by rw [gx_up_ne z1, gx_up_ne z1]
  refine ⟨τ3, ?_, fun c z1 => by rw [q8 c z1, q5 c z1, e1 c z1], fun j z1 => ?_, fun i hi => ?_⟩
  · have e : Md_keepsNow τ = Md_keepsNow_14 z_FU (nI 0) (gx_up (gx_up τ 110 162 (τ 109 42)) 110 163 (τ 109 43)) := rfl
    rw [e, q1]
    exact q4.trans q7
  · rw [q9, if_neg (by omega), q6, if_neg (by omega), q3, if_neg (by omega), if_neg (by omega), if_neg (by omega), if_neg (by omega), up_p _ _ _ (by omega), up_p _ _ _ (by omega)]
  · rw [q9, q6, q3]
    by_cases h8 : i < 8
    · have e : nuM τ i = τ 135 i := by unfold nuM; rw [if_pos h8]
      rw [e, if_neg (by omega), if_neg (by omega), if_pos (by omega), g 135 (by omega)]; congr 1; omega
    · by_cases h16 : i < 16
      · have e : nuM τ i = τ 136 (i - 8) := by unfold nuM; rw [if_neg h8, if_pos h16]
        rw [e, if_neg (by omega), if_neg (by omega), if_neg (by omega), if_pos (by omega), g 136 (by omega)]; congr 1; omega
      · by_cases h24 : i < 24
        · have e : nuM τ i = τ 137 (i - 16) := by unfold nuM; rw [if_neg h8, if_neg h16, if_pos h24]
          rw [e, if_neg (by omega), if_neg (by omega), if_neg (by omega), if_neg (by omega), if_pos (by omega), g 137 (by omega)]; congr 1; omega
        · by_cases h32 : i < 32
          · have e : nuM τ i = τ 138 (i - 24) := by unfold nuM; rw [if_neg h8, if_neg h16, if_neg h24, if_pos h32]
            rw [e, if_neg (by omega), if_neg (by omega), if_neg (by omega), if_neg (by omega), if_neg (by omega), if_pos (by omega), g 138 (by omega)]; congr 1; omega
          · by_cases h38 : i < 38
            · have e : nuM τ i = τ 139 (i - 32) := by unfold nuM; rw [if_neg h8, if_neg h16, if_neg h24, if_neg h32, if_pos h38]
              rw [e, if_neg (by omega), if_pos (by omega), e1 139 (by omega)]; congr 1; omega
            · by_cases h102 : i < 102
              · have e : nuM τ i = τ 140 (i - 38) := by unfold nuM; rw [if_neg h8, if_neg h16, if_neg h24, if_neg h32, if_neg h38, if_pos h102]
                rw [e, if_pos (by omega), q5 140 (by omega), e1 140 (by omega)]; congr 1; omega
              · rw [if_neg (by omega), if_neg (by omega), if_neg (by omega), if_neg (by omega), if_neg (by omega), if_neg (by omega)]
                rcases (show i = 102 ∨ i = 103 by omega) with rfl | rfl
                · rw [up_p _ _ _ (by omega), up_e, mu_h]
                · rw [up_e, mu_x]
theorem bt_n (n : Nat) {i : Nat} (hi : i < 32) : bt (nI n) i = n.testBit i := by
  show (BitVec.ofNat 32 n).getLsbD i = _
  rw [BitVec.getLsbD_ofNat, decide_eq_true hi, Bool.true_and]
theorem tb_f {r i : Nat} (hr : r < 256) (hi : 8 ≤ i) : r.testBit i = false := Nat.testBit_lt_two_pow (Nat.lt_of_lt_of_le hr (Nat.pow_le_pow_right (n := 2) (by omega) hi))
theorem log_v {r t l : Nat} (hr : r < 256) (ht : t < 256) (hl : l < 256) : (nI r ||| (nI t <<< ((8 : Int32) &&& 31))) ||| (nI l <<< ((16 : Int32) &&& 31)) = nI (r + 256 * t + 65536 * l) := by
  apply b_ext
  intro i hi
  rw [b_or, b_or, b_shl8 _ hi, b_shl16 _ hi, bt_n _ hi, bt_n _ hi, bt_n _ (show i - 8 < 32 by omega), bt_n _ (show i - 16 < 32 by omega)]
  rw [show r + 256 * t + 65536 * l = 2 ^ 8 * (2 ^ 8 * l + t) + r by omega, Nat.testBit_two_pow_mul_add _ (show r < 2 ^ 8 from hr)]
  by_cases h1 : i < 8
  · rw [if_pos h1, decide_eq_false (show ¬ 8 ≤ i by omega), decide_eq_false (show ¬ 16 ≤ i by omega)]; simp
  · rw [if_neg h1, Nat.testBit_two_pow_mul_add _ (show t < 2 ^ 8 from ht), tb_f hr (by omega), decide_eq_true (show 8 ≤ i by omega)]
    by_cases h2 : i - 8 < 8
    · rw [if_pos h2, decide_eq_false (show ¬ 16 ≤ i by omega)]; simp
    · rw [if_neg h2, tb_f ht (by omega), decide_eq_true (show 16 ≤ i by omega), show i - 8 - 8 = i - 16 by omega]; simp
theorem pcN_le : ∀ m x, pcN m x ≤ m := by
  intro m
  induction m with
  | zero => intro x; simp [pcN]
  | succ m ih => intro x; have := ih (x / 2); simp only [pcN]; omega
theorem pcN_8 (x : Nat) : pcN 8 x ≤ 8 := pcN_le 8 x
theorem hour_v {σ τ : gx_R} {P W H K T : Nat} (r : ValleyR σ 1 (τ 110) P W H K T) (ht : ∀ t, t < T → TextR σ τ t) (hH : H ≤ 998) : ∃ v σ' τ', v ≤ 8 ∧ (∀ K8 a1 a2 a4 a5, Sf_passHours_25 K8 a1 a2 a4 a5 σ = K8 a1 a2 (a4 + nI v) (a5 + 1) σ') ∧ Md_hourDone τ = some (nI v, τ') ∧ ValleyR σ' 1 (τ' 110) P W (H + 1) K T ∧ keepC σ σ' ∧ keepM τ τ' ∧ ∀ t, t < T → TextR σ' τ' t := by
  have hE0 := EnvR_of r ht
  obtain ⟨τ1, u1, hN, u3, u4⟩ := lays_R r
  have hP := r.1.1.1
  have hE : EnvR σ τ1 P W T := EnvR_fr (eC_rf σ) ⟨fun i _ => by rw [u3 110 (by omega) (by omega)], fun k z1 z2 => u3 k (by omega) (by omega)⟩ hE0
  obtain ⟨x, y, l, σ2, τ2, hx, hy, hl, v1, v2, hE2, hN2, ⟨v3, v4, v5⟩, ⟨v6, v7, v8⟩, v9, v10, -, -⟩ := pass_v (Or.inl rfl) (by omega) hE hN
  obtain ⟨q1, q2, q3, q4, ⟨O, q5, q6⟩, ⟨q7, q8⟩, ⟨q9, q10, q11⟩, q12, q13⟩ := r
  have q5 : σ 16 1 = nI O := q5
  have q7 : σ 16 2 = nI K := q7
  have q6 : StepsR (σ 17) (σ 18) (σ 7) (τ 110) P W H K O := q6
  have q4 : KeptR (σ 18) (fun i => τ 110 (60 + i)) H := q4
  obtain ⟨hK, hO, hs, s1, s2⟩ := q6
  have c1 : σ 9 6 = nI H := q2.2.2.2.2.2.1.2.2
  have c2 : τ 110 162 = nI H := by rw [← c1]; exact q2.2.2.2.2.2.1.1
  have a2 : τ2 110 = τ 110 := by rw [v10.1 110 (by omega) (by omega), u3 110 (by omega) (by omega)]
  have hm : H % 60 < 60 := Nat.mod_lt _ (by omega)
  have d3 : nI H - nI H / 60 * 60 = nI (H % 60) := by
    rw [show (60 : Int32) = nI 60 from rfl, pk_div (by omega) (by omega) (by omega), pk_mul, pk_sub (by omega)]; congr 1; omega
  have d4 : (164 : Int32) + 3 * nI (H % 60) = nI (164 + 3 * (H % 60)) := by
    rw [show (164 : Int32) = nI 164 from rfl, show (3 : Int32) = nI 3 from rfl, pk_mul, nI_add]
  have d5 : nI (164 + 3 * (H % 60)) + 2 = nI (164 + 3 * (H % 60) + 2) := nI_add _ 2
  have kh : Md_keepsHour τ2 = some ((), gx_up (gx_up (gx_up τ2 110 (164 + 3 * (H % 60)) (nI x)) 110 (164 + 3 * (H % 60) + 1) (nI y)) 110 (164 + 3 * (H % 60) + 2) (nI l)) := by
    rw [Md_keepsHour, show (162 : Int32).toNatClampNeg = 162 from rfl, a2, c2, d3, d4, nI_1, d5, ix_t (show 164 + 3 * (H % 60) < 8880 by omega) (by omega), ix_t (show 164 + 3 * (H % 60) + 1 < 8880 by omega) (by omega), ix_t (show 164 + 3 * (H % 60) + 2 < 8880 by omega) (by omega), w_ck, w_ck, w_ck, cl_n (show 164 + 3 * (H % 60) < 2 ^ 31 by omega), cl_n (show 164 + 3 * (H % 60) + 1 < 2 ^ 31 by omega), cl_n (show 164 + 3 * (H % 60) + 2 < 2 ^ 31 by omega)]
    simp (disch := omega) only [up_c, v6, v7, v8]
  obtain ⟨τ4, w1, w2, w3, w4⟩ := keepsNow_v (gx_up (gx_up (gx_up τ2 110 (164 + 3 * (H % 60)) (nI x)) 110 (164 + 3 * (H % 60) + 1) (nI y)) 110 (164 + 3 * (H % 60) + 2) (nI l))
  have cS : ∀ c, ¬ (51 ≤ c ∧ c ≤ 55) → ¬ (9 ≤ c ∧ c ≤ 15) → c ≠ 18 → gx_up σ2 18 H (nI (x + 256 * y + 65536 * l)) c = σ c := fun c z1 z2 z3 => by rw [gx_up_ne z3, v9 c z1 z2]
  have aM : ∀ j, ¬ (60 ≤ j ∧ j < 164) → ¬ (164 + 3 * (H % 60) ≤ j ∧ j ≤ 164 + 3 * (H % 60) + 2) → τ4 110 j = τ 110 j := fun j z1 z2 => by rw [w3 j z1, up_p _ _ _ (by omega), up_p _ _ _ (by omega), up_p _ _ _ (by omega), a2]
  have hpc : pcN 8 x ≤ 8 := pcN_8 x
  have kC : keepC σ (gx_up σ2 18 H (nI (x + 256 * y + 65536 * l))) := fun c z1 z2 => cS c (by omega) (by omega) (by omega)
  have kM : keepM τ τ4 := by
    have g : ∀ c, c ≠ 110 → τ4 c = τ2 c := fun c z => by rw [w2 c z, gx_up_ne z, gx_up_ne z, gx_up_ne z]
    refine ⟨fun c z => by rw [g c (by omega), v10.1 c (by omega) (by omega), u3 c (by omega) (by omega)], fun j hj => by rw [g 109 (by omega), v10.2 j hj, u4 j (by omega) (by omega)]⟩
  refine ⟨pcN 8 x, gx_up σ2 18 H (nI (x + 256 * y + 65536 * l)), τ4, hpc, ?_, ?_, ?_, kC, kM, fun t htT => TextR_fr (fun k z1 z2 => kC k (by omega) (by omega)) (fun k z1 z2 => kM.1 k (by omega)) (by omega) (ht t htT)⟩
  · intro K8 a1 a2 a4 a5
    rw [Sf_passHours_25, v1, w_bd, c1, ix_t (show H < 999 by omega) (by omega), w_ck, cl_n (by omega), v3, v4, v5, log_v hx hy hl, gx_up_ne (show (53 : Nat) ≠ 18 by omega), v3, bitCount_v hx, w_bd]
  · rw [Md_hourDone, u1, w_bd, v2, w_bd, kh, w_bd, w1, w_bd]
  · have n1 := (NowR_iff hP).mpr hN2
    refine ⟨?_, ?_, by omega, ?_, ⟨O, ?_, ?_⟩, ⟨?_, ?_⟩, ⟨?_, ?_, q11⟩, ?_, ?_⟩
    · show FolkR (gx_up σ2 18 H (nI (x + 256 * y + 65536 * l)) 2 0) (gx_up σ2 18 H (nI (x + 256 * y + 65536 * l)) 2 1) (gx_up σ2 18 H (nI (x + 256 * y + 65536 * l)) 3) (gx_up σ2 18 H (nI (x + 256 * y + 65536 * l)) 4) (gx_up σ2 18 H (nI (x + 256 * y + 65536 * l)) 5) (gx_up σ2 18 H (nI (x + 256 * y + 65536 * l)) 6) (gx_up σ2 18 H (nI (x + 256 * y + 65536 * l)) 7) (gx_up σ2 18 H (nI (x + 256 * y + 65536 * l)) 8) (τ4 110) P W
      rw [cS 2 (by omega) (by omega) (by omega), cS 3 (by omega) (by omega) (by omega), cS 4 (by omega) (by omega) (by omega), cS 5 (by omega) (by omega) (by omega), cS 6 (by omega) (by omega) (by omega), cS 7 (by omega) (by omega) (by omega), cS 8 (by omega) (by omega) (by omega)]
      exact FolkR_cong rfl rfl (fun _ _ => rfl) (fun _ _ => rfl) (fun _ _ => rfl) (fun _ _ => rfl) (fun _ _ => rfl) (fun _ _ => rfl) (fun i hi => aM i (by omega) (by omega)) q1
    · show NightR (nuC (gx_up σ2 18 H (nI (x + 256 * y + 65536 * l))) 9) (fun i => τ4 110 (60 + i)) (gx_up σ2 18 H (nI (x + 256 * y + 65536 * l)) 7) P W (H + 1)
      rw [nuC_fr (σ := σ2) (fun k z1 z2 => gx_up_ne (by omega)), gx_up_ne (show (7 : Nat) ≠ 18 by omega)]
      refine NightR_cong hP (fun _ _ => rfl) (fun i hi => ?_) (fun _ _ => rfl) n1
      rw [w4 i hi]
      unfold nuM
      simp (disch := omega) only [gx_up_ne]
    · show KeptR (gx_up σ2 18 H (nI (x + 256 * y + 65536 * l)) 18) (fun i => τ4 110 (60 + i)) (H + 1)
      intro h y1 y2
      by_cases e : h = H
      · subst e
        have b1 : τ4 110 (60 + (104 + 3 * (h % 60))) = nI x := by rw [w3 _ (by omega), up_p _ _ _ (by omega), up_p _ _ _ (by omega), show 60 + (104 + 3 * (h % 60)) = 164 + 3 * (h % 60) by omega, up_e]
        have b2 : τ4 110 (60 + (104 + 3 * (h % 60) + 1)) = nI y := by rw [w3 _ (by omega), up_p _ _ _ (by omega), show 60 + (104 + 3 * (h % 60) + 1) = 164 + 3 * (h % 60) + 1 by omega, up_e]
        have b3 : τ4 110 (60 + (104 + 3 * (h % 60) + 2)) = nI l := by rw [w3 _ (by omega), show 60 + (104 + 3 * (h % 60) + 2) = 164 + 3 * (h % 60) + 2 by omega, up_e]
        exact ⟨x, y, l, hx, hy, hl, up_e _ _ _ _, b1, b2, b3⟩
      · obtain ⟨x', y', l', z1, z2, z3, z4, z5, z6, z7⟩ := q4 h (by omega) (by omega)
        have e2 : h % 60 ≠ H % 60 := by omega
        have e3 : h % 60 < 60 := Nat.mod_lt _ (by omega)
        have b1 : τ4 110 (60 + (104 + 3 * (h % 60))) = nI x' := by rw [aM _ (by omega) (by omega)]; exact z5
        have b2 : τ4 110 (60 + (104 + 3 * (h % 60) + 1)) = nI y' := by rw [aM _ (by omega) (by omega)]; exact z6
        have b3 : τ4 110 (60 + (104 + 3 * (h % 60) + 2)) = nI l' := by rw [aM _ (by omega) (by omega)]; exact z7
        exact ⟨x', y', l', z1, z2, z3, by rw [up_p _ _ _ e, v9 18 (by omega) (by omega)]; exact z4, b1, b2, b3⟩
    · show gx_up σ2 18 H (nI (x + 256 * y + 65536 * l)) 16 1 = nI O
      rw [cS 16 (by omega) (by omega) (by omega)]; exact q5
    · show StepsR (gx_up σ2 18 H (nI (x + 256 * y + 65536 * l)) 17) (gx_up σ2 18 H (nI (x + 256 * y + 65536 * l)) 18) (gx_up σ2 18 H (nI (x + 256 * y + 65536 * l)) 7) (τ4 110) P W (H + 1) K O
      rw [cS 17 (by omega) (by omega) (by omega), cS 7 (by omega) (by omega) (by omega)]
      refine ⟨hK, hO, hs, fun k hk => ?_, s2⟩
      obtain ⟨z1, z2, z3⟩ := s1 k hk
      exact ⟨NightR_cong hP (fun _ _ => rfl) (fun i hi => aM _ (by omega) (by omega)) (fun _ _ => rfl) z1, KeptR_cong (fun i hi => by rw [up_p _ _ _ (by omega), v9 18 (by omega) (by omega)]) (fun i y1 y2 => aM _ (by omega) (by omega)) z2, by omega⟩
    · show gx_up σ2 18 H (nI (x + 256 * y + 65536 * l)) 16 2 = nI K
      rw [cS 16 (by omega) (by omega) (by omega)]; exact q7
    · rw [aM 4 (by omega) (by omega)]; exact q8
    · rw [cS 1 (by omega) (by omega) (by omega)]; exact q9
    · rw [aM 2 (by omega) (by omega)]; exact q10
    · rw [aM 3 (by omega) (by omega), cS 1 (by omega) (by omega) (by omega)]; exact q12
    · rw [cS 1 (by omega) (by omega) (by omega)]; exact q13
