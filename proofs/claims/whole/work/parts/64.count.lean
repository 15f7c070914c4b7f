/-! ===== how many are in a set ===== -/
def pcN : Nat → Nat → Nat
  | 0, _ => 0
  | m + 1, x => x % 2 + pcN m (x / 2)
theorem pcN_0 : ∀ m, pcN m 0 = 0
  | 0 => rfl
  | m + 1 => by rw [pcN, Nat.zero_div, pcN_0 m]
theorem bitCount_v {x : Nat} (hx : x < 256) (σ : gx_R) : Jd_bitCount (nI x) σ = some (nI (pcN 8 x), σ) := by
  have : ∀ x, x < 256 → (Jd_bitCount (nI x) (fun _ _ => 0)).map Prod.fst = some (nI (pcN 8 x)) := by decide +kernel
  have h := this x hx
  unfold Jd_bitCount at h ⊢
  exact congrArg (fun v => some (v, σ)) (Option.some.inj h)
theorem many_L (τ : gx_R) : ∀ m x acc n, x < 2 ^ m → m ≤ 8 → m < n → acc + m < 2 ^ 20 → Md_many_4 n (nI acc) (nI x) τ = some (nI (acc + pcN m x), τ) := by
  intro m
  induction m with
  | zero =>
    intro x acc n hx hm hn ha
    obtain ⟨n, rfl⟩ : ∃ q, n = q + 1 := ⟨n - 1, by omega⟩
    obtain rfl : x = 0 := by omega
    rw [Md_many_4, Md_many_4_B, if_pos (show nI 0 = 0 from rfl)]
    rfl
  | succ m ih =>
    intro x acc n hx hm hn ha
    obtain ⟨n, rfl⟩ : ∃ q, n = q + 1 := ⟨n - 1, by omega⟩
    have hx8 : x < 2 ^ 31 := Nat.lt_of_lt_of_le hx (Nat.pow_le_pow_right (by omega) (by omega))
    by_cases h0 : x = 0
    · subst h0
      rw [Md_many_4, Md_many_4_B, if_pos (show nI 0 = 0 from rfl), pcN_0]
      rfl
    · rw [Md_many_4, Md_many_4_B, if_neg (nI_ne0 (by omega) hx8), pk_andN (by omega) (m := 1) 1 (by decide), pk_shrN hx8 _ 1 (by decide), nI_add]
      have := ih (x / 2) (acc + x % 2 ^ 1) n (by rw [Nat.pow_succ] at hx; omega) (by omega) (by omega) (by omega)
      rw [show x / 2 ^ 1 = x / 2 by rw [Nat.pow_one], this, pcN]
      congr 3
      omega
theorem many_v {x : Nat} (hx : x < 256) (τ : gx_R) : Md_many (nI x) τ = some (nI (pcN 8 x), τ) := by
  have := many_L τ 8 x 0 z_FU hx (by omega) (Nat.lt_of_lt_of_le (by decide) z_FU_ge) (by omega)
  rw [Nat.zero_add] at this
  exact this
theorem set_n {x : Int32} (h : ∀ i, i < 32 → bt x i = true → i < 8) : ∃ k, k < 256 ∧ x = nI k := by
  have e : x &&& 255 = x := by
    apply b_ext
    intro i hi
    rw [b_and, b_255]
    cases hb : bt x i with
    | true => rw [decide_eq_true (h i hi hb)]; rfl
    | false => rfl
  obtain ⟨k, hk, hk2⟩ := pk_andE x (m := 255) 8 (by decide)
  exact ⟨k, hk, by rw [← hk2, e]⟩
theorem set_b {k : Nat} (hk : k < 256) {i : Nat} (hi : i < 32) (h : bt (nI k) i = true) : i < 8 := by
  have e : nI k &&& 255 = nI k := by
    rw [pk_andN (by omega) (m := 255) 8 (by decide)]
    congr 1
    exact Nat.mod_eq_of_lt hk
  have := congrArg (fun z => bt z i) e
  simp only [b_and, b_255, h, Bool.true_and] at this
  exact of_decide_eq_true this
/-! ===== an hour passes, in both ===== -/
theorem on_C {b : Nat} : ∀ m k n σ, k + m = 8 → m < n → ∃ σ', Cl_pass_94 n b (nI k) σ = some ((), σ') ∧ (∀ c, c ≠ b → c ≠ b + 3 → σ' c = σ c) ∧ (∀ j, j ≠ 6 → σ' b j = σ b j) ∧ σ' b 6 = σ b 6 + 1 ∧ ∀ p, σ' (b + 3) p = if k ≤ p ∧ p < 8 ∧ σ (b + 1) p ≠ 0 then σ (b + 3) p + 1 else σ (b + 3) p := by
  intro m
  induction m with
  | zero =>
    intro k n σ hk hn
    obtain ⟨n, rfl⟩ : ∃ q, n = q + 1 := ⟨n - 1, by omega⟩
    obtain rfl : k = 8 := by omega
    refine ⟨gx_up σ b 6 (σ b 6 + 1), ?_, fun c h1 h2 => gx_up_ne h1, fun j h => up_p _ _ _ h, up_e _ _ _ _, fun p => by rw [gx_up_ne (by omega), if_neg (by omega)]⟩
    simp (disch := omega) only [Cl_pass_94, Cl_pass_94_B, Cl_pass_112, z_c0, z_c1, nI_leI, nI_ltI, nI_eq, ix_n, cl_n, nI_add, pk_mul, nI_1, n_lt0, n_0le, n_le0, n_0lt, n_eq0, n_1le, n_le1, n_lt1, n_1lt, n_eq1, n_m1, n_m1a, L_2, L_3, L_4, L_5, L_6, L_7, L_8, L_9, L_10, L_11, L_12, L_14, L_15, L_16, L_17, L_18, L_20, L_21, L_24, L_26, L_30, L_32, L_34, L_35, L_36, L_37, L_38, L_39, L_40, L_41, L_42, L_43, L_44, L_45, L_46, L_47, L_48, L_57, L_59, L_60, L_61, L_62, L_64, L_65, L_68, L_76, L_80, L_84, L_90, L_92, L_96, L_97, L_98, L_99, L_100, L_104, L_122, L_139, L_140, L_162, L_163, L_164, L_200, L_241, L_255, L_256, L_280, L_284, L_300, L_301, L_303, L_309, L_360, L_400, L_401, L_402, L_403, L_404, L_405, L_406, L_407, L_408, L_999, L_1600, L_3120, L_8596, L_8880, L_9999, L_10000, L_30211, L_99999, L_1000000, Nat.le_refl, w_bd, w_ck, bI_0, bI_1, bI_bo, bo_0, bo_1, decide_true, decide_false, if_true, if_false, ite_true, ite_false, not_true_eq_false, not_false_eq_true, Bool.true_eq_false, Bool.false_eq_true]
  | succ m ih =>
    intro k n σ hk hn
    obtain ⟨n, rfl⟩ : ∃ q, n = q + 1 := ⟨n - 1, by omega⟩
    have c1 : ¬ 8 ≤ k := by omega
    have c2 : k < 8 := by omega
    by_cases h : σ (b + 1) k = 0
    · obtain ⟨σ', q1, q2, q3, q4, q5⟩ := ih (k + 1) n σ (by omega) (by omega)
      refine ⟨σ', ?_, q2, q3, q4, fun p => ?_⟩
      · simp (disch := omega) only [Cl_pass_94, Cl_pass_94_B, Cl_pass_110, h, z_c0, z_c1, nI_leI, nI_ltI, nI_eq, ix_n, cl_n, nI_add, pk_mul, nI_1, n_lt0, n_0le, n_le0, n_0lt, n_eq0, n_1le, n_le1, n_lt1, n_1lt, n_eq1, n_m1, n_m1a, L_2, L_3, L_4, L_5, L_6, L_7, L_8, L_9, L_10, L_11, L_12, L_14, L_15, L_16, L_17, L_18, L_20, L_21, L_24, L_26, L_30, L_32, L_34, L_35, L_36, L_37, L_38, L_39, L_40, L_41, L_42, L_43, L_44, L_45, L_46, L_47, L_48, L_57, L_59, L_60, L_61, L_62, L_64, L_65, L_68, L_76, L_80, L_84, L_90, L_92, L_96, L_97, L_98, L_99, L_100, L_104, L_122, L_139, L_140, L_162, L_163, L_164, L_200, L_241, L_255, L_256, L_280, L_284, L_300, L_301, L_303, L_309, L_360, L_400, L_401, L_402, L_403, L_404, L_405, L_406, L_407, L_408, L_999, L_1600, L_3120, L_8596, L_8880, L_9999, L_10000, L_30211, L_99999, L_1000000, c1, c2, w_bd, w_ck, bI_0, bI_1, bI_bo, bo_0, bo_1, decide_true, decide_false, if_true, if_false, ite_true, ite_false, not_true_eq_false, not_false_eq_true, Bool.true_eq_false, Bool.false_eq_true]
        exact q1
      · rw [q5 p]
        by_cases e : p = k
        · subst e; rw [if_neg (by omega), if_neg (fun z => z.2.2 h)]
        · by_cases c : k + 1 ≤ p ∧ p < 8 ∧ σ (b + 1) p ≠ 0
          · rw [if_pos c, if_pos ⟨by omega, c.2⟩]
          · rw [if_neg c, if_neg (fun z => c ⟨by omega, z.2⟩)]
    · obtain ⟨σ', q1, q2, q3, q4, q5⟩ := ih (k + 1) n (gx_up σ (b + 3) k (σ (b + 3) k + 1)) (by omega) (by omega)
      refine ⟨σ', ?_, fun c h1 h2 => (q2 c h1 h2).trans (gx_up_ne h2), fun j hj => by rw [q3 j hj, gx_up_ne (by omega)], by rw [q4, gx_up_ne (by omega)], fun p => ?_⟩
      · simp (disch := omega) only [Cl_pass_94, Cl_pass_94_B, Cl_pass_110, h, z_c0, z_c1, nI_leI, nI_ltI, nI_eq, ix_n, cl_n, nI_add, pk_mul, nI_1, n_lt0, n_0le, n_le0, n_0lt, n_eq0, n_1le, n_le1, n_lt1, n_1lt, n_eq1, n_m1, n_m1a, L_2, L_3, L_4, L_5, L_6, L_7, L_8, L_9, L_10, L_11, L_12, L_14, L_15, L_16, L_17, L_18, L_20, L_21, L_24, L_26, L_30, L_32, L_34, L_35, L_36, L_37, L_38, L_39, L_40, L_41, L_42, L_43, L_44, L_45, L_46, L_47, L_48, L_57, L_59, L_60, L_61, L_62, L_64, L_65, L_68, L_76, L_80, L_84, L_90, L_92, L_96, L_97, L_98, L_99, L_100, L_104, L_122, L_139, L_140, L_162, L_163, L_164, L_200, L_241, L_255, L_256, L_280, L_284, L_300, L_301, L_303, L_309, L_360, L_400, L_401, L_402, L_403, L_404, L_405, L_406, L_407, L_408, L_999, L_1600, L_3120, L_8596, L_8880, L_9999, L_10000, L_30211, L_99999, L_1000000, c1, c2, w_bd, w_ck, bI_0, bI_1, bI_bo, bo_0, bo_1, decide_true, decide_false, if_true, if_false, ite_true, ite_false, not_true_eq_false, not_false_eq_true, Bool.true_eq_false, Bool.false_eq_true]
        exact q1
      · rw [q5 p, gx_up_ne (show b + 1 ≠ b + 3 by omega)]
        by_cases e : p = k
        · subst e; rw [if_neg (by omega), up_e, if_pos ⟨by omega, c2, h⟩]
        · rw [up_p _ _ _ e]
          by_cases c : k + 1 ≤ p ∧ p < 8 ∧ σ (b + 1) p ≠ 0
          · rw [if_pos c, if_pos ⟨by omega, c.2⟩]
          · rw [if_neg c, if_neg (fun z => c ⟨by omega, z.2⟩)]
theorem on_M {P : Nat} (hP : P ≤ 8) : ∀ m k n τ, k + m = P → m < n → τ 110 0 = nI P → ∃ τ', Md_hourGoes_91 n (nI k) τ = Md_hourGoes_114 τ' ∧ (∀ c, c ≠ 137 → τ' c = τ c) ∧ ∀ p, τ' 137 p = if k ≤ p ∧ p < P ∧ τ 135 p ≠ 0 then τ 137 p + 1 else τ 137 p := by
  intro m
  induction m with
  | zero =>
    intro k n τ hk hn h0
    obtain ⟨n, rfl⟩ : ∃ q, n = q + 1 := ⟨n - 1, by omega⟩
    obtain rfl : k = P := by omega
    refine ⟨τ, ?_, fun _ _ => rfl, fun p => by rw [if_neg (by omega)]⟩
    simp (disch := omega) only [Md_hourGoes_91, Md_hourGoes_91_B, h0, z_c0, z_c1, nI_leI, nI_ltI, nI_eq, ix_n, cl_n, nI_add, pk_mul, nI_1, n_lt0, n_0le, n_le0, n_0lt, n_eq0, n_1le, n_le1, n_lt1, n_1lt, n_eq1, n_m1, n_m1a, L_2, L_3, L_4, L_5, L_6, L_7, L_8, L_9, L_10, L_11, L_12, L_14, L_15, L_16, L_17, L_18, L_20, L_21, L_24, L_26, L_30, L_32, L_34, L_35, L_36, L_37, L_38, L_39, L_40, L_41, L_42, L_43, L_44, L_45, L_46, L_47, L_48, L_57, L_59, L_60, L_61, L_62, L_64, L_65, L_68, L_76, L_80, L_84, L_90, L_92, L_96, L_97, L_98, L_99, L_100, L_104, L_122, L_139, L_140, L_162, L_163, L_164, L_200, L_241, L_255, L_256, L_280, L_284, L_300, L_301, L_303, L_309, L_360, L_400, L_401, L_402, L_403, L_404, L_405, L_406, L_407, L_408, L_999, L_1600, L_3120, L_8596, L_8880, L_9999, L_10000, L_30211, L_99999, L_1000000, Nat.le_refl, w_bd, w_ck, bI_0, bI_1, bI_bo, bo_0, bo_1, decide_true, decide_false, if_true, if_false, ite_true, ite_false, not_true_eq_false, not_false_eq_true, Bool.true_eq_false, Bool.false_eq_true]
  | succ m ih =>
    intro k n τ hk hn h0
    obtain ⟨n, rfl⟩ : ∃ q, n = q + 1 := ⟨n - 1, by omega⟩
    have c1 : ¬ P ≤ k := by omega
    have c2 : k < 8 := by omega
    by_cases h : τ 135 k = 0
    · obtain ⟨τ', q1, q2, q3⟩ := ih (k + 1) n (gx_up τ 137 k (τ 137 k + 0)) (by omega) (by omega) (by rw [gx_up_ne (by omega)]; exact h0)
      refine ⟨τ', ?_, fun c h1 => (q2 c h1).trans (gx_up_ne h1), fun p => ?_⟩
      · simp (disch := omega) only [Md_hourGoes_91, Md_hourGoes_91_B, Md_hourGoes_110, h, h0, z_c0, z_c1, nI_leI, nI_ltI, nI_eq, ix_n, cl_n, nI_add, pk_mul, nI_1, n_lt0, n_0le, n_le0, n_0lt, n_eq0, n_1le, n_le1, n_lt1, n_1lt, n_eq1, n_m1, n_m1a, L_2, L_3, L_4, L_5, L_6, L_7, L_8, L_9, L_10, L_11, L_12, L_14, L_15, L_16, L_17, L_18, L_20, L_21, L_24, L_26, L_30, L_32, L_34, L_35, L_36, L_37, L_38, L_39, L_40, L_41, L_42, L_43, L_44, L_45, L_46, L_47, L_48, L_57, L_59, L_60, L_61, L_62, L_64, L_65, L_68, L_76, L_80, L_84, L_90, L_92, L_96, L_97, L_98, L_99, L_100, L_104, L_122, L_139, L_140, L_162, L_163, L_164, L_200, L_241, L_255, L_256, L_280, L_284, L_300, L_301, L_303, L_309, L_360, L_400, L_401, L_402, L_403, L_404, L_405, L_406, L_407, L_408, L_999, L_1600, L_3120, L_8596, L_8880, L_9999, L_10000, L_30211, L_99999, L_1000000, c1, c2, w_bd, w_ck, bI_0, bI_1, bI_bo, bo_0, bo_1, decide_true, decide_false, if_true, if_false, ite_true, ite_false, not_true_eq_false, not_false_eq_true, Bool.true_eq_false, Bool.false_eq_true]
        exact q1
      · rw [q3 p, gx_up_ne (show 135 ≠ 137 by omega)]
        by_cases e : p = k
        · subst e; rw [if_neg (by omega), up_e, if_neg (fun z => z.2.2 h), Int32.add_zero]
        · rw [up_p _ _ _ e]
          by_cases c : k + 1 ≤ p ∧ p < P ∧ τ 135 p ≠ 0
          · rw [if_pos c, if_pos ⟨by omega, c.2⟩]
          · rw [if_neg c, if_neg (fun z => c ⟨by omega, z.2⟩)]
    · obtain ⟨τ', q1, q2, q3⟩ := ih (k + 1) n (gx_up τ 137 k (τ 137 k + 1)) (by omega) (by omega) (by rw [gx_up_ne (by omega)]; exact h0)
      refine ⟨τ', ?_, fun c h1 => (q2 c h1).trans (gx_up_ne h1), fun p => ?_⟩
      · simp (disch := omega) only [Md_hourGoes_91, Md_hourGoes_91_B, Md_hourGoes_110, h, h0, z_c0, z_c1, nI_leI, nI_ltI, nI_eq, ix_n, cl_n, nI_add, pk_mul, nI_1, n_lt0, n_0le, n_le0, n_0lt, n_eq0, n_1le, n_le1, n_lt1, n_1lt, n_eq1, n_m1, n_m1a, L_2, L_3, L_4, L_5, L_6, L_7, L_8, L_9, L_10, L_11, L_12, L_14, L_15, L_16, L_17, L_18, L_20, L_21, L_24, L_26, L_30, L_32, L_34, L_35, L_36, L_37, L_38, L_39, L_40, L_41, L_42, L_43, L_44, L_45, L_46, L_47, L_48, L_57, L_59, L_60, L_61, L_62, L_64, L_65, L_68, L_76, L_80, L_84, L_90, L_92, L_96, L_97, L_98, L_99, L_100, L_104, L_122, L_139, L_140, L_162, L_163, L_164, L_200, L_241, L_255, L_256, L_280, L_284, L_300, L_301, L_303, L_309, L_360, L_400, L_401, L_402, L_403, L_404, L_405, L_406, L_407, L_408, L_999, L_1600, L_3120, L_8596, L_8880, L_9999, L_10000, L_30211, L_99999, L_1000000, c1, c2, w_bd, w_ck, bI_0, bI_1, bI_bo, bo_0, bo_1, decide_true, decide_false, if_true, if_false, ite_true, ite_false, not_true_eq_false, not_false_eq_true, Bool.true_eq_false, Bool.false_eq_true]
        exact q1
      · rw [q3 p, gx_up_ne (show 135 ≠ 137 by omega)]
        by_cases e : p = k
        · subst e; rw [if_neg (by omega), up_e, if_pos ⟨by omega, by omega, h⟩]
        · rw [up_p _ _ _ e]
          by_cases c : k + 1 ≤ p ∧ p < P ∧ τ 135 p ≠ 0
          · rw [if_pos c, if_pos ⟨by omega, c.2⟩]
          · rw [if_neg c, if_neg (fun z => c ⟨by omega, z.2⟩)]
