/-! ===== who dreams what, who runs ===== -/
theorem NowR_l {b : Nat} (hb : b = 9 ∨ b = 56) {σ σ1 τ τ1 : gx_R} {nd : gx_F} {P W H : Nat} (q3 : lC σ σ1) (q4 : lM τ τ1) (hN : NowR b σ τ nd P W H) : NowR b σ1 τ1 nd P W H := by
  unfold NowR at hN ⊢
  rw [q3 b (by omega) (by omega), q3 (b + 1) (by omega) (by omega), q3 (b + 2) (by omega) (by omega), q3 (b + 3) (by omega) (by omega), q3 (b + 4) (by omega) (by omega), q3 (b + 5) (by omega) (by omega), q3 (b + 6) (by omega) (by omega), q4 135 (by omega) (by omega), q4 136 (by omega) (by omega), q4 137 (by omega) (by omega), q4 138 (by omega) (by omega), q4 139 (by omega) (by omega), q4 140 (by omega) (by omega), q4 109 (by omega) (by omega)]
  exact hN
theorem NowR_fr {b : Nat} {σ σ1 τ τ1 : gx_R} {nd : gx_F} {P W H : Nat} (h : ∀ c, b ≤ c → c ≤ b + 6 → σ1 c = σ c) (h2 : ∀ c, 135 ≤ c → c ≤ 140 → τ1 c = τ c) (h3 : τ1 109 42 = τ 109 42) (h4 : τ1 109 43 = τ 109 43) (hN : NowR b σ τ nd P W H) : NowR b σ1 τ1 nd P W H := by
  unfold NowR at hN ⊢
  rw [h b (by omega) (by omega), h (b + 1) (by omega) (by omega), h (b + 2) (by omega) (by omega), h (b + 3) (by omega) (by omega), h (b + 4) (by omega) (by omega), h (b + 5) (by omega) (by omega), h (b + 6) (by omega) (by omega), h2 135 (by omega) (by omega), h2 136 (by omega) (by omega), h2 137 (by omega) (by omega), h2 138 (by omega) (by omega), h2 139 (by omega) (by omega), h2 140 (by omega) (by omega), h3, h4]
  exact hN
theorem dream_t {b P : Nat} {σ : gx_R} (h : ∀ p, P ≤ p → p < 8 → σ (b + 1) p = 0) : ∀ m j n, j + m = 8 → P ≤ j → m < n → Cl_pass_13 n b (nI j) σ = Cl_pass_31 b σ := by
  intro m
  induction m with
  | zero =>
    intro j n hj hP hn
    obtain ⟨n, rfl⟩ : ∃ q, n = q + 1 := ⟨n - 1, by omega⟩
    obtain rfl : j = 8 := by omega
    simp (disch := omega) only [Cl_pass_13, Cl_pass_13_B, z_c0, z_c1, nI_leI, nI_ltI, nI_eq, ix_n, cl_n, nI_add, pk_mul, nI_1, n_lt0, n_0le, n_le0, n_0lt, n_eq0, n_1le, n_le1, n_lt1, n_1lt, n_eq1, n_m1, n_m1a, L_2, L_3, L_4, L_5, L_6, L_7, L_8, L_9, L_10, L_11, L_12, L_14, L_15, L_16, L_17, L_18, L_20, L_21, L_24, L_26, L_30, L_32, L_34, L_35, L_36, L_37, L_38, L_39, L_40, L_41, L_42, L_43, L_44, L_45, L_46, L_47, L_48, L_57, L_59, L_60, L_61, L_62, L_64, L_65, L_68, L_76, L_80, L_84, L_90, L_92, L_96, L_97, L_98, L_99, L_100, L_104, L_122, L_139, L_140, L_162, L_163, L_164, L_200, L_241, L_255, L_256, L_280, L_284, L_300, L_301, L_303, L_309, L_360, L_400, L_401, L_402, L_403, L_404, L_405, L_406, L_407, L_408, L_999, L_1600, L_3120, L_8596, L_8880, L_9999, L_10000, L_30211, L_99999, L_1000000, Nat.le_refl, w_bd, w_ck, bI_0, bI_1, bI_bo, bo_0, bo_1, decide_true, decide_false, if_true, if_false, ite_true, ite_false, not_true_eq_false, not_false_eq_true, Bool.true_eq_false, Bool.false_eq_true]
  | succ m ih =>
    intro j n hj hP hn
    obtain ⟨n, rfl⟩ : ∃ q, n = q + 1 := ⟨n - 1, by omega⟩
    have c1 : ¬ 8 ≤ j := by omega
    have c2 : j < 8 := by omega
    simp +decide (disch := omega) only [Cl_pass_13, Cl_pass_13_B, Cl_pass_29, h j hP c2, L_8, nI_leI, ix_n, cl_n, nI_1, c1, c2, w_bd, w_ck, bI_0, bI_1, bI_bo, bo_0, bo_1, decide_true, decide_false, if_true, if_false, ite_true, ite_false, not_true_eq_false, not_false_eq_true, Bool.true_eq_false, Bool.false_eq_true]
    exact ih (j + 1) n (by omega) (by omega) (by omega)
theorem dream_L {b P W H : Nat} (hb : b = 9 ∨ b = 56) (hP : P ≤ 8) {nd : gx_F} : ∀ m k n n' σ τ, k + m = P → 8 - k < n → m < n' → τ 110 0 = nI P → NowR b σ τ nd P W H → ∃ σ' τ', Cl_pass_13 n b (nI k) σ = Cl_pass_31 b σ' ∧ Md_hourGoes_13 n' (nI k) τ = Md_hourGoes_34 τ' ∧ NowR b σ' τ' nd P W H ∧ (∀ c, c ≠ b → c ≠ b + 4 → σ' c = σ c) ∧ (∀ c, c ≠ 109 → c ≠ 138 → τ' c = τ c) ∧ (∀ j, j ≠ 43 → τ' 109 j = τ 109 j) := by
  intro m
  induction m with
  | zero =>
    intro k n n' σ τ hk hn hn' h0 hN
    obtain ⟨n', rfl⟩ : ∃ q, n' = q + 1 := ⟨n' - 1, by omega⟩
    obtain rfl : k = P := by omega
    refine ⟨σ, τ, dream_t (fun p h1 h2 => (hN.2.2.1 p h1 h2).1) (8 - k) k n (by omega) (by omega) hn, ?_, hN, fun _ _ _ => rfl, fun _ _ _ => rfl, fun _ _ => rfl⟩
    simp (disch := omega) only [Md_hourGoes_13, Md_hourGoes_13_B, z_c0, z_c1, nI_leI, nI_ltI, nI_eq, ix_n, cl_n, nI_add, pk_mul, nI_1, n_lt0, n_0le, n_le0, n_0lt, n_eq0, n_1le, n_le1, n_lt1, n_1lt, n_eq1, n_m1, n_m1a, L_2, L_3, L_4, L_5, L_6, L_7, L_8, L_9, L_10, L_11, L_12, L_14, L_15, L_16, L_17, L_18, L_20, L_21, L_24, L_26, L_30, L_32, L_34, L_35, L_36, L_37, L_38, L_39, L_40, L_41, L_42, L_43, L_44, L_45, L_46, L_47, L_48, L_57, L_59, L_60, L_61, L_62, L_64, L_65, L_68, L_76, L_80, L_84, L_90, L_92, L_96, L_97, L_98, L_99, L_100, L_104, L_122, L_139, L_140, L_162, L_163, L_164, L_200, L_241, L_255, L_256, L_280, L_284, L_300, L_301, L_303, L_309, L_360, L_400, L_401, L_402, L_403, L_404, L_405, L_406, L_407, L_408, L_999, L_1600, L_3120, L_8596, L_8880, L_9999, L_10000, L_30211, L_99999, L_1000000, h0, Nat.le_refl, w_bd, w_ck, bI_0, bI_1, bI_bo, bo_0, bo_1, decide_true, decide_false, if_true, if_false, ite_true, ite_false, not_true_eq_false, not_false_eq_true, Bool.true_eq_false, Bool.false_eq_true]
  | succ m ih =>
    intro k n n' σ τ hk hn hn' h0 hN
    obtain ⟨n, rfl⟩ : ∃ q, n = q + 1 := ⟨n - 1, by omega⟩
    obtain ⟨n', rfl⟩ : ∃ q, n' = q + 1 := ⟨n' - 1, by omega⟩
    have c1 : ¬ 8 ≤ k := by omega
    have c2 : ¬ P ≤ k := by omega
    have c3 : k < 8 := by omega
    have e1 := (hN.1 k c3).1
    by_cases hs : σ (b + 1) k = 2
    · have hs2 : τ 135 k = nI 2 := e1.trans hs
      have hs1 : σ (b + 1) k = nI 2 := hs
      obtain ⟨x, hx, hx2⟩ := hN.2.2.2.2.2.2.1
      have hx3 := hN.2.2.2.2.2.1.2.1
      have hN1 : NowR b (gx_up (gx_up σ b 7 (nI ((x * 241 + 139) % 30211))) (b + 4) k (nI (x % 10))) (gx_up (gx_up τ 109 43 (nI ((x * 241 + 139) % 30211))) 138 k (nI (x % 10))) nd P W H := by
        obtain ⟨r1, r2, r3, r4, r5, ⟨r6, r7, r8⟩, r9, r10, r11, r12, r13⟩ := hN
        refine ⟨fun i hi => ?_, fun i hi => ?_, fun i hi hi2 => ?_, fun i hi => ?_, fun i hi => ?_, ⟨?_, ?_, ?_⟩, ?_, fun i hi => ?_, fun i hi => ?_, fun i j hi hj => ?_, fun i hi => ?_⟩
        · have := r1 i hi; grind [gx_up]
        · have := r2 i hi; grind [gx_up]
        · have := r3 i hi hi2; grind [gx_up]
        · have := r4 i hi; grind [gx_up]
        · have := r5 i hi; grind [gx_up]
        · grind [gx_up]
        · grind [gx_up]
        · grind [gx_up]
        · exact ⟨(x * 241 + 139) % 30211, Nat.mod_lt _ (by omega), by grind [gx_up]⟩
        · have := r10 i hi
          rw [gx_up_ne (show b + 1 ≠ b + 4 by omega), gx_up_ne (show b + 1 ≠ b by omega), gx_up_ne (show b + 2 ≠ b + 4 by omega), gx_up_ne (show b + 2 ≠ b by omega)]
          exact this
        · obtain ⟨o, d, g1, g2, g3, g4⟩ := r11 i hi
          by_cases hpk : i = k
          · exact ⟨o, x % 10, g1, by omega, by grind [gx_up], by grind [gx_up]⟩
          · exact ⟨o, d, g1, g2, by grind [gx_up], by grind [gx_up]⟩
        · rw [gx_up_ne (show b + 5 ≠ b + 4 by omega), gx_up_ne (show b + 5 ≠ b by omega)]
          exact r12 i j hi hj
        · rw [gx_up_ne (show b + 6 ≠ b + 4 by omega), gx_up_ne (show b + 6 ≠ b by omega)]
          exact r13 i hi
      obtain ⟨σ', τ', q1, q2, q3, q4, q5, q6⟩ := ih (k + 1) n n' _ _ (by omega) (by omega) (by omega) (by rw [gx_up_ne (by omega), gx_up_ne (by omega)]; exact h0) hN1
      refine ⟨σ', τ', ?_, ?_, q3, fun c h1 h2 => ?_, fun c h1 h2 => ?_, fun j h1 => ?_⟩
      · rw [Cl_pass_13, Cl_pass_13_B, show (10 : Int32) = nI 10 from rfl, draw_v (by omega) (by omega) hx hx2]
        simp (disch := omega) only [Cl_pass_29, hs1, z_c0, z_c1, nI_leI, nI_ltI, nI_eq, ix_n, cl_n, nI_add, pk_mul, nI_1, n_lt0, n_0le, n_le0, n_0lt, n_eq0, n_1le, n_le1, n_lt1, n_1lt, n_eq1, n_m1, n_m1a, L_2, L_3, L_4, L_5, L_6, L_7, L_8, L_9, L_10, L_11, L_12, L_14, L_15, L_16, L_17, L_18, L_20, L_21, L_24, L_26, L_30, L_32, L_34, L_35, L_36, L_37, L_38, L_39, L_40, L_41, L_42, L_43, L_44, L_45, L_46, L_47, L_48, L_57, L_59, L_60, L_61, L_62, L_64, L_65, L_68, L_76, L_80, L_84, L_90, L_92, L_96, L_97, L_98, L_99, L_100, L_104, L_122, L_139, L_140, L_162, L_163, L_164, L_200, L_241, L_255, L_256, L_280, L_284, L_300, L_301, L_303, L_309, L_360, L_400, L_401, L_402, L_403, L_404, L_405, L_406, L_407, L_408, L_999, L_1600, L_3120, L_8596, L_8880, L_9999, L_10000, L_30211, L_99999, L_1000000, c1, c3, w_bd, w_ck, bI_0, bI_1, bI_bo, bo_0, bo_1, decide_true, decide_false, if_true, if_false, ite_true, ite_false, not_true_eq_false, not_false_eq_true, Bool.true_eq_false, Bool.false_eq_true]
        exact q1
      · rw [Md_hourGoes_13, Md_hourGoes_13_B, show (10 : Int32) = nI 10 from rfl, drawn_v (by omega) (by omega) hx (hx3.trans hx2)]
        simp (disch := omega) only [Md_hourGoes_32, hs2, h0, z_c0, z_c1, nI_leI, nI_ltI, nI_eq, ix_n, cl_n, nI_add, pk_mul, nI_1, n_lt0, n_0le, n_le0, n_0lt, n_eq0, n_1le, n_le1, n_lt1, n_1lt, n_eq1, n_m1, n_m1a, L_2, L_3, L_4, L_5, L_6, L_7, L_8, L_9, L_10, L_11, L_12, L_14, L_15, L_16, L_17, L_18, L_20, L_21, L_24, L_26, L_30, L_32, L_34, L_35, L_36, L_37, L_38, L_39, L_40, L_41, L_42, L_43, L_44, L_45, L_46, L_47, L_48, L_57, L_59, L_60, L_61, L_62, L_64, L_65, L_68, L_76, L_80, L_84, L_90, L_92, L_96, L_97, L_98, L_99, L_100, L_104, L_122, L_139, L_140, L_162, L_163, L_164, L_200, L_241, L_255, L_256, L_280, L_284, L_300, L_301, L_303, L_309, L_360, L_400, L_401, L_402, L_403, L_404, L_405, L_406, L_407, L_408, L_999, L_1600, L_3120, L_8596, L_8880, L_9999, L_10000, L_30211, L_99999, L_1000000, c2, c3, w_bd, w_ck, bI_0, bI_1, bI_bo, bo_0, bo_1, decide_true, decide_false, if_true, if_false, ite_true, ite_false, not_true_eq_false, not_false_eq_true, Bool.true_eq_false, Bool.false_eq_true]
        exact q2
      · rw [q4 c h1 h2, gx_up_ne h2, gx_up_ne h1]
      · rw [q5 c h1 h2, gx_up_ne h2, gx_up_ne h1]
      · rw [q6 j h1, gx_up_ne (by omega), up_p τ 109 _ h1]
    · obtain ⟨σ', τ', q1, q2, q3, q4, q5, q6⟩ := ih (k + 1) n n' σ τ (by omega) (by omega) (by omega) h0 hN
      have hs2 : ¬ τ 135 k = nI 2 := fun z => hs (e1.symm.trans z)
      have hs1 : ¬ σ (b + 1) k = nI 2 := hs
      refine ⟨σ', τ', ?_, ?_, q3, q4, q5, q6⟩
      · simp (disch := omega) only [Cl_pass_13, Cl_pass_13_B, Cl_pass_29, hs1, z_c0, z_c1, nI_leI, nI_ltI, nI_eq, ix_n, cl_n, nI_add, pk_mul, nI_1, n_lt0, n_0le, n_le0, n_0lt, n_eq0, n_1le, n_le1, n_lt1, n_1lt, n_eq1, n_m1, n_m1a, L_2, L_3, L_4, L_5, L_6, L_7, L_8, L_9, L_10, L_11, L_12, L_14, L_15, L_16, L_17, L_18, L_20, L_21, L_24, L_26, L_30, L_32, L_34, L_35, L_36, L_37, L_38, L_39, L_40, L_41, L_42, L_43, L_44, L_45, L_46, L_47, L_48, L_57, L_59, L_60, L_61, L_62, L_64, L_65, L_68, L_76, L_80, L_84, L_90, L_92, L_96, L_97, L_98, L_99, L_100, L_104, L_122, L_139, L_140, L_162, L_163, L_164, L_200, L_241, L_255, L_256, L_280, L_284, L_300, L_301, L_303, L_309, L_360, L_400, L_401, L_402, L_403, L_404, L_405, L_406, L_407, L_408, L_999, L_1600, L_3120, L_8596, L_8880, L_9999, L_10000, L_30211, L_99999, L_1000000, c1, c3, w_bd, w_ck, bI_0, bI_1, bI_bo, bo_0, bo_1, decide_true, decide_false, if_true, if_false, ite_true, ite_false, not_true_eq_false, not_false_eq_true, Bool.true_eq_false, Bool.false_eq_true]
        exact q1
      · simp (disch := omega) only [Md_hourGoes_13, Md_hourGoes_13_B, Md_hourGoes_32, hs2, h0, z_c0, z_c1, nI_leI, nI_ltI, nI_eq, ix_n, cl_n, nI_add, pk_mul, nI_1, n_lt0, n_0le, n_le0, n_0lt, n_eq0, n_1le, n_le1, n_lt1, n_1lt, n_eq1, n_m1, n_m1a, L_2, L_3, L_4, L_5, L_6, L_7, L_8, L_9, L_10, L_11, L_12, L_14, L_15, L_16, L_17, L_18, L_20, L_21, L_24, L_26, L_30, L_32, L_34, L_35, L_36, L_37, L_38, L_39, L_40, L_41, L_42, L_43, L_44, L_45, L_46, L_47, L_48, L_57, L_59, L_60, L_61, L_62, L_64, L_65, L_68, L_76, L_80, L_84, L_90, L_92, L_96, L_97, L_98, L_99, L_100, L_104, L_122, L_139, L_140, L_162, L_163, L_164, L_200, L_241, L_255, L_256, L_280, L_284, L_300, L_301, L_303, L_309, L_360, L_400, L_401, L_402, L_403, L_404, L_405, L_406, L_407, L_408, L_999, L_1600, L_3120, L_8596, L_8880, L_9999, L_10000, L_30211, L_99999, L_1000000, c2, c3, w_bd, w_ck, bI_0, bI_1, bI_bo, bo_0, bo_1, decide_true, decide_false, if_true, if_false, ite_true, ite_false, not_true_eq_false, not_false_eq_true, Bool.true_eq_false, Bool.false_eq_true]
        exact q2
theorem fuel_v {b P W T H w : Nat} (hb : b = 9 ∨ b = 56) (hw : w < P) (hH : H ≤ 2000) {σ τ : gx_R} (hE : EnvR σ τ P W T) (hN : NowR b σ τ (σ 7) P W H) : ∃ v σ' τ', v ≤ 99 * P ∧ La_fuelNow b (nI w) σ = some (nI v, σ') ∧ Md_fuelOf (nI w) 0 1 τ = some (nI v, τ') ∧ lC σ σ' ∧ lM τ τ' := fuel_L hb hw hH P 0 z_FU z_FU 0 σ τ (by omega) (Nat.lt_of_le_of_lt (show 8 - 0 ≤ 8 by omega) (Nat.lt_of_lt_of_le (by decide) z_FU_ge)) (Nat.lt_of_le_of_lt hE.1.1.1 (Nat.lt_of_lt_of_le (by decide) z_FU_ge)) (by omega) hE hN
theorem burnN_v {b P W T H p w : Nat} (hb : b = 9 ∨ b = 56) (hp : p < P) (hw : w < W) (hH : H ≤ 2000) {σ τ : gx_R} (hE : EnvR σ τ P W T) (hN : NowR b σ τ (σ 7) P W H) (hwi : σ (b + 2) p = nI w) : ∃ v σ' τ', v ≤ 99 ∧ La_burnNow b (nI p) σ = some (nI v, σ') ∧ Md_burnBy (nI p) (τ 137 p) (τ 136 p) τ = some (nI v, τ') ∧ lC σ σ' ∧ lM τ τ' := by
  have hP := hE.1.1.1
  obtain ⟨o, d, ho, hd, g1, g2⟩ := hN.2.2.2.2.2.2.2.2.1 p hp
  obtain ⟨i1, i2, i3⟩ := hN.2.2.2.2.2.1
  obtain ⟨e1, e2, e3⟩ := hN.1 p (by omega)
  have e4 := hN.2.1 p hp
  obtain ⟨v, σ', τ', h1, h2, h3, h4, h5⟩ := burn_v hE (p := p) (w := w) (o := o) (H := H) hp hw (by omega) (by omega) (i1.trans i3)
  refine ⟨v, σ', τ', h1, ?_, ?_, h4, h5⟩
  · rw [La_burnNow, ix_t (show p < 8 by omega) (by omega), w_ck, w_ck, cl_n (by omega), hwi, g1, i3, h2, w_bd]
  · rw [e2, e4, g1, hwi]; exact h3
theorem owe_t {b P p : Nat} {σ : gx_R} (h : ∀ p, P ≤ p → p < 8 → σ (b + 1) p = 0) : ∀ m j n, j + m = 8 → P ≤ j → m < n → Cl_goForward_28 n b (nI p) (nI j) σ = some ((), σ) := by
  intro m
  induction m with
  | zero =>
    intro j n hj hP hn
    obtain ⟨n, rfl⟩ : ∃ q, n = q + 1 := ⟨n - 1, by omega⟩
    obtain rfl : j = 8 := by omega
    simp (disch := omega) only [Cl_goForward_28, Cl_goForward_28_B, z_c0, z_c1, nI_leI, nI_ltI, nI_eq, ix_n, cl_n, nI_add, pk_mul, nI_1, n_lt0, n_0le, n_le0, n_0lt, n_eq0, n_1le, n_le1, n_lt1, n_1lt, n_eq1, n_m1, n_m1a, L_2, L_3, L_4, L_5, L_6, L_7, L_8, L_9, L_10, L_11, L_12, L_14, L_15, L_16, L_17, L_18, L_20, L_21, L_24, L_26, L_30, L_32, L_34, L_35, L_36, L_37, L_38, L_39, L_40, L_41, L_42, L_43, L_44, L_45, L_46, L_47, L_48, L_57, L_59, L_60, L_61, L_62, L_64, L_65, L_68, L_76, L_80, L_84, L_90, L_92, L_96, L_97, L_98, L_99, L_100, L_104, L_122, L_139, L_140, L_162, L_163, L_164, L_200, L_241, L_255, L_256, L_280, L_284, L_300, L_301, L_303, L_309, L_360, L_400, L_401, L_402, L_403, L_404, L_405, L_406, L_407, L_408, L_999, L_1600, L_3120, L_8596, L_8880, L_9999, L_10000, L_30211, L_99999, L_1000000, Nat.le_refl, w_bd, w_ck, bI_0, bI_1, bI_bo, bo_0, bo_1, decide_true, decide_false, if_true, if_false, ite_true, ite_false, not_true_eq_false, not_false_eq_true, Bool.true_eq_false, Bool.false_eq_true]
  | succ m ih =>
    intro j n hj hP hn
    obtain ⟨n, rfl⟩ : ∃ q, n = q + 1 := ⟨n - 1, by omega⟩
    have c1 : ¬ 8 ≤ j := by omega
    have c2 : j < 8 := by omega
    have c3 := h j hP c2
    simp (disch := omega) only [Cl_goForward_28, Cl_goForward_28_B, Cl_goForward_54, sleepsFor_v, slB_f (show ¬ (σ (b + 1) j = 2 ∧ σ (b + 2) j = nI p) from fun z => by rw [c3] at z; exact absurd z.1 (by decide)), bI_f, z_c0, z_c1, nI_leI, nI_ltI, nI_eq, ix_n, cl_n, nI_add, pk_mul, nI_1, n_lt0, n_0le, n_le0, n_0lt, n_eq0, n_1le, n_le1, n_lt1, n_1lt, n_eq1, n_m1, n_m1a, L_2, L_3, L_4, L_5, L_6, L_7, L_8, L_9, L_10, L_11, L_12, L_14, L_15, L_16, L_17, L_18, L_20, L_21, L_24, L_26, L_30, L_32, L_34, L_35, L_36, L_37, L_38, L_39, L_40, L_41, L_42, L_43, L_44, L_45, L_46, L_47, L_48, L_57, L_59, L_60, L_61, L_62, L_64, L_65, L_68, L_76, L_80, L_84, L_90, L_92, L_96, L_97, L_98, L_99, L_100, L_104, L_122, L_139, L_140, L_162, L_163, L_164, L_200, L_241, L_255, L_256, L_280, L_284, L_300, L_301, L_303, L_309, L_360, L_400, L_401, L_402, L_403, L_404, L_405, L_406, L_407, L_408, L_999, L_1600, L_3120, L_8596, L_8880, L_9999, L_10000, L_30211, L_99999, L_1000000, c1, c2, w_bd, w_ck, bI_0, bI_1, bI_bo, bo_0, bo_1, decide_true, decide_false, if_true, if_false, ite_true, ite_false, not_true_eq_false, not_false_eq_true, Bool.true_eq_false, Bool.false_eq_true]
    exact ih (j + 1) n (by omega) (by omega) (by omega)
theorem owe_L {b P W H p : Nat} (hb : b = 9 ∨ b = 56) (hP : P ≤ 8) (hp : p < P) {nd : gx_F} : ∀ m k n n' σ τ, k + m = P → 8 - k < n → m < n' → τ 110 0 = nI P → ¬ σ (b + 1) p = 2 → NowR b σ τ nd P W H → ∃ σ' τ', Cl_goForward_28 n b (nI p) (nI k) σ = some ((), σ') ∧ Md_runs_36 n' (nI p) (nI k) τ = some ((), τ') ∧ NowR b σ' τ' nd P W H ∧ (∀ c, c ≠ b + 5 → σ' c = σ c) ∧ (∀ c, c ≠ 140 → τ' c = τ c) := by
  intro m
  induction m with
  | zero =>
    intro k n n' σ τ hk hn hn' h0 hd hN
    obtain ⟨n', rfl⟩ : ∃ q, n' = q + 1 := ⟨n' - 1, by omega⟩
    obtain rfl : k = P := by omega
    refine ⟨σ, τ, owe_t (fun p h1 h2 => (hN.2.2.1 p h1 h2).1) (8 - k) k n (by omega) (by omega) hn, ?_, hN, fun _ _ => rfl, fun _ _ => rfl⟩
    simp (disch := omega) only [Md_runs_36, Md_runs_36_B, z_c0, z_c1, nI_leI, nI_ltI, nI_eq, ix_n, cl_n, nI_add, pk_mul, nI_1, n_lt0, n_0le, n_le0, n_0lt, n_eq0, n_1le, n_le1, n_lt1, n_1lt, n_eq1, n_m1, n_m1a, L_2, L_3, L_4, L_5, L_6, L_7, L_8, L_9, L_10, L_11, L_12, L_14, L_15, L_16, L_17, L_18, L_20, L_21, L_24, L_26, L_30, L_32, L_34, L_35, L_36, L_37, L_38, L_39, L_40, L_41, L_42, L_43, L_44, L_45, L_46, L_47, L_48, L_57, L_59, L_60, L_61, L_62, L_64, L_65, L_68, L_76, L_80, L_84, L_90, L_92, L_96, L_97, L_98, L_99, L_100, L_104, L_122, L_139, L_140, L_162, L_163, L_164, L_200, L_241, L_255, L_256, L_280, L_284, L_300, L_301, L_303, L_309, L_360, L_400, L_401, L_402, L_403, L_404, L_405, L_406, L_407, L_408, L_999, L_1600, L_3120, L_8596, L_8880, L_9999, L_10000, L_30211, L_99999, L_1000000, h0, Nat.le_refl, w_bd, w_ck, bI_0, bI_1, bI_bo, bo_0, bo_1, decide_true, decide_false, if_true, if_false, ite_true, ite_false, not_true_eq_false, not_false_eq_true, Bool.true_eq_false, Bool.false_eq_true]
  | succ m ih =>
    intro k n n' σ τ hk hn hn' h0 hd hN
    obtain ⟨n, rfl⟩ : ∃ q, n = q + 1 := ⟨n - 1, by omega⟩
    obtain ⟨n', rfl⟩ : ∃ q, n' = q + 1 := ⟨n' - 1, by omega⟩
    have c1 : ¬ 8 ≤ k := by omega
    have c2 : ¬ P ≤ k := by omega
    have c3 : k < 8 := by omega
    have c4 : 8 * p + k < 64 := by omega
    have e1 := (hN.1 k c3).1
    have e4 := hN.2.1 k (by omega)
    by_cases hs : σ (b + 1) k = 2 ∧ σ (b + 2) k = nI p
    · have hs2 : τ 135 k = nI 2 := e1.trans hs.1
      have hs3 : τ 136 k = nI p := e4.trans hs.2
      obtain ⟨o, ho, ho2, ho3⟩ := hN.2.2.2.2.2.2.2.2.2.1 p k (by omega) c3
      have ho4 := hN.2.2.2.1 (8 * p + k) c4
      by_cases h99 : o = 99
      · have c5 : 99 ≤ o := by omega
        have hN1 : NowR b (gx_up σ (b + 5) (8 * p + k) (nI o)) τ nd P W H := by
          have : gx_up σ (b + 5) (8 * p + k) (nI o) = σ := by
            funext c j
            simp only [gx_up]
            split
            · split
              · rename_i h1 h2; rw [h1, h2]; exact ho2.symm
              · rename_i h1 h2; rw [h1]
            · rfl
          rw [this]; exact hN
        obtain ⟨σ', τ', q1, q2, q3, q4, q5⟩ := ih (k + 1) n n' _ τ (by omega) (by omega) (by omega) h0 (by rw [gx_up_ne (by omega)]; exact hd) hN1
        refine ⟨σ', τ', ?_, ?_, q3, fun c h1 => (q4 c h1).trans (gx_up_ne h1), q5⟩
        · have c6 : ¬ o + 1 < 99 := by omega
          have c7 : p * 8 + k < 64 := by omega
          simp (disch := omega) only [Cl_goForward_28, Cl_goForward_28_B, Cl_goForward_54, sleepsFor_v, slB_t hs, bI_t, show ¬ ((1 : Int32) = 0) by decide, show p * 8 + k = 8 * p + k by omega, ho2, z_c0, z_c1, nI_leI, nI_ltI, nI_eq, ix_n, cl_n, nI_add, pk_mul, nI_1, n_lt0, n_0le, n_le0, n_0lt, n_eq0, n_1le, n_le1, n_lt1, n_1lt, n_eq1, n_m1, n_m1a, L_2, L_3, L_4, L_5, L_6, L_7, L_8, L_9, L_10, L_11, L_12, L_14, L_15, L_16, L_17, L_18, L_20, L_21, L_24, L_26, L_30, L_32, L_34, L_35, L_36, L_37, L_38, L_39, L_40, L_41, L_42, L_43, L_44, L_45, L_46, L_47, L_48, L_57, L_59, L_60, L_61, L_62, L_64, L_65, L_68, L_76, L_80, L_84, L_90, L_92, L_96, L_97, L_98, L_99, L_100, L_104, L_122, L_139, L_140, L_162, L_163, L_164, L_200, L_241, L_255, L_256, L_280, L_284, L_300, L_301, L_303, L_309, L_360, L_400, L_401, L_402, L_403, L_404, L_405, L_406, L_407, L_408, L_999, L_1600, L_3120, L_8596, L_8880, L_9999, L_10000, L_30211, L_99999, L_1000000, c1, c3, c4, c6, w_bd, w_ck, bI_0, bI_1, bI_bo, bo_0, bo_1, decide_true, decide_false, if_true, if_false, ite_true, ite_false, not_true_eq_false, not_false_eq_true, Bool.true_eq_false, Bool.false_eq_true]
          rw [← h99]; exact q1
        · simp (disch := omega) only [Md_runs_36, Md_runs_36_B, Md_runs_76, hs2, hs3, ho4, ho2, h0, z_c0, z_c1, nI_leI, nI_ltI, nI_eq, ix_n, cl_n, nI_add, pk_mul, nI_1, n_lt0, n_0le, n_le0, n_0lt, n_eq0, n_1le, n_le1, n_lt1, n_1lt, n_eq1, n_m1, n_m1a, L_2, L_3, L_4, L_5, L_6, L_7, L_8, L_9, L_10, L_11, L_12, L_14, L_15, L_16, L_17, L_18, L_20, L_21, L_24, L_26, L_30, L_32, L_34, L_35, L_36, L_37, L_38, L_39, L_40, L_41, L_42, L_43, L_44, L_45, L_46, L_47, L_48, L_57, L_59, L_60, L_61, L_62, L_64, L_65, L_68, L_76, L_80, L_84, L_90, L_92, L_96, L_97, L_98, L_99, L_100, L_104, L_122, L_139, L_140, L_162, L_163, L_164, L_200, L_241, L_255, L_256, L_280, L_284, L_300, L_301, L_303, L_309, L_360, L_400, L_401, L_402, L_403, L_404, L_405, L_406, L_407, L_408, L_999, L_1600, L_3120, L_8596, L_8880, L_9999, L_10000, L_30211, L_99999, L_1000000, c2, c3, c4, c5, w_bd, w_ck, bI_0, bI_1, bI_bo, bo_0, bo_1, decide_true, decide_false, if_true, if_false, ite_true, ite_false, not_true_eq_false, not_false_eq_true, Bool.true_eq_false, Bool.false_eq_true]
          exact q2
      · have c5 : ¬ 99 ≤ o := by omega
        have hN1 : NowR b (gx_up σ (b + 5) (8 * p + k) (nI (o + 1))) (gx_up τ 140 (8 * p + k) (nI (o + 1))) nd P W H := by
          obtain ⟨r1, r2, r3, r4, r5, ⟨r6, r7, r8⟩, r9, r10, r11, r12, r13⟩ := hN
          refine ⟨fun i hi => ?_, fun i hi => ?_, fun i hi hi2 => ?_, fun i hi => ?_, fun i hi => ?_, ⟨?_, ?_, ?_⟩, ?_, fun i hi => ?_, fun i hi => ?_, fun i j hi hj => ?_, fun i hi => ?_⟩
          · have := r1 i hi; grind [gx_up]
          · have := r2 i hi; grind [gx_up]
          · have := r3 i hi hi2; grind [gx_up]
          · have := r4 i hi; grind [gx_up]
          · have := r5 i hi; grind [gx_up]
          · grind [gx_up]
          · grind [gx_up]
          · grind [gx_up]
          · rw [gx_up_ne (show b ≠ b + 5 by omega)]; exact r9
          · rw [gx_up_ne (show b + 1 ≠ b + 5 by omega), gx_up_ne (show b + 2 ≠ b + 5 by omega)]
            exact r10 i hi
          · rw [gx_up_ne (show b + 3 ≠ b + 5 by omega), gx_up_ne (show b + 4 ≠ b + 5 by omega)]
            exact r11 i hi
          · by_cases hpq : i = p ∧ j = k
            · obtain ⟨rfl, rfl⟩ := hpq
              exact ⟨o + 1, by omega, by rw [up_e], fun z => by
                rcases z with z | z | z
                · omega
                · omega
                · exact absurd (z ▸ hs.1) hd⟩
            · obtain ⟨o2, g1, g2, g3⟩ := r12 i j hi hj
              exact ⟨o2, g1, by rw [up_p _ _ _ (by omega)]; exact g2, g3⟩
          · rw [gx_up_ne (show b + 6 ≠ b + 5 by omega)]
            exact r13 i hi
        obtain ⟨σ', τ', q1, q2, q3, q4, q5⟩ := ih (k + 1) n n' _ _ (by omega) (by omega) (by omega) (by rw [gx_up_ne (by omega)]; exact h0) (by rw [gx_up_ne (by omega)]; exact hd) hN1
        refine ⟨σ', τ', ?_, ?_, q3, fun c h1 => (q4 c h1).trans (gx_up_ne h1), fun c h1 => (q5 c h1).trans (gx_up_ne h1)⟩
        · have c7 : p * 8 + k < 64 := by omega
          simp (disch := omega) only [Cl_goForward_28, Cl_goForward_28_B, Cl_goForward_54, sleepsFor_v, slB_t hs, bI_t, show ¬ ((1 : Int32) = 0) by decide, show p * 8 + k = 8 * p + k by omega, ho2, z_c0, z_c1, nI_leI, nI_ltI, nI_eq, ix_n, cl_n, nI_add, pk_mul, nI_1, n_lt0, n_0le, n_le0, n_0lt, n_eq0, n_1le, n_le1, n_lt1, n_1lt, n_eq1, n_m1, n_m1a, L_2, L_3, L_4, L_5, L_6, L_7, L_8, L_9, L_10, L_11, L_12, L_14, L_15, L_16, L_17, L_18, L_20, L_21, L_24, L_26, L_30, L_32, L_34, L_35, L_36, L_37, L_38, L_39, L_40, L_41, L_42, L_43, L_44, L_45, L_46, L_47, L_48, L_57, L_59, L_60, L_61, L_62, L_64, L_65, L_68, L_76, L_80, L_84, L_90, L_92, L_96, L_97, L_98, L_99, L_100, L_104, L_122, L_139, L_140, L_162, L_163, L_164, L_200, L_241, L_255, L_256, L_280, L_284, L_300, L_301, L_303, L_309, L_360, L_400, L_401, L_402, L_403, L_404, L_405, L_406, L_407, L_408, L_999, L_1600, L_3120, L_8596, L_8880, L_9999, L_10000, L_30211, L_99999, L_1000000, c1, c3, c4, w_bd, w_ck, bI_0, bI_1, bI_bo, bo_0, bo_1, decide_true, decide_false, if_true, if_false, ite_true, ite_false, not_true_eq_false, not_false_eq_true, Bool.true_eq_false, Bool.false_eq_true]
          by_cases c6 : o + 1 < 99
          · rw [if_pos c6]; exact q1
          · rw [if_neg c6, show 99 = o + 1 by omega]; exact q1
        · simp (disch := omega) only [Md_runs_36, Md_runs_36_B, Md_runs_76, hs2, hs3, ho4, ho2, h0, z_c0, z_c1, nI_leI, nI_ltI, nI_eq, ix_n, cl_n, nI_add, pk_mul, nI_1, n_lt0, n_0le, n_le0, n_0lt, n_eq0, n_1le, n_le1, n_lt1, n_1lt, n_eq1, n_m1, n_m1a, L_2, L_3, L_4, L_5, L_6, L_7, L_8, L_9, L_10, L_11, L_12, L_14, L_15, L_16, L_17, L_18, L_20, L_21, L_24, L_26, L_30, L_32, L_34, L_35, L_36, L_37, L_38, L_39, L_40, L_41, L_42, L_43, L_44, L_45, L_46, L_47, L_48, L_57, L_59, L_60, L_61, L_62, L_64, L_65, L_68, L_76, L_80, L_84, L_90, L_92, L_96, L_97, L_98, L_99, L_100, L_104, L_122, L_139, L_140, L_162, L_163, L_164, L_200, L_241, L_255, L_256, L_280, L_284, L_300, L_301, L_303, L_309, L_360, L_400, L_401, L_402, L_403, L_404, L_405, L_406, L_407, L_408, L_999, L_1600, L_3120, L_8596, L_8880, L_9999, L_10000, L_30211, L_99999, L_1000000, c2, c3, c4, c5, w_bd, w_ck, bI_0, bI_1, bI_bo, bo_0, bo_1, decide_true, decide_false, if_true, if_false, ite_true, ite_false, not_true_eq_false, not_false_eq_true, Bool.true_eq_false, Bool.false_eq_true]
          exact q2
    · obtain ⟨σ', τ', q1, q2, q3, q4, q5⟩ := ih (k + 1) n n' σ τ (by omega) (by omega) (by omega) h0 hd hN
      refine ⟨σ', τ', ?_, ?_, q3, q4, q5⟩
      · simp (disch := omega) only [Cl_goForward_28, Cl_goForward_28_B, Cl_goForward_54, sleepsFor_v, slB_f hs, bI_f, z_c0, z_c1, nI_leI, nI_ltI, nI_eq, ix_n, cl_n, nI_add, pk_mul, nI_1, n_lt0, n_0le, n_le0, n_0lt, n_eq0, n_1le, n_le1, n_lt1, n_1lt, n_eq1, n_m1, n_m1a, L_2, L_3, L_4, L_5, L_6, L_7, L_8, L_9, L_10, L_11, L_12, L_14, L_15, L_16, L_17, L_18, L_20, L_21, L_24, L_26, L_30, L_32, L_34, L_35, L_36, L_37, L_38, L_39, L_40, L_41, L_42, L_43, L_44, L_45, L_46, L_47, L_48, L_57, L_59, L_60, L_61, L_62, L_64, L_65, L_68, L_76, L_80, L_84, L_90, L_92, L_96, L_97, L_98, L_99, L_100, L_104, L_122, L_139, L_140, L_162, L_163, L_164, L_200, L_241, L_255, L_256, L_280, L_284, L_300, L_301, L_303, L_309, L_360, L_400, L_401, L_402, L_403, L_404, L_405, L_406, L_407, L_408, L_999, L_1600, L_3120, L_8596, L_8880, L_9999, L_10000, L_30211, L_99999, L_1000000, c1, c3, w_bd, w_ck, bI_0, bI_1, bI_bo, bo_0, bo_1, decide_true, decide_false, if_true, if_false, ite_true, ite_false, not_true_eq_false, not_false_eq_true, Bool.true_eq_false, Bool.false_eq_true]
        exact q1
      · rw [← e1, ← e4] at hs
        simp (disch := omega) only [Md_runs_36, Md_runs_36_B, Md_runs_76, h0, z_c0, z_c1, nI_leI, nI_ltI, nI_eq, ix_n, cl_n, nI_add, pk_mul, nI_1, n_lt0, n_0le, n_le0, n_0lt, n_eq0, n_1le, n_le1, n_lt1, n_1lt, n_eq1, n_m1, n_m1a, L_2, L_3, L_4, L_5, L_6, L_7, L_8, L_9, L_10, L_11, L_12, L_14, L_15, L_16, L_17, L_18, L_20, L_21, L_24, L_26, L_30, L_32, L_34, L_35, L_36, L_37, L_38, L_39, L_40, L_41, L_42, L_43, L_44, L_45, L_46, L_47, L_48, L_57, L_59, L_60, L_61, L_62, L_64, L_65, L_68, L_76, L_80, L_84, L_90, L_92, L_96, L_97, L_98, L_99, L_100, L_104, L_122, L_139, L_140, L_162, L_163, L_164, L_200, L_241, L_255, L_256, L_280, L_284, L_300, L_301, L_303, L_309, L_360, L_400, L_401, L_402, L_403, L_404, L_405, L_406, L_407, L_408, L_999, L_1600, L_3120, L_8596, L_8880, L_9999, L_10000, L_30211, L_99999, L_1000000, c2, c3, w_bd, w_ck, bI_0, bI_1, bI_bo, bo_0, bo_1, decide_true, decide_false, if_true, if_false, ite_true, ite_false, not_true_eq_false, not_false_eq_true, Bool.true_eq_false, Bool.false_eq_true]
        by_cases t1 : τ 135 k = 2
        · rw [if_pos (show τ 135 k = nI 2 from t1), if_neg (fun t2 => hs ⟨t1, t2⟩)]; exact q2
        · rw [if_neg (show ¬ τ 135 k = nI 2 from t1)]; exact q2
