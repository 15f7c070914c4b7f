/-! ===== who runs, who stops ===== -/
def BitsIn (x : Int32) (P : Nat) (f : gx_F) : Prop := ∀ i, i < 32 → bt x i = true → i < P ∧ f i = 1
theorem BitsIn_or {x : Int32} {P p : Nat} {f : gx_F} (h : BitsIn x P f) (hp : p < P) (hP : P ≤ 8) (hf : f p = 1) : BitsIn (x ||| ((1 : Int32) <<< (nI p &&& 31))) P f := by
  intro i hi hb
  rw [b_or, b_bit (by omega) hi] at hb
  cases hx : bt x i with
  | true => exact h i hi hx
  | false =>
    rw [hx, Bool.false_or] at hb
    have := of_decide_eq_true hb
    rw [this]
    exact ⟨hp, hf⟩
theorem gf_v {b P W H p : Nat} (hb : b = 9 ∨ b = 56) {T : Nat} (hp : p < P) {σ τ : gx_R} (hE : EnvR σ τ P W T) (hN : NowR b σ τ (σ 7) P W H) (hd : σ (b + 1) p = 1) : ∃ σ' τ', Cl_goForward b (nI p) σ = some ((), σ') ∧ Md_runs (nI p) τ = some ((), τ') ∧ NowR b σ' τ' (σ 7) P W H ∧ (∀ c, c ≠ b + 5 → c ≠ b + 6 → σ' c = σ c) ∧ (∀ c, c ≠ 109 → c ≠ 139 → c ≠ 140 → τ' c = τ c) ∧ (∀ j, j ≠ 50 → τ' 109 j = τ 109 j) ∧ τ' 109 50 = τ 109 50 ||| ((1 : Int32) <<< (nI p &&& 31)) := by
  have hP := hE.1.1.1
  have hW := hE.1.1.2
  have h0 := hE.1.2.1.2.1
  have f0 := hE.1.2.1.2.2.1
  have e4 := hN.2.1 p hp
  have hp8 : p < 8 := by omega
  rcases hN.2.2.2.2.2.2.2.1 p hp with ⟨z1, -⟩ | ⟨-, w, hw, hwi⟩ | ⟨z1, -⟩
  · rw [hd] at z1; exact absurd z1 (by decide)
  · obtain ⟨e, z, he, he2, hz, g1, g2, g3, g4⟩ := hE.1.2.2.2.2.2 w hw
    obtain ⟨x, hx, hx2, hx3, hx4⟩ := hN.2.2.2.2.2.2.2.2.2.2 w (by omega)
    have hx5 := hN.2.2.2.2.1 w (by omega)
    have hx6 : x ≤ e := by
      have := hx4 hw
      rw [g1] at this
      exact (nI_leI (by omega) (by omega)).mp this
    have w6 : w < 6 := by omega
    have w9 : 42 + w < 8880 := by omega
    have hN1 : NowR b (gx_up σ (b + 6) w (nI (if x + 1 < e then x + 1 else e))) (gx_up (gx_up τ 109 50 (τ 109 50 ||| ((1 : Int32) <<< (nI p &&& 31)))) 139 w (nI (if x + 1 < e then x + 1 else e))) (σ 7) P W H := by
      obtain ⟨r1, r2, r3, r4, r5, ⟨r6, r7, r8⟩, r9, r10, r11, r12, r13⟩ := hN
      refine ⟨fun i hi => ?_, fun i hi => ?_, fun i hi hi2 => ?_, fun i hi => ?_, fun i hi => ?_, ⟨?_, ?_, ?_⟩, ?_, fun i hi => ?_, fun i hi => ?_, fun i j hi hj => ?_, fun i hi => ?_⟩
      · have := r1 i hi; grind [gx_up]
      · have := r2 i hi; grind [gx_up]
      · have := r3 i hi hi2; grind [gx_up]
      · have := r4 i hi; grind [gx_up]
      · have := r5 i hi; grind [gx_up]
      · grind [gx_up]
      · grind [gx_up]
      · grind [gx_up]
      · rw [gx_up_ne (show b ≠ b + 6 by omega)]; exact r9
      · rw [gx_up_ne (show b + 1 ≠ b + 6 by omega), gx_up_ne (show b + 2 ≠ b + 6 by omega)]
        exact r10 i hi
      · rw [gx_up_ne (show b + 3 ≠ b + 6 by omega), gx_up_ne (show b + 4 ≠ b + 6 by omega)]
        exact r11 i hi
      · rw [gx_up_ne (show b + 5 ≠ b + 6 by omega)]
        exact r12 i j hi hj
      · by_cases hiw : i = w
        · subst hiw
          refine ⟨if x + 1 < e then x + 1 else e, by rw [up_e], by split <;> omega, fun q => by omega, fun q => ?_⟩
          rw [g1]
          exact nI_le (by split <;> omega) (by omega)
        · rw [up_p _ _ _ hiw]; exact r13 i hi
    obtain ⟨σ', τ', q1, q2, q3, q4, q5⟩ := owe_L hb hP hp P 0 z_FU z_FU _ _ (by omega) (Nat.lt_of_le_of_lt (show 8 - 0 ≤ 8 by omega) (Nat.lt_of_lt_of_le (by decide) z_FU_ge)) (Nat.lt_of_le_of_lt hP (Nat.lt_of_lt_of_le (by decide) z_FU_ge)) (by rw [gx_up_ne (by omega), gx_up_ne (by omega)]; exact h0) (by rw [gx_up_ne (by omega), hd]; decide) hN1
    refine ⟨σ', τ', ?_, ?_, q3, fun c h1 h2 => (q4 c h1).trans (gx_up_ne h2), fun c h1 h2 h3 => by rw [q5 c h3, gx_up_ne h2, gx_up_ne h1], fun j h1 => by rw [q5 109 (by omega), gx_up_ne (by omega), up_p τ 109 _ h1], by rw [q5 109 (by omega), gx_up_ne (by omega), up_e]⟩
    · rw [Cl_goForward, ix_t hp8 (by omega), w_ck, cl_n (by omega), hwi, Fo_isWork_v f0 hW, w_bd, ix_t hw (by omega), bI_t, if_neg (by decide), ix_t w6 (by omega), w_ck, w_ck, w_ck, cl_n (by omega), hx, g1]
      have : (if nI x + (1 : Int32) < nI e then nI x + (1 : Int32) else nI e) = nI (if x + 1 < e then x + 1 else e) := by
        simp (disch := omega) only [nI_1, nI_ltI]
        split <;> rfl
      rw [this]
      exact q1
    · have hwi2 : τ 136 p = nI w := e4.trans hwi
      have hx7 : τ 139 w = nI x := hx5.trans hx
      simp (disch := omega) only [Md_runs, Md_runs_32, z_c0, z_c1, nI_leI, nI_ltI, nI_eq, ix_n, cl_n, nI_add, pk_mul, nI_1, n_lt0, n_0le, n_le0, n_0lt, n_eq0, n_1le, n_le1, n_lt1, n_1lt, n_eq1, n_m1, n_m1a, L_2, L_3, L_4, L_5, L_6, L_7, L_8, L_9, L_10, L_11, L_12, L_14, L_15, L_16, L_17, L_18, L_20, L_21, L_24, L_26, L_30, L_32, L_34, L_35, L_36, L_37, L_38, L_39, L_40, L_41, L_42, L_43, L_44, L_45, L_46, L_47, L_48, L_57, L_59, L_60, L_61, L_62, L_64, L_65, L_68, L_76, L_80, L_84, L_90, L_92, L_96, L_97, L_98, L_99, L_100, L_104, L_122, L_139, L_140, L_162, L_163, L_164, L_200, L_241, L_255, L_256, L_280, L_284, L_300, L_301, L_303, L_309, L_360, L_400, L_401, L_402, L_403, L_404, L_405, L_406, L_407, L_408, L_999, L_1600, L_3120, L_8596, L_8880, L_9999, L_10000, L_30211, L_99999, L_1000000, hp8, hwi2, w6, w9, gx_up_ne (show 110 ≠ 109 by omega), gx_up_ne (show 139 ≠ 109 by omega), g2, hx7, w_bd, w_ck, bI_0, bI_1, bI_bo, bo_0, bo_1, decide_true, decide_false, if_true, if_false, ite_true, ite_false, not_true_eq_false, not_false_eq_true, Bool.true_eq_false, Bool.false_eq_true]
      by_cases c : e ≤ x
      · have ee : (if x + 1 < e then x + 1 else e) = x + 0 := by rw [if_neg (by omega)]; omega
        rw [if_pos c, show nI x + 0 = nI (x + 0) from nI_add x 0]
        rw [ee] at q2
        exact q2
      · have ee : (if x + 1 < e then x + 1 else e) = x + 1 := by split <;> omega
        rw [if_neg c]
        rw [ee] at q2
        exact q2
  · rw [hd] at z1; exact absurd z1 (by decide)
theorem run_t {b P : Nat} {σ : gx_R} (h : ∀ p, P ≤ p → p < 8 → σ (b + 1) p = 0) : ∀ m j n, j + m = 8 → P ≤ j → m < n → Cl_pass_33 n b (nI j) σ = Cl_pass_77 b σ := by
  intro m
  induction m with
  | zero =>
    intro j n hj hP hn
    obtain ⟨n, rfl⟩ : ∃ q, n = q + 1 := ⟨n - 1, by omega⟩
    obtain rfl : j = 8 := by omega
    simp (disch := omega) only [Cl_pass_33, Cl_pass_33_B, z_c0, z_c1, nI_leI, nI_ltI, nI_eq, ix_n, cl_n, nI_add, pk_mul, nI_1, n_lt0, n_0le, n_le0, n_0lt, n_eq0, n_1le, n_le1, n_lt1, n_1lt, n_eq1, n_m1, n_m1a, L_2, L_3, L_4, L_5, L_6, L_7, L_8, L_9, L_10, L_11, L_12, L_14, L_15, L_16, L_17, L_18, L_20, L_21, L_24, L_26, L_30, L_32, L_34, L_35, L_36, L_37, L_38, L_39, L_40, L_41, L_42, L_43, L_44, L_45, L_46, L_47, L_48, L_57, L_59, L_60, L_61, L_62, L_64, L_65, L_68, L_76, L_80, L_84, L_90, L_92, L_96, L_97, L_98, L_99, L_100, L_104, L_122, L_139, L_140, L_162, L_163, L_164, L_200, L_241, L_255, L_256, L_280, L_284, L_300, L_301, L_303, L_309, L_360, L_400, L_401, L_402, L_403, L_404, L_405, L_406, L_407, L_408, L_999, L_1600, L_3120, L_8596, L_8880, L_9999, L_10000, L_30211, L_99999, L_1000000, Nat.le_refl, w_bd, w_ck, bI_0, bI_1, bI_bo, bo_0, bo_1, decide_true, decide_false, if_true, if_false, ite_true, ite_false, not_true_eq_false, not_false_eq_true, Bool.true_eq_false, Bool.false_eq_true]
  | succ m ih =>
    intro j n hj hP hn
    obtain ⟨n, rfl⟩ : ∃ q, n = q + 1 := ⟨n - 1, by omega⟩
    have c1 : ¬ 8 ≤ j := by omega
    have c2 : j < 8 := by omega
    simp +decide (disch := omega) only [Cl_pass_33, Cl_pass_33_B, Cl_pass_75, h j hP c2, L_8, nI_leI, ix_n, cl_n, nI_1, c1, c2, w_bd, w_ck, bI_0, bI_1, bI_bo, bo_0, bo_1, decide_true, decide_false, if_true, if_false, ite_true, ite_false, not_true_eq_false, not_false_eq_true, Bool.true_eq_false, Bool.false_eq_true]
    exact ih (j + 1) n (by omega) (by omega) (by omega)
theorem run_L {b P W T H : Nat} (hb : b = 9 ∨ b = 56) (hP : P ≤ 8) (hH : H ≤ 2000) : ∀ m k n n' σ τ, k + m = P → 8 - k < n → m < n' → EnvR σ τ P W T → NowR b σ τ (σ 7) P W H → τ 109 50 = σ 53 4 → τ 109 51 = σ 53 5 → BitsIn (σ 53 4) P (σ (b + 1)) → BitsIn (σ 53 5) P (σ (b + 1)) →
    ∃ σ' τ', Cl_pass_33 n b (nI k) σ = Cl_pass_77 b σ' ∧ Md_hourGoes_36 n' (nI k) τ = Md_hourGoes_79 τ' ∧ EnvR σ' τ' P W T ∧ NowR b σ' τ' (σ' 7) P W H ∧ τ' 109 50 = σ' 53 4 ∧ τ' 109 51 = σ' 53 5 ∧ BitsIn (σ' 53 4) P (σ' (b + 1)) ∧ BitsIn (σ' 53 5) P (σ' (b + 1)) ∧
      (∀ c, c ≠ 51 → c ≠ 52 → c ≠ 53 → c ≠ b + 5 → c ≠ b + 6 → σ' c = σ c) ∧ σ' 53 6 = σ 53 6 ∧ (∀ c, c ≠ 109 → c ≠ 133 → c ≠ 134 → c ≠ 139 → c ≠ 140 → τ' c = τ c) ∧ (∀ j, j ≠ 50 → j ≠ 51 → τ' 109 j = τ 109 j) := by
  intro m
  induction m with
  | zero =>
    intro k n n' σ τ hk hn hn' hE hN h1 h2 h3 h4
    obtain ⟨n', rfl⟩ : ∃ q, n' = q + 1 := ⟨n' - 1, by omega⟩
    obtain rfl : k = P := by omega
    refine ⟨σ, τ, run_t (fun p h1 h2 => (hN.2.2.1 p h1 h2).1) (8 - k) k n (by omega) (by omega) hn, ?_, hE, hN, h1, h2, h3, h4, fun _ _ _ _ _ _ => rfl, rfl, fun _ _ _ _ _ _ => rfl, fun _ _ _ => rfl⟩
    have h0 := hE.1.2.1.2.1
    simp (disch := omega) only [Md_hourGoes_36, Md_hourGoes_36_B, z_c0, z_c1, nI_leI, nI_ltI, nI_eq, ix_n, cl_n, nI_add, pk_mul, nI_1, n_lt0, n_0le, n_le0, n_0lt, n_eq0, n_1le, n_le1, n_lt1, n_1lt, n_eq1, n_m1, n_m1a, L_2, L_3, L_4, L_5, L_6, L_7, L_8, L_9, L_10, L_11, L_12, L_14, L_15, L_16, L_17, L_18, L_20, L_21, L_24, L_26, L_30, L_32, L_34, L_35, L_36, L_37, L_38, L_39, L_40, L_41, L_42, L_43, L_44, L_45, L_46, L_47, L_48, L_57, L_59, L_60, L_61, L_62, L_64, L_65, L_68, L_76, L_80, L_84, L_90, L_92, L_96, L_97, L_98, L_99, L_100, L_104, L_122, L_139, L_140, L_162, L_163, L_164, L_200, L_241, L_255, L_256, L_280, L_284, L_300, L_301, L_303, L_309, L_360, L_400, L_401, L_402, L_403, L_404, L_405, L_406, L_407, L_408, L_999, L_1600, L_3120, L_8596, L_8880, L_9999, L_10000, L_30211, L_99999, L_1000000, h0, Nat.le_refl, w_bd, w_ck, bI_0, bI_1, bI_bo, bo_0, bo_1, decide_true, decide_false, if_true, if_false, ite_true, ite_false, not_true_eq_false, not_false_eq_true, Bool.true_eq_false, Bool.false_eq_true]
  | succ m ih =>
    intro k n n' σ τ hk hn hn' hE hN h1 h2 h3 h4
    obtain ⟨n, rfl⟩ : ∃ q, n = q + 1 := ⟨n - 1, by omega⟩
    obtain ⟨n', rfl⟩ : ∃ q, n' = q + 1 := ⟨n' - 1, by omega⟩
    have h0 := hE.1.2.1.2.1
    have c1 : ¬ 8 ≤ k := by omega
    have c2 : ¬ P ≤ k := by omega
    have c3 : k < 8 := by omega
    have e1 := (hN.1 k c3).1
    by_cases hs : σ (b + 1) k = 1
    · have hs2 : τ 135 k = 1 := e1.trans hs
      obtain ⟨w, hw, hwi⟩ : ∃ w, w < W ∧ σ (b + 2) k = nI w := by
        rcases hN.2.2.2.2.2.2.2.1 k (by omega) with ⟨z1, -⟩ | ⟨-, z⟩ | ⟨z1, -⟩
        · rw [hs] at z1; exact absurd z1 (by decide)
        · exact z
        · rw [hs] at z1; exact absurd z1 (by decide)
      obtain ⟨fu, σ1, τ1, hfu, f1, f2, f3, f4⟩ := fuel_v hb (show k < P by omega) hH hE hN
      have hE1 := EnvR_fr (lC_e f3) (lM_e f4) hE
      have hN1 : NowR b σ1 τ1 (σ1 7) P W H := by
        rw [f3 7 (by omega) (by omega)]; exact NowR_l hb f3 f4 hN
      obtain ⟨bu, σ2, τ2, hbu, g1, g2, g3, g4⟩ := burnN_v hb (show k < P by omega) hw hH hE1 hN1 (by rw [f3 (b + 2) (by omega) (by omega)]; exact hwi)
      have hE2 := EnvR_fr (lC_e g3) (lM_e g4) hE1
      have hN2 : NowR b σ2 τ2 (σ2 7) P W H := by
        rw [g3 7 (by omega) (by omega)]; exact NowR_l hb g3 g4 hN1
      have g34 := lC_tr f3 g3
      have g44 := lM_tr f4 g4
      have s53 : σ2 53 = σ 53 := g34 53 (by omega) (by omega)
      have t109 : τ2 109 = τ 109 := g44 109 (by omega) (by omega)
      have sd : σ2 (b + 1) = σ (b + 1) := g34 (b + 1) (by omega) (by omega)
      by_cases c4 : fu < bu
      · have hE3 : EnvR (gx_up σ2 53 5 (σ 53 5 ||| ((1 : Int32) <<< (nI k &&& 31)))) (gx_up τ2 109 51 (τ 109 51 ||| ((1 : Int32) <<< (nI k &&& 31)))) P W T := EnvR_fr (fun c hc => gx_up_ne (by omega)) ⟨fun i _ => by rw [gx_up_ne (by omega)], fun c _ _ => gx_up_ne (by omega)⟩ hE2
        have hN3 : NowR b (gx_up σ2 53 5 (σ 53 5 ||| ((1 : Int32) <<< (nI k &&& 31)))) (gx_up τ2 109 51 (τ 109 51 ||| ((1 : Int32) <<< (nI k &&& 31)))) (gx_up σ2 53 5 (σ 53 5 ||| ((1 : Int32) <<< (nI k &&& 31))) 7) P W H := by
          rw [gx_up_ne (show 7 ≠ 53 by omega)]
          exact NowR_fr (fun c _ _ => gx_up_ne (by omega)) (fun c _ _ => gx_up_ne (by omega)) (up_p _ _ _ (by omega)) (up_p _ _ _ (by omega)) hN2
        obtain ⟨σ', τ', q1, q2, q3, q4, q5, q6, q7, q8, q9, q10, q11, q12⟩ := ih (k + 1) n n' _ _ (by omega) (by omega) (by omega) hE3 hN3 (by rw [up_p _ _ _ (by omega), up_p _ _ _ (by omega), t109, s53]; exact h1) (by rw [up_e, up_e, h2]) (by rw [up_p _ _ _ (by omega), gx_up_ne (by omega), s53, sd]; exact h3) (by rw [up_e, gx_up_ne (by omega), sd]; exact BitsIn_or h4 (by omega) hP hs)
        refine ⟨σ', τ', ?_, ?_, q3, q4, q5, q6, q7, q8, fun c d1 d2 d3 d4 d5 => by rw [q9 c d1 d2 d3 d4 d5, gx_up_ne d3, g34 c d1 d2], by rw [q10, up_p _ _ _ (by omega), s53], fun c d1 d2 d3 d4 d5 => by rw [q11 c d1 d2 d3 d4 d5, gx_up_ne d1, g44 c d2 d3], fun j d1 d2 => by rw [q12 j d1 d2, up_p _ _ _ d2, t109]⟩
        · simp (disch := omega) only [Cl_pass_33, Cl_pass_33_B, Cl_pass_75, hs, f1, g1, s53, L_8, nI_leI, nI_ltI, ix_n, cl_n, nI_1, c1, c3, c4, w_bd, w_ck, bI_0, bI_1, bI_bo, bo_0, bo_1, decide_true, decide_false, if_true, if_false, ite_true, ite_false, not_true_eq_false, not_false_eq_true, Bool.true_eq_false, Bool.false_eq_true]
          exact q1
        · simp (disch := omega) only [Md_hourGoes_36, Md_hourGoes_36_B, Md_hourGoes_77, z_c0, h0, hs2, f2, g2, t109, nI_leI, nI_ltI, ix_n, cl_n, nI_1, c2, c3, c4, w_bd, w_ck, bI_0, bI_1, bI_bo, bo_0, bo_1, decide_true, decide_false, if_true, if_false, ite_true, ite_false, not_true_eq_false, not_false_eq_true, Bool.true_eq_false, Bool.false_eq_true]
          exact q2
      · have hE3 : EnvR (gx_up σ2 53 4 (σ 53 4 ||| ((1 : Int32) <<< (nI k &&& 31)))) τ2 P W T := EnvR_fr (fun c hc => gx_up_ne (by omega)) (eM_rf _) hE2
        have hN3 : NowR b (gx_up σ2 53 4 (σ 53 4 ||| ((1 : Int32) <<< (nI k &&& 31)))) τ2 (gx_up σ2 53 4 (σ 53 4 ||| ((1 : Int32) <<< (nI k &&& 31))) 7) P W H := by
          rw [gx_up_ne (show 7 ≠ 53 by omega)]
          exact NowR_fr (fun c _ _ => gx_up_ne (by omega)) (fun c _ _ => rfl) rfl rfl hN2
        obtain ⟨σ3, τ3, p1, p2, p3, p4, p5, p6, p7⟩ := gf_v hb (show k < P by omega) hE3 hN3 (by rw [gx_up_ne (by omega), sd]; exact hs)
        have a7 : σ3 7 = gx_up σ2 53 4 (σ 53 4 ||| ((1 : Int32) <<< (nI k &&& 31))) 7 := p4 7 (by omega) (by omega)
        have a53 : σ3 53 = gx_up σ2 53 4 (σ 53 4 ||| ((1 : Int32) <<< (nI k &&& 31))) 53 := p4 53 (by omega) (by omega)
        have ad : σ3 (b + 1) = σ (b + 1) := by rw [p4 (b + 1) (by omega) (by omega), gx_up_ne (by omega), sd]
        have hE4 : EnvR σ3 τ3 P W T := EnvR_fr (fun c hc => p4 c (by omega) (by omega)) ⟨fun i _ => by rw [p5 110 (by omega) (by omega) (by omega)], fun c _ _ => p5 c (by omega) (by omega) (by omega)⟩ hE3
        obtain ⟨σ', τ', q1, q2, q3, q4, q5, q6, q7, q8, q9, q10, q11, q12⟩ := ih (k + 1) n n' _ _ (by omega) (by omega) (by omega) hE4 (by rw [a7]; exact p3) (by rw [p7, a53, up_e, t109, h1]) (by rw [p6 51 (by omega), a53, up_p _ _ _ (by omega), t109, s53, h2]) (by rw [a53, up_e, ad]; exact BitsIn_or h3 (by omega) hP hs) (by rw [a53, up_p _ _ _ (by omega), s53, ad]; exact h4)
        refine ⟨σ', τ', ?_, ?_, q3, q4, q5, q6, q7, q8, fun c d1 d2 d3 d4 d5 => by rw [q9 c d1 d2 d3 d4 d5, p4 c d4 d5, gx_up_ne d3, g34 c d1 d2], by rw [q10, a53, up_p _ _ _ (by omega), s53], fun c d1 d2 d3 d4 d5 => by rw [q11 c d1 d2 d3 d4 d5, p5 c d1 d4 d5, g44 c d2 d3], fun j d1 d2 => by rw [q12 j d1 d2, p6 j d1, t109]⟩
        · simp (disch := omega) only [Cl_pass_33, Cl_pass_33_B, Cl_pass_75, hs, f1, g1, s53, p1, L_8, nI_leI, nI_ltI, ix_n, cl_n, nI_1, c1, c3, c4, w_bd, w_ck, bI_0, bI_1, bI_bo, bo_0, bo_1, decide_true, decide_false, if_true, if_false, ite_true, ite_false, not_true_eq_false, not_false_eq_true, Bool.true_eq_false, Bool.false_eq_true]
          exact q1
        · simp (disch := omega) only [Md_hourGoes_36, Md_hourGoes_36_B, Md_hourGoes_77, z_c0, h0, hs2, f2, g2, p2, nI_leI, nI_ltI, ix_n, cl_n, nI_1, c2, c3, c4, w_bd, w_ck, bI_0, bI_1, bI_bo, bo_0, bo_1, decide_true, decide_false, if_true, if_false, ite_true, ite_false, not_true_eq_false, not_false_eq_true, Bool.true_eq_false, Bool.false_eq_true]
          exact q2
    · have hs2 : ¬ τ 135 k = 1 := fun z => hs (e1.symm.trans z)
      obtain ⟨σ', τ', q1, q2, q3, q4, q5, q6, q7, q8, q9, q10, q11, q12⟩ := ih (k + 1) n n' σ τ (by omega) (by omega) (by omega) hE hN h1 h2 h3 h4
      refine ⟨σ', τ', ?_, ?_, q3, q4, q5, q6, q7, q8, q9, q10, q11, q12⟩
      · simp (disch := omega) only [Cl_pass_33, Cl_pass_33_B, Cl_pass_75, hs, L_8, nI_leI, ix_n, cl_n, nI_1, c1, c3, w_bd, w_ck, bI_0, bI_1, bI_bo, bo_0, bo_1, decide_true, decide_false, if_true, if_false, ite_true, ite_false, not_true_eq_false, not_false_eq_true, Bool.true_eq_false, Bool.false_eq_true]
        exact q1
      · simp (disch := omega) only [Md_hourGoes_36, Md_hourGoes_36_B, Md_hourGoes_77, z_c0, h0, hs2, nI_leI, ix_n, cl_n, nI_1, c2, c3, w_bd, w_ck, bI_0, bI_1, bI_bo, bo_0, bo_1, decide_true, decide_false, if_true, if_false, ite_true, ite_false, not_true_eq_false, not_false_eq_true, Bool.true_eq_false, Bool.false_eq_true]
        exact q2
