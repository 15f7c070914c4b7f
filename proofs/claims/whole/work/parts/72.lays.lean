/-! ===== the night laid out: about, kept, of ===== -/
theorem lays14 : ∀ m k n τ, k + m = 8 → m < n → ∃ τ', Md_laysNow_14 n (nI k) τ = Md_laysNow_59 τ' ∧ (∀ c, c ≠ 135 → c ≠ 136 → c ≠ 137 → c ≠ 138 → τ' c = τ c) ∧ ∀ j, τ' 135 j = (if k ≤ j ∧ j < 8 then τ 110 (60 + j) else τ 135 j) ∧ τ' 136 j = (if k ≤ j ∧ j < 8 then τ 110 (68 + j) else τ 136 j) ∧ τ' 137 j = (if k ≤ j ∧ j < 8 then τ 110 (76 + j) else τ 137 j) ∧ τ' 138 j = (if k ≤ j ∧ j < 8 then τ 110 (84 + j) else τ 138 j) := by
  intro m
  induction m with
  | zero =>
    intro k n τ hk hn
    obtain ⟨n, rfl⟩ : ∃ q, n = q + 1 := ⟨n - 1, by omega⟩
    have e : k = 8 := by omega
    subst e
    refine ⟨τ, by rw [Md_laysNow_14, Md_laysNow_14_B, if_pos (by decide)], fun _ _ _ _ _ => rfl, fun j => ⟨?_, ?_, ?_, ?_⟩⟩ <;> rw [if_neg (by omega)]
  | succ m ih =>
    intro k n τ hk hn
    obtain ⟨n, rfl⟩ : ∃ q, n = q + 1 := ⟨n - 1, by omega⟩
    obtain ⟨τ', q1, q2, q3⟩ := ih (k + 1) n (gx_up (gx_up (gx_up (gx_up τ 135 k (τ 110 (60 + k))) 136 k (τ 110 (68 + k))) 137 k (τ 110 (76 + k))) 138 k (τ 110 (84 + k))) (by omega) (by omega)
    have c0 : k < 8 := by omega
    have c1 : 60 + k < 8880 := by omega
    have c2 : 68 + k < 8880 := by omega
    have c3 : 76 + k < 8880 := by omega
    have c4 : 84 + k < 8880 := by omega
    have c5 : ¬ 8 ≤ k := by omega
    refine ⟨τ', ?_, fun c z1 z2 z3 z4 => by rw [q2 c z1 z2 z3 z4, gx_up_ne z4, gx_up_ne z3, gx_up_ne z2, gx_up_ne z1], fun j => ?_⟩
    · simp (disch := omega) only [Md_laysNow_14, Md_laysNow_14_B, z_c0, z_c1, nI_leI, nI_ltI, nI_eq, ix_n, cl_n, nI_add, pk_mul, nI_1, n_lt0, n_0le, n_le0, n_0lt, n_eq0, n_1le, n_le1, n_lt1, n_1lt, n_eq1, n_m1, n_m1a, L_2, L_3, L_4, L_5, L_6, L_7, L_8, L_9, L_10, L_11, L_12, L_14, L_15, L_16, L_17, L_18, L_20, L_21, L_24, L_26, L_30, L_32, L_34, L_35, L_36, L_37, L_38, L_39, L_40, L_41, L_42, L_43, L_44, L_45, L_46, L_47, L_48, L_57, L_59, L_60, L_61, L_62, L_64, L_65, L_68, L_76, L_80, L_84, L_90, L_92, L_96, L_97, L_98, L_99, L_100, L_104, L_122, L_139, L_140, L_162, L_163, L_164, L_200, L_241, L_255, L_256, L_280, L_284, L_300, L_301, L_303, L_309, L_360, L_400, L_401, L_402, L_403, L_404, L_405, L_406, L_407, L_408, L_999, L_1600, L_3120, L_8596, L_8880, L_9999, L_10000, L_30211, L_99999, L_1000000, up_c, c0, c1, c2, c3, c4, c5, w_bd, w_ck, bI_0, bI_1, bI_bo, bo_0, bo_1, decide_true, decide_false, if_true, if_false, ite_true, ite_false, not_true_eq_false, not_false_eq_true, Bool.true_eq_false, Bool.false_eq_true]
      exact q1
    · obtain ⟨e1, e2, e3, e4⟩ := q3 j
      refine ⟨?_, ?_, ?_, ?_⟩
      · rw [e1]; grind [gx_up]
      · rw [e2]; grind [gx_up]
      · rw [e3]; grind [gx_up]
      · rw [e4]; grind [gx_up]
theorem lays61 : ∀ m k n τ, k + m = 6 → m < n → ∃ τ', Md_laysNow_61 n (nI k) τ = Md_laysNow_76 τ' ∧ (∀ c, c ≠ 139 → τ' c = τ c) ∧ ∀ j, τ' 139 j = (if k ≤ j ∧ j < 6 then τ 110 (92 + j) else τ 139 j) := by
  intro m
  induction m with
  | zero =>
    intro k n τ hk hn
    obtain ⟨n, rfl⟩ : ∃ q, n = q + 1 := ⟨n - 1, by omega⟩
    have e : k = 6 := by omega
    subst e
    refine ⟨τ, by rw [Md_laysNow_61, Md_laysNow_61_B, if_pos (by decide)], fun _ _ => rfl, fun j => ?_⟩
    rw [if_neg (by omega)]
  | succ m ih =>
    intro k n τ hk hn
    obtain ⟨n, rfl⟩ : ∃ q, n = q + 1 := ⟨n - 1, by omega⟩
    obtain ⟨τ', q1, q2, q3⟩ := ih (k + 1) n (gx_up τ 139 k (τ 110 (92 + k))) (by omega) (by omega)
    have c0 : k < 6 := by omega
    have c1 : 92 + k < 8880 := by omega
    have c5 : ¬ 6 ≤ k := by omega
    refine ⟨τ', ?_, fun c z1 => by rw [q2 c z1, gx_up_ne z1], fun j => ?_⟩
    · simp (disch := omega) only [Md_laysNow_61, Md_laysNow_61_B, z_c0, z_c1, nI_leI, nI_ltI, nI_eq, ix_n, cl_n, nI_add, pk_mul, nI_1, n_lt0, n_0le, n_le0, n_0lt, n_eq0, n_1le, n_le1, n_lt1, n_1lt, n_eq1, n_m1, n_m1a, L_2, L_3, L_4, L_5, L_6, L_7, L_8, L_9, L_10, L_11, L_12, L_14, L_15, L_16, L_17, L_18, L_20, L_21, L_24, L_26, L_30, L_32, L_34, L_35, L_36, L_37, L_38, L_39, L_40, L_41, L_42, L_43, L_44, L_45, L_46, L_47, L_48, L_57, L_59, L_60, L_61, L_62, L_64, L_65, L_68, L_76, L_80, L_84, L_90, L_92, L_96, L_97, L_98, L_99, L_100, L_104, L_122, L_139, L_140, L_162, L_163, L_164, L_200, L_241, L_255, L_256, L_280, L_284, L_300, L_301, L_303, L_309, L_360, L_400, L_401, L_402, L_403, L_404, L_405, L_406, L_407, L_408, L_999, L_1600, L_3120, L_8596, L_8880, L_9999, L_10000, L_30211, L_99999, L_1000000, c0, c1, c5, w_bd, w_ck, bI_0, bI_1, bI_bo, bo_0, bo_1, decide_true, decide_false, if_true, if_false, ite_true, ite_false, not_true_eq_false, not_false_eq_true, Bool.true_eq_false, Bool.false_eq_true]
      exact q1
    · rw [q3 j]; grind [gx_up]
theorem lays78 : ∀ m k n τ, k + m = 64 → m < n → ∃ τ', Md_laysNow_78 n (nI k) τ = some ((), τ') ∧ (∀ c, c ≠ 140 → τ' c = τ c) ∧ ∀ j, τ' 140 j = (if k ≤ j ∧ j < 64 then τ 110 (98 + j) else τ 140 j) := by
  intro m
  induction m with
  | zero =>
    intro k n τ hk hn
    obtain ⟨n, rfl⟩ : ∃ q, n = q + 1 := ⟨n - 1, by omega⟩
    have e : k = 64 := by omega
    subst e
    refine ⟨τ, by rw [Md_laysNow_78, Md_laysNow_78_B, if_pos (by decide)], fun _ _ => rfl, fun j => ?_⟩
    rw [if_neg (by omega)]
  | succ m ih =>
    intro k n τ hk hn
    obtain ⟨n, rfl⟩ : ∃ q, n = q + 1 := ⟨n - 1, by omega⟩
    obtain ⟨τ', q1, q2, q3⟩ := ih (k + 1) n (gx_up τ 140 k (τ 110 (98 + k))) (by omega) (by omega)
    have c0 : k < 64 := by omega
    have c1 : 98 + k < 8880 := by omega
    have c5 : ¬ 64 ≤ k := by omega
    refine ⟨τ', ?_, fun c z1 => by rw [q2 c z1, gx_up_ne z1], fun j => ?_⟩
    · simp (disch := omega) only [Md_laysNow_78, Md_laysNow_78_B, z_c0, z_c1, nI_leI, nI_ltI, nI_eq, ix_n, cl_n, nI_add, pk_mul, nI_1, n_lt0, n_0le, n_le0, n_0lt, n_eq0, n_1le, n_le1, n_lt1, n_1lt, n_eq1, n_m1, n_m1a, L_2, L_3, L_4, L_5, L_6, L_7, L_8, L_9, L_10, L_11, L_12, L_14, L_15, L_16, L_17, L_18, L_20, L_21, L_24, L_26, L_30, L_32, L_34, L_35, L_36, L_37, L_38, L_39, L_40, L_41, L_42, L_43, L_44, L_45, L_46, L_47, L_48, L_57, L_59, L_60, L_61, L_62, L_64, L_65, L_68, L_76, L_80, L_84, L_90, L_92, L_96, L_97, L_98, L_99, L_100, L_104, L_122, L_139, L_140, L_162, L_163, L_164, L_200, L_241, L_255, L_256, L_280, L_284, L_300, L_301, L_303, L_309, L_360, L_400, L_401, L_402, L_403, L_404, L_405, L_406, L_407, L_408, L_999, L_1600, L_3120, L_8596, L_8880, L_9999, L_10000, L_30211, L_99999, L_1000000, c0, c1, c5, w_bd, w_ck, bI_0, bI_1, bI_bo, bo_0, bo_1, decide_true, decide_false, if_true, if_false, ite_true, ite_false, not_true_eq_false, not_false_eq_true, Bool.true_eq_false, Bool.false_eq_true]
      exact q1
    · rw [q3 j]; grind [gx_up]
theorem lays_v (τ : gx_R) : ∃ τ', Md_laysNow τ = some ((), τ') ∧ (∀ c, c ≠ 109 → ¬ (135 ≤ c ∧ c ≤ 140) → τ' c = τ c) ∧ (∀ j, j ≠ 42 → j ≠ 43 → τ' 109 j = τ 109 j) ∧ ∀ i, i < 104 → nuM τ' i = τ 110 (60 + i) := by
  obtain ⟨τ1, q1, q2, q3⟩ := lays14 8 0 z_FU (gx_up (gx_up τ 109 42 (τ 110 162)) 109 43 (τ 110 163)) (by omega) (Nat.lt_of_lt_of_le (by decide) z_FU_ge)
  obtain ⟨τ2, q4, q5, q6⟩ := lays61 6 0 z_FU τ1 (by omega) (Nat.lt_of_lt_of_le (by decide) z_FU_ge)
  obtain ⟨τ3, q7, q8, q9⟩ := lays78 64 0 z_FU τ2 (by omega) (Nat.lt_of_lt_of_le (by decide) z_FU_ge)
  have e1 : ∀ c, c ≠ 109 → c ≠ 135 → c ≠ 136 → c ≠ 137 → c ≠ 138 → τ1 c = τ c := fun c z1 z2 z3 z4 z5 => by rw [q2 c z2 z3 z4 z5, gx_up_ne z1, gx_up_ne z1]
  refine ⟨τ3, ?_, fun c z1 z2 => by rw [q8 c (by omega), q5 c (by omega), e1 c z1 (by omega) (by omega) (by omega) (by omega)], fun j z1 z2 => by rw [q8 109 (by omega), q5 109 (by omega), q2 109 (by omega) (by omega) (by omega) (by omega), up_p _ _ _ z2, up_p _ _ _ z1], fun i hi => ?_⟩
  · have e : Md_laysNow τ = Md_laysNow_14 z_FU (nI 0) (gx_up (gx_up τ 109 42 (τ 110 162)) 109 43 (τ 110 163)) := rfl
    rw [e, q1]
    exact q4.trans q7
  · have e110 : τ1 110 = τ 110 := e1 110 (by omega) (by omega) (by omega) (by omega) (by omega)
    have e110' : τ2 110 = τ 110 := (q5 110 (by omega)).trans e110
    have g : ∀ c, c ≠ 139 → c ≠ 140 → τ3 c = τ1 c := fun c z1 z2 => by rw [q8 c z2, q5 c z1]
    have h110 : gx_up (gx_up τ 109 42 (τ 110 162)) 109 43 (τ 110 163) 110 = τ 110 := by rw [gx_up_ne (by omega), gx_up_ne (by omega)]
    unfold nuM
    split
    · rw [g 135 (by omega) (by omega), (q3 i).1, if_pos (by omega), h110]
    · split
      · rw [g 136 (by omega) (by omega), (q3 _).2.1, if_pos (by omega), h110]; congr 1; omega
      · split
        · rw [g 137 (by omega) (by omega), (q3 _).2.2.1, if_pos (by omega), h110]; congr 1; omega
        · split
          · rw [g 138 (by omega) (by omega), (q3 _).2.2.2, if_pos (by omega), h110]; congr 1; omega
          · split
            · rw [q8 139 (by omega), q6, if_pos (by omega), e110]; congr 1; omega
            · split
              · rw [q9, if_pos (by omega), e110']; congr 1; omega
              · rw [q8 109 (by omega), q5 109 (by omega), q2 109 (by omega) (by omega) (by omega) (by omega)]
                split
                · rename_i h; subst h; rw [up_p _ _ _ (by omega), up_e]
                · rw [up_e]; congr 1; omega
theorem lays_R {σ τ : gx_R} {P W H K T : Nat} (r : ValleyR σ 1 (τ 110) P W H K T) : ∃ τ', Md_laysNow τ = some ((), τ') ∧ NowR 9 σ τ' (σ 7) P W H ∧ (∀ c, c ≠ 109 → ¬ (135 ≤ c ∧ c ≤ 140) → τ' c = τ c) ∧ (∀ j, j ≠ 42 → j ≠ 43 → τ' 109 j = τ 109 j) := by
  obtain ⟨τ', q1, q2, q3, q4⟩ := lays_v τ
  have hP := r.1.1.1
  exact ⟨τ', q1, (NowR_iff hP).mp (NightR_cong hP (fun _ _ => rfl) q4 (fun _ _ => rfl) r.2.1), q2, q3⟩
theorem those_eq {σ τ : gx_R} {P W H : Nat} {nd : gx_F} (hP : P ≤ 8) (hN : NowR 9 σ τ nd P W H) {a : Int32} (ha : a ≠ 0) : mk (fun p => decide (σ 10 p = a)) 8 = mk (fun p => decide (τ 135 p = a)) P := by
  apply b_ext
  intro i hi
  rw [mk_b (by omega) hi, mk_b (by omega) hi]
  by_cases h : i < P
  · rw [(hN.1 i (by omega)).1, decide_eq_true h, decide_eq_true (show i < 8 by omega)]
  · rw [decide_eq_false h, Bool.false_and]
    by_cases h2 : i < 8
    · have := (hN.2.2.1 i (by omega) h2).1
      rw [this, decide_eq_true h2, Bool.true_and]
      exact (decide_eq_false (fun z => ha z.symm)).trans rfl
    · rw [decide_eq_false h2, Bool.false_and]
theorem S_about {σ τ : gx_R} (r : Rel σ τ) (a1 : Int32) : SimP (Sf_about a1) (Md_about a1) σ τ := by
  obtain ⟨P, W, H, K, T, P', W', H', K', T', rr⟩ := id r
  have r1 := rr.1
  obtain ⟨τ', q1, hN, q3, q4⟩ := lays_R r1
  have hP := r1.1.1.1
  have p1 : σ 2 0 = nI P := r1.1.2.1.1
  have p2 : τ' 110 0 = nI P := by rw [q3 110 (by omega) (by omega)]; exact r1.1.2.1.2.1
  have w1 : σ 2 1 = nI W := r1.1.2.1.2.2.1
  have w2 : τ' 110 1 = nI W := by rw [q3 110 (by omega) (by omega)]; exact r1.1.2.1.2.2.2
  have h1 : τ' 110 162 = σ 9 6 := by rw [q3 110 (by omega) (by omega)]; exact r1.2.1.2.2.2.2.2.1.1
  have x1 : τ' 110 163 = σ 9 7 := by rw [q3 110 (by omega) (by omega)]; exact r1.2.1.2.2.2.2.2.1.2.1
  obtain ⟨q5, q6, q7⟩ := r1.2.2.2.2.2.2
  have q5' : σ 1 4 = nI T := q5.1
  have q6' : τ' 110 2 = nI T := by rw [q3 110 (by omega) (by omega)]; exact q5.2.1
  have q7' : τ' 110 3 = σ 1 5 := by rw [q3 110 (by omega) (by omega)]; exact q6
  obtain ⟨k1, k2⟩ := r1.2.2.2.2.2.1
  have k1' : σ 16 2 = nI K := k1
  have k2' : τ' 110 4 = nI K := by rw [q3 110 (by omega) (by omega)]; exact k2
  obtain ⟨c, t1, t2, t3, t4⟩ := rr.2.2.2.1
  have t3' : τ' 109 3 = nI c := by rw [q4 3 (by omega) (by omega)]; exact t3
  have hsm : sm τ τ' := ⟨fun k hk => q3 k (by omega) (by omega), fun j hj => q4 j (by omega) (by omega)⟩
  have go : ∀ v, Sf_about a1 σ = some (v, σ) → Md_about a1 τ = some (v, τ') → SimP (Sf_about a1) (Md_about a1) σ τ := fun v y1 y2 => SimP_sc r v y1 y2 (sc_rf σ) hsm
  by_cases e0 : a1 = 0
  · exact go (nI P) (by rw [Sf_about, if_pos e0, p1]) (by rw [Md_about, q1, w_bd, if_pos e0]; exact congrArg (fun z => some (z, τ')) p2)
  by_cases e1 : a1 = 1
  · exact go (nI W) (by rw [Sf_about, if_neg e0, if_pos e1, w1]) (by rw [Md_about, q1, w_bd, if_neg e0, if_pos e1]; exact congrArg (fun z => some (z, τ')) w2)
  by_cases e2 : a1 = 2
  · exact go (σ 9 6) (by rw [Sf_about, if_neg e0, if_neg e1, if_pos e2]) (by rw [Md_about, q1, w_bd, if_neg e0, if_neg e1, if_pos e2]; exact congrArg (fun z => some (z, τ')) h1)
  by_cases e3 : a1 = 3
  · exact go (σ 9 7) (by rw [Sf_about, if_neg e0, if_neg e1, if_neg e2, if_pos e3]) (by rw [Md_about, q1, w_bd, if_neg e0, if_neg e1, if_neg e2, if_pos e3]; exact congrArg (fun z => some (z, τ')) x1)
  by_cases e4 : a1 = 4
  · exact go (nI T) (by rw [Sf_about, if_neg e0, if_neg e1, if_neg e2, if_neg e3, if_pos e4, q5']) (by rw [Md_about, q1, w_bd, if_neg e0, if_neg e1, if_neg e2, if_neg e3, if_pos e4]; exact congrArg (fun z => some (z, τ')) q6')
  by_cases e5 : a1 = 5
  · exact go (σ 1 5) (by rw [Sf_about, if_neg e0, if_neg e1, if_neg e2, if_neg e3, if_neg e4, if_pos e5]) (by rw [Md_about, q1, w_bd, if_neg e0, if_neg e1, if_neg e2, if_neg e3, if_neg e4, if_pos e5]; exact congrArg (fun z => some (z, τ')) q7')
  by_cases e6 : a1 = 6
  · exact go (nI K) (by rw [Sf_about, if_neg e0, if_neg e1, if_neg e2, if_neg e3, if_neg e4, if_neg e5, if_pos e6, k1']) (by rw [Md_about, q1, w_bd, if_neg e0, if_neg e1, if_neg e2, if_neg e3, if_neg e4, if_neg e5, if_pos e6]; exact congrArg (fun z => some (z, τ')) k2')
  by_cases e7 : a1 = 7
  · exact go (mk (fun p => decide (σ 10 p = 1)) 8) (by rw [Sf_about, if_neg e0, if_neg e1, if_neg e2, if_neg e3, if_neg e4, if_neg e5, if_neg e6, if_pos e7, Ni_those_v, w_bd]) (by rw [Md_about, q1, w_bd, if_neg e0, if_neg e1, if_neg e2, if_neg e3, if_neg e4, if_neg e5, if_neg e6, if_pos e7, allThat_v hP _ p2, w_bd, those_eq hP hN (by decide)])
  by_cases e8 : a1 = 8
  · exact go (mk (fun p => decide (σ 10 p = 2)) 8) (by rw [Sf_about, if_neg e0, if_neg e1, if_neg e2, if_neg e3, if_neg e4, if_neg e5, if_neg e6, if_neg e7, if_pos e8, Ni_those_v, w_bd]) (by rw [Md_about, q1, w_bd, if_neg e0, if_neg e1, if_neg e2, if_neg e3, if_neg e4, if_neg e5, if_neg e6, if_neg e7, if_pos e8, allThat_v hP _ p2, w_bd, those_eq hP hN (by decide)])
  by_cases e9 : a1 = 9
  · exact go (nI c) (by rw [Sf_about, if_neg e0, if_neg e1, if_neg e2, if_neg e3, if_neg e4, if_neg e5, if_neg e6, if_neg e7, if_neg e8, if_pos e9, t2]) (by rw [Md_about, q1, w_bd, if_neg e0, if_neg e1, if_neg e2, if_neg e3, if_neg e4, if_neg e5, if_neg e6, if_neg e7, if_neg e8, if_pos e9, t3'])
  · exact go (-2) (by rw [Sf_about, if_neg e0, if_neg e1, if_neg e2, if_neg e3, if_neg e4, if_neg e5, if_neg e6, if_neg e7, if_neg e8, if_neg e9]) (by rw [Md_about, q1, w_bd, if_neg e0, if_neg e1, if_neg e2, if_neg e3, if_neg e4, if_neg e5, if_neg e6, if_neg e7, if_neg e8, if_neg e9])
theorem firstKept_v {σ : gx_R} {H : Nat} (h : σ 9 6 = nI H) (hH : H ≤ 999) : Va_firstKept σ = some (nI (H - 60), σ) := by
  unfold Va_firstKept
  rw [h]
  by_cases h6 : 60 < H
  · rw [show nI H - 60 = nI (H - 60) from pk_sub (b := 60) (by omega), if_pos (by rw [← nI_0, nI_ltI (by omega) (by omega)]; omega)]
  · have h1 : nI H ≤ 60 := (nI_leI (b := 60) (by omega) (by omega)).mpr (by omega)
    have h2 : (0 : Int32) ≤ nI H := by rw [← nI_0, nI_leI (by omega) (by omega)]; omega
    rw [if_neg (by grind), show H - 60 = 0 by omega]; rfl
theorem lg_b {r t l k : Nat} (hr : r < 256) (ht : t < 256) (hl : l < 256) (hk : k ≤ 2) : (nI (r + 256 * t + 65536 * l) >>> ((8 : Int32) * nI k &&& 31)) &&& 255 = nI (if k = 0 then r else if k = 1 then t else l) := by
  rcases (show k = 0 ∨ k = 1 ∨ k = 2 by omega) with rfl | rfl | rfl
  · rw [pk_shrN (by omega) _ 0 (by decide), pk_andN (by omega) 8 (by decide)]; congr 1; rw [if_pos rfl]; omega
  · rw [pk_shrN (by omega) _ 8 (by decide), pk_andN (by omega) 8 (by decide)]; congr 1; rw [if_neg (by omega), if_pos rfl]; omega
  · rw [pk_shrN (by omega) _ 16 (by decide), pk_andN (by omega) 8 (by decide)]; congr 1; rw [if_neg (by omega), if_neg (by omega)]; omega
theorem Sf_kept_v {σ : gx_R} {H : Nat} (h : σ 9 6 = nI H) (hH : H ≤ 999) (a1 a2 : Int32) : Sf_kept a1 a2 σ = if ¬ a1 < nI (H - 60) ∧ ¬ nI H ≤ a1 then Sf_kept_20 a1 a2 1 σ else some (-1, σ) := by
  have e : Sf_kept_19 Sf_kept_20 a1 a2 σ = some (-1, σ) := rfl
  unfold Sf_kept
  rw [firstKept_v h hH, w_bd, e, h]
  by_cases h1 : a1 < nI (H - 60)
  · rw [if_pos h1, if_neg (fun z => z.1 h1)]
  · rw [if_neg h1]
    by_cases h2 : nI H ≤ a1
    · rw [if_pos h2, if_neg (fun z => z.2 h2)]
    · have h3 : ¬ nI 999 ≤ a1 := fun z => h2 (Int32.le_trans ((nI_leI (by omega) (by omega)).mpr hH) z)
      rw [if_neg h2, if_neg h3, if_pos ⟨h1, h2⟩]
theorem isKept_v {τ : gx_R} {H : Nat} (h : τ 110 162 = nI H) (hH : H ≤ 999) (a1 : Int32) : Md_isKept a1 τ = some (bI (decide (¬ a1 < nI (H - 60) ∧ ¬ nI H ≤ a1)), τ) := by
  unfold Md_isKept
  rw [Md_in_v, w_bd, show τ 110 ((162 : Int32).toNatClampNeg) = nI H from h]
  have h2 : (0 : Int32) ≤ nI H := by rw [← nI_0, nI_leI (by omega) (by omega)]; omega
  have h3 : nI H ≤ 999 := (nI_leI (b := 999) (by omega) (by omega)).mpr hH
  have h4 : (0 : Int32) ≤ nI (H - 60) := by rw [← nI_0, nI_leI (by omega) (by omega)]; omega
  by_cases h6 : 60 ≤ H
  · have e : nI (H - 60) = nI H - 60 := (pk_sub (b := 60) (by omega)).symm
    rw [e] at h4 ⊢
    by_cases h5 : ¬ a1 < 0 ∧ ¬ nI H - 1 < a1
    · rw [decide_eq_true h5, bI_t, if_neg (by decide)]
      by_cases h7 : a1 < nI H - 60
      · rw [if_pos h7, decide_eq_false (fun z => z.1 h7)]; rfl
      · rw [if_neg h7, decide_eq_true ⟨h7, by grind⟩]; rfl
    · rw [decide_eq_false h5, bI_f, if_pos rfl, decide_eq_false (by grind)]; rfl
  · have e : nI (H - 60) = 0 := by rw [show H - 60 = 0 by omega]; rfl
    have e2 : nI H ≤ 59 := (nI_leI (b := 59) (by omega) (by omega)).mpr (by omega)
    rw [e]
    by_cases h5 : ¬ a1 < 0 ∧ ¬ nI H - 1 < a1
    · rw [decide_eq_true h5, bI_t, if_neg (by decide), if_neg (by grind), decide_eq_true (by grind)]; rfl
    · rw [decide_eq_false h5, bI_f, if_pos rfl, decide_eq_false (by grind)]; rfl
theorem S_kept {σ τ : gx_R} (r : Rel σ τ) (a1 a2 : Int32) : SimP (Sf_kept a1 a2) (Md_kept a1 a2) σ τ := by
  obtain ⟨P, W, H, K, T, P', W', H', K', T', rr⟩ := id r
  have r1 := rr.1
  have hH : H ≤ 999 := r1.2.2.1
  have c1 : σ 9 6 = nI H := r1.2.1.2.2.2.2.2.1.2.2
  have c2 : τ 110 162 = nI H := by rw [← c1]; exact r1.2.1.2.2.2.2.2.1.1
  by_cases hc : ¬ a1 < nI (H - 60) ∧ ¬ nI H ≤ a1
  · have cla : Sf_kept a1 a2 σ = Sf_kept_20 a1 a2 1 σ := by rw [Sf_kept_v c1 hH, if_pos hc]
    have mda : Md_kept a1 a2 τ = z_bd (Md_in a2 0 2 τ) (fun r5 σ6 => if r5 = 0 then some (-1, σ6) else z_ck (z_ix (((164 : Int32) + ((3 : Int32) * (a1 - a1 / (60 : Int32) * (60 : Int32)))) + a2) 8880) (some ((σ6 110 ((((164 : Int32) + ((3 : Int32) * (a1 - a1 / (60 : Int32) * (60 : Int32)))) + a2).toNatClampNeg)), σ6))) := by
      rw [Md_kept, isKept_v c2 hH, w_bd, decide_eq_true hc, bI_t, if_neg (by decide)]
    rw [Md_in_v, w_bd] at mda
    by_cases h1 : a2 < 0
    · exact SimP_ro r (-1) (by rw [cla, Sf_kept_20, if_neg (by decide), if_pos h1]) (by rw [mda, decide_eq_false (fun z => z.1 h1), bI_f, if_pos rfl])
    · by_cases h2 : a2 ≤ 2
      · have h2' : ¬ (2 : Int32) < a2 := Int32.not_lt.mpr h2
        obtain ⟨y, hy, hy2, rfl⟩ := in_nat (l := 0) (u := 2) (by omega) (by omega) h1 h2'
        obtain ⟨g1, g2⟩ := hc
        have g3 : (0 : Int32) ≤ nI (H - 60) := by rw [← nI_0, nI_leI (by omega) (by omega)]; omega
        obtain ⟨k, hk, rfl⟩ := nI_of (x := a1) (Int32.not_lt.mpr (Int32.le_trans g3 (Int32.not_lt.mp g1)))
        rw [nI_ltI (by omega) (by omega)] at g1
        rw [nI_leI (by omega) (by omega)] at g2
        obtain ⟨x0, x1, x2, b0, b1, b2, e1, e2, e3, e4⟩ := r1.2.2.2.1 k (by omega) (by omega)
        have e1 : σ 18 k = nI (x0 + 256 * x1 + 65536 * x2) := e1
        have d1 : k < 999 := by omega
        have d2 : k % 60 < 60 := Nat.mod_lt _ (by omega)
        have d3 : nI k - nI k / 60 * 60 = nI (k % 60) := by
          rw [show (60 : Int32) = nI 60 from rfl, pk_div (by omega) (by omega) (by omega), pk_mul, pk_sub (by omega)]; congr 1; omega
        refine SimP_ro r (nI (if y = 0 then x0 else if y = 1 then x1 else x2)) ?_ ?_
        · rw [cla, Sf_kept_20, if_neg (by decide), if_neg h1, if_pos h2, ix_t (show k < 999 by omega) (by omega), w_ck, cl_n (by omega), e1, lg_b b0 b1 b2 hy2]
        · have d4 : (164 : Int32) + 3 * nI (k % 60) + nI y = nI (164 + 3 * (k % 60) + y) := by
            rw [show (164 : Int32) = nI 164 from rfl, show (3 : Int32) = nI 3 from rfl, pk_mul, nI_add, nI_add]
          rw [mda, decide_eq_true ⟨h1, h2'⟩, bI_t, if_neg (by decide), d3, d4, ix_t (show 164 + 3 * (k % 60) + y < 8880 by omega) (by omega), w_ck, cl_n (by omega)]
          congr 2
          rcases (show y = 0 ∨ y = 1 ∨ y = 2 by omega) with rfl | rfl | rfl
          · rw [if_pos rfl, ← e2]; congr 1; omega
          · rw [if_neg (by omega), if_pos rfl, ← e3]; congr 1; omega
          · rw [if_neg (by omega), if_neg (by omega), ← e4]; congr 1; omega
      · have h2' : (2 : Int32) < a2 := Int32.not_le.mp h2
        exact SimP_ro r (-1) (by rw [cla, Sf_kept_20, if_neg (by decide), if_neg h1, if_neg h2]) (by rw [mda, decide_eq_false (fun z => z.2 h2'), bI_f, if_pos rfl])
  · exact SimP_ro r (-1) (by rw [Sf_kept_v c1 hH, if_neg hc]) (by rw [Md_kept, isKept_v c2 hH, w_bd, decide_eq_false hc, bI_f, if_pos rfl])
theorem S_of {σ τ : gx_R} (r : Rel σ τ) (a1 a2 : Int32) : SimP (Sf_of a1 a2) (Md_of a1 a2) σ τ := by
  obtain ⟨P, W, H, K, T, P', W', H', K', T', rr⟩ := id r
  have r1 := rr.1
  have hP := r1.1.1.1
  have hH : H ≤ 999 := r1.2.2.1
  have p1 : σ 2 0 = nI P := r1.1.2.1.1
  have p2 := r1.1.2.1.2.1
  have c1 : σ 9 6 = nI H := r1.2.1.2.2.2.2.2.1.2.2
  cases hz : z_ix a1 P with
  | false =>
    refine SimP_ro r (-2) ?_ ?_
    · rw [Sf_of, Fo_isPerson_v p1 hP, hz, w_bd, bI_f, if_pos rfl]
    · rw [Md_of, Md_isPerson_v p2 hP, hz, w_bd, bI_f, if_pos rfl]
  | true =>
    obtain ⟨p, hp, rfl⟩ := ix_ex hz (by omega)
    obtain ⟨τ', q1, hN, q3, q4⟩ := lays_R r1
    have d1 : p < 8 := by omega
    have i10 := ix_t (show 10 + p < 8880 by omega) (by omega)
    have i18 := ix_t (show 18 + p < 8880 by omega) (by omega)
    have i26 := ix_t (show 26 + p < 8880 by omega) (by omega)
    have i34 := ix_t (show 34 + p < 8880 by omega) (by omega)
    have i8 := ix_t d1 (show (8 : Nat) < 2 ^ 31 by omega)
    have cp := cl_n (show p < 2 ^ 31 by omega)
    have hsm : sm τ τ' := ⟨fun k hk => q3 k (by omega) (by omega), fun j hj => q4 j (by omega) (by omega)⟩
    have hE : EnvR σ τ' P W T := EnvR_fr (eC_rf σ) ⟨fun i _ => by rw [q3 110 (by omega) (by omega)], fun k z1 z2 => q3 k (by omega) (by omega)⟩ (EnvR_of r1 rr.2.2.2.2.2)
    obtain ⟨-, -, f5, f6, f7, -⟩ := hE.1
    obtain ⟨x, y, hx, hy, f51, f52, f53, f54⟩ := f5 p hp
    obtain ⟨n1, n2, n3⟩ := hN.1 p d1
    have n1 : τ' 135 p = σ 10 p := n1
    have n2 : τ' 137 p = σ 12 p := n2
    have n3 : τ' 138 p = σ 13 p := n3
    have n4 : τ' 136 p = σ 11 p := hN.2.1 p hp
    obtain ⟨o, d, ho, hd, o1, o2⟩ := hN.2.2.2.2.2.2.2.2.1 p hp
    have o1 : σ 12 p = nI o := o1
    have o2 : σ 13 p = nI d := o2
    obtain ⟨h42, -, -⟩ := hN.2.2.2.2.2.1
    have h42 : τ' 109 42 = nI H := by rw [h42]; exact c1
    have cla : ∀ v σ1, (if a2 = 0 then some (σ 3 p, σ) else if a2 = 1 then some (σ 4 p, σ) else if a2 = 2 then some (σ 10 p, σ) else if a2 = 3 then some (σ 11 p, σ) else if a2 = 4 then some (σ 12 p, σ) else if a2 = 5 then some (σ 13 p, σ) else if a2 = 6 then some (σ 5 p, σ) else if a2 = 7 then some (σ 6 p, σ) else if a2 = 8 then La_soundOf (nI p) (nI o) (nI H) σ else if a2 = 9 then (if decide (σ 10 p = 1) = true then La_burnNow 9 (nI p) σ else some (-1, σ)) else if a2 = 10 then (if decide (σ 10 p = 2) = true then La_worthNow (nI p) (nI d) σ else some (-1, σ)) else if a2 = 11 then (if decide (σ 10 p = 1) = true then La_fuelNow 9 (nI p) σ else some (-1, σ)) else some (-2, σ)) = some (v, σ1) → Sf_of (nI p) a2 σ = some (v, σ1) := by
      intro v σ1 hv
      rw [← hv, Sf_of, Fo_isPerson_v p1 hP, hz, w_bd, bI_t, if_neg (by decide)]
      simp only [i8, w_ck, cp, o1, o2, c1, isDoing_v p1 hP, hz, Bool.true_and, w_bd, bI_0]
      have zz : ∀ X : Option (Int32 × gx_R), z_bd X (fun r s => some (r, s)) = X := fun X => by cases X with | none => rfl | some q => cases q; rfl
      simp only [zz]
      have yy : ∀ (b : Bool) (X Y : Option (Int32 × gx_R)), (if b = false then X else Y) = if b = true then Y else X := fun b X Y => by cases b <;> rfl
      simp only [yy]
    have mda : ∀ v τ1, (if a2 = 0 then some (τ' 110 (10 + p), τ') else if a2 = 1 then some (τ' 110 (18 + p), τ') else if a2 = 2 then some (σ 10 p, τ') else if a2 = 3 then some (σ 11 p, τ') else if a2 = 4 then some (σ 12 p, τ') else if a2 = 5 then some (σ 13 p, τ') else if a2 = 6 then some (τ' 110 (26 + p), τ') else if a2 = 7 then some (τ' 110 (34 + p), τ') else if a2 = 8 then Md_soundOf (nI p) τ' else if a2 = 9 then (if decide (σ 10 p = 1) = true then Md_burnBy (nI p) (τ' 137 p) (τ' 136 p) τ' else some (-1, τ')) else if a2 = 10 then (if decide (σ 10 p = 2) = true then Md_worthBy (nI p) (nI o) (nI d) (τ' 136 p) τ' else some (-1, τ')) else if a2 = 11 then (if decide (σ 10 p = 1) = true then Md_fuelOf (nI p) 0 1 τ' else some (-1, τ')) else some (-2, τ')) = some (v, τ1) → Md_of (nI p) a2 τ = some (v, τ1) := by
      intro v τ1 hv
      have zz : ∀ X : Option (Int32 × gx_R), z_bd X (fun r s => some (r, s)) = X := fun X => by cases X with | none => rfl | some q => cases q; rfl
      have xx : ∀ X Y : Option (Int32 × gx_R), (if (1 : Int32) = 0 then X else Y) = Y := fun X Y => if_neg (by decide)
      have ww : ∀ X Y : Option (Int32 × gx_R), (if (0 : Int32) = 0 then X else Y) = X := fun X Y => if_pos rfl
      rw [← hv, Md_of, Md_isPerson_v p2 hP, hz, w_bd, bI_t, if_neg (by decide), q1, w_bd, i8, w_ck, cp, n1]
      by_cases e1 : σ 10 p = 1
      · rw [if_pos e1, Md_of_17]
        simp only [show (10 : Int32) + nI p = nI (10 + p) from nI_add 10 p, show (18 : Int32) + nI p = nI (18 + p) from nI_add 18 p, show (26 : Int32) + nI p = nI (26 + p) from nI_add 26 p, show (34 : Int32) + nI p = nI (34 + p) from nI_add 34 p, i8, i10, i18, i26, i34, w_ck, cp, cl_n (show 10 + p < 2 ^ 31 by omega), cl_n (show 18 + p < 2 ^ 31 by omega), cl_n (show 26 + p < 2 ^ 31 by omega), cl_n (show 34 + p < 2 ^ 31 by omega), zz, xx, decide_eq_true_eq, n1, n2.trans o1, n3.trans o2, e1, n4, n2, n3]
        simp only [if_true, o1, o2]
      · rw [if_neg e1, Md_of_17]
        simp only [show (10 : Int32) + nI p = nI (10 + p) from nI_add 10 p, show (18 : Int32) + nI p = nI (18 + p) from nI_add 18 p, show (26 : Int32) + nI p = nI (26 + p) from nI_add 26 p, show (34 : Int32) + nI p = nI (34 + p) from nI_add 34 p, i8, i10, i18, i26, i34, w_ck, cp, cl_n (show 10 + p < 2 ^ 31 by omega), cl_n (show 18 + p < 2 ^ 31 by omega), cl_n (show 26 + p < 2 ^ 31 by omega), cl_n (show 34 + p < 2 ^ 31 by omega), zz, ww, decide_eq_true_eq, n1, e1, n4, n2, n3]
        simp only [if_true, if_false, o1, o2]
    have go : ∀ v σ1 τ1, lC σ σ1 → lM τ' τ1 → Sf_of (nI p) a2 σ = some (v, σ1) → Md_of (nI p) a2 τ = some (v, τ1) → SimP (Sf_of (nI p) a2) (Md_of (nI p) a2) σ τ := fun v σ1 τ1 y1 y2 y3 y4 => SimP_sc r v y3 y4 (fun k hk => y1 k (by omega) (by omega)) (sm_tr hsm ⟨fun k hk => y2 k (by omega) (by omega), fun j hj => by rw [y2 109 (by omega) (by omega)]⟩)
    by_cases e0 : a2 = 0
    · exact go (nI x) σ τ' (lC_rf _) (lM_rf _) (cla _ _ (by rw [if_pos e0, f51])) (mda _ _ (by rw [if_pos e0, f52]))
    by_cases e1 : a2 = 1
    · exact go (nI y) σ τ' (lC_rf _) (lM_rf _) (cla _ _ (by rw [if_neg e0, if_pos e1, f53])) (mda _ _ (by rw [if_neg e0, if_pos e1, f54]))
    by_cases e2 : a2 = 2
    · exact go (σ 10 p) σ τ' (lC_rf _) (lM_rf _) (cla _ _ (by rw [if_neg e0, if_neg e1, if_pos e2])) (mda _ _ (by rw [if_neg e0, if_neg e1, if_pos e2]))
    by_cases e3 : a2 = 3
    · exact go (σ 11 p) σ τ' (lC_rf _) (lM_rf _) (cla _ _ (by rw [if_neg e0, if_neg e1, if_neg e2, if_pos e3])) (mda _ _ (by rw [if_neg e0, if_neg e1, if_neg e2, if_pos e3]))
    by_cases e4 : a2 = 4
    · exact go (σ 12 p) σ τ' (lC_rf _) (lM_rf _) (cla _ _ (by rw [if_neg e0, if_neg e1, if_neg e2, if_neg e3, if_pos e4])) (mda _ _ (by rw [if_neg e0, if_neg e1, if_neg e2, if_neg e3, if_pos e4]))
    by_cases e5 : a2 = 5
    · exact go (σ 13 p) σ τ' (lC_rf _) (lM_rf _) (cla _ _ (by rw [if_neg e0, if_neg e1, if_neg e2, if_neg e3, if_neg e4, if_pos e5])) (mda _ _ (by rw [if_neg e0, if_neg e1, if_neg e2, if_neg e3, if_neg e4, if_pos e5]))
    by_cases e6 : a2 = 6
    · exact go (σ 5 p) σ τ' (lC_rf _) (lM_rf _) (cla _ _ (by rw [if_neg e0, if_neg e1, if_neg e2, if_neg e3, if_neg e4, if_neg e5, if_pos e6])) (mda _ _ (by rw [if_neg e0, if_neg e1, if_neg e2, if_neg e3, if_neg e4, if_neg e5, if_pos e6, (f6 p d1).1]))
    by_cases e7 : a2 = 7
    · exact go (σ 6 p) σ τ' (lC_rf _) (lM_rf _) (cla _ _ (by rw [if_neg e0, if_neg e1, if_neg e2, if_neg e3, if_neg e4, if_neg e5, if_neg e6, if_pos e7])) (mda _ _ (by rw [if_neg e0, if_neg e1, if_neg e2, if_neg e3, if_neg e4, if_neg e5, if_neg e6, if_pos e7, (f7 p d1).1]))
    by_cases e8 : a2 = 8
    · obtain ⟨v, σ1, τ1, -, s1, s2, s3, s4⟩ := sound_v hE hp (show o ≤ 1000000 by omega) (show H ≤ 1000000 by omega) h42 (n2.trans o1)
      exact go (nI v) σ1 τ1 s3 s4 (cla _ _ (by rw [if_neg e0, if_neg e1, if_neg e2, if_neg e3, if_neg e4, if_neg e5, if_neg e6, if_neg e7, if_pos e8, s1])) (mda _ _ (by rw [if_neg e0, if_neg e1, if_neg e2, if_neg e3, if_neg e4, if_neg e5, if_neg e6, if_neg e7, if_pos e8, s2]))
    by_cases e9 : a2 = 9
    · by_cases hd1 : σ 10 p = 1
      · have hw : ∃ w, w < W ∧ σ 11 p = nI w := by
          rcases hN.2.2.2.2.2.2.2.1 p hp with ⟨z, -⟩ | ⟨-, z⟩ | ⟨z, -⟩
          · exact absurd (z.symm.trans hd1) (by decide)
          · exact z
          · exact absurd (z.symm.trans hd1) (by decide)
        obtain ⟨w, hw, hw2⟩ := hw
        obtain ⟨v, σ1, τ1, -, s1, s2, s3, s4⟩ := burnN_v (Or.inl rfl) hp hw (by omega) hE hN hw2
        exact go (nI v) σ1 τ1 s3 s4 (cla _ _ (by rw [if_neg e0, if_neg e1, if_neg e2, if_neg e3, if_neg e4, if_neg e5, if_neg e6, if_neg e7, if_neg e8, if_pos e9, if_pos (decide_eq_true hd1), s1])) (mda _ _ (by rw [if_neg e0, if_neg e1, if_neg e2, if_neg e3, if_neg e4, if_neg e5, if_neg e6, if_neg e7, if_neg e8, if_pos e9, if_pos (decide_eq_true hd1), s2]))
      · exact go (-1) σ τ' (lC_rf _) (lM_rf _) (cla _ _ (by rw [if_neg e0, if_neg e1, if_neg e2, if_neg e3, if_neg e4, if_neg e5, if_neg e6, if_neg e7, if_neg e8, if_pos e9, if_neg (fun z => hd1 (of_decide_eq_true z))])) (mda _ _ (by rw [if_neg e0, if_neg e1, if_neg e2, if_neg e3, if_neg e4, if_neg e5, if_neg e6, if_neg e7, if_neg e8, if_pos e9, if_neg (fun z => hd1 (of_decide_eq_true z))]))
    by_cases e10 : a2 = 10
    · by_cases hd1 : σ 10 p = 2
      · have hw : ∃ w, w < P ∧ σ 11 p = nI w := by
          rcases hN.2.2.2.2.2.2.2.1 p hp with ⟨z, -⟩ | ⟨z, -⟩ | ⟨-, z⟩
          · exact absurd (z.symm.trans hd1) (by decide)
          · exact absurd (z.symm.trans hd1) (by decide)
          · exact z
        obtain ⟨w, hw, hw2⟩ := hw
        obtain ⟨v, σ1, τ1, -, s1, s2, s3, s4⟩ := worth_v hE hp (show w ≤ 1000000 by omega) (show o ≤ 1000000 by omega) (show d ≤ 1000000 by omega) (show H ≤ 1000000 by omega) h42
        have s1' : La_worthNow (nI p) (nI d) σ = some (nI v, σ1) := by rw [La_worthNow, i8, w_ck, w_ck, cp, hw2, o1, c1, s1, w_bd]
        exact go (nI v) σ1 τ1 s3 s4 (cla _ _ (by rw [if_neg e0, if_neg e1, if_neg e2, if_neg e3, if_neg e4, if_neg e5, if_neg e6, if_neg e7, if_neg e8, if_neg e9, if_pos e10, if_pos (decide_eq_true hd1), s1'])) (mda _ _ (by rw [if_neg e0, if_neg e1, if_neg e2, if_neg e3, if_neg e4, if_neg e5, if_neg e6, if_neg e7, if_neg e8, if_neg e9, if_pos e10, if_pos (decide_eq_true hd1), n4, hw2, s2]))
      · exact go (-1) σ τ' (lC_rf _) (lM_rf _) (cla _ _ (by rw [if_neg e0, if_neg e1, if_neg e2, if_neg e3, if_neg e4, if_neg e5, if_neg e6, if_neg e7, if_neg e8, if_neg e9, if_pos e10, if_neg (fun z => hd1 (of_decide_eq_true z))])) (mda _ _ (by rw [if_neg e0, if_neg e1, if_neg e2, if_neg e3, if_neg e4, if_neg e5, if_neg e6, if_neg e7, if_neg e8, if_neg e9, if_pos e10, if_neg (fun z => hd1 (of_decide_eq_true z))]))
    by_cases e11 : a2 = 11
    · by_cases hd1 : σ 10 p = 1
      · obtain ⟨v, σ1, τ1, -, s1, s2, s3, s4⟩ := fuel_v (Or.inl rfl) hp (by omega) hE hN
        exact go (nI v) σ1 τ1 s3 s4 (cla _ _ (by rw [if_neg e0, if_neg e1, if_neg e2, if_neg e3, if_neg e4, if_neg e5, if_neg e6, if_neg e7, if_neg e8, if_neg e9, if_neg e10, if_pos e11, if_pos (decide_eq_true hd1), s1])) (mda _ _ (by rw [if_neg e0, if_neg e1, if_neg e2, if_neg e3, if_neg e4, if_neg e5, if_neg e6, if_neg e7, if_neg e8, if_neg e9, if_neg e10, if_pos e11, if_pos (decide_eq_true hd1), s2]))
      · exact go (-1) σ τ' (lC_rf _) (lM_rf _) (cla _ _ (by rw [if_neg e0, if_neg e1, if_neg e2, if_neg e3, if_neg e4, if_neg e5, if_neg e6, if_neg e7, if_neg e8, if_neg e9, if_neg e10, if_pos e11, if_neg (fun z => hd1 (of_decide_eq_true z))])) (mda _ _ (by rw [if_neg e0, if_neg e1, if_neg e2, if_neg e3, if_neg e4, if_neg e5, if_neg e6, if_neg e7, if_neg e8, if_neg e9, if_neg e10, if_pos e11, if_neg (fun z => hd1 (of_decide_eq_true z))]))
    · exact go (-2) σ τ' (lC_rf _) (lM_rf _) (cla _ _ (by rw [if_neg e0, if_neg e1, if_neg e2, if_neg e3, if_neg e4, if_neg e5, if_neg e6, if_neg e7, if_neg e8, if_neg e9, if_neg e10, if_neg e11])) (mda _ _ (by rw [if_neg e0, if_neg e1, if_neg e2, if_neg e3, if_neg e4, if_neg e5, if_neg e6, if_neg e7, if_neg e8, if_neg e9, if_neg e10, if_neg e11]))
