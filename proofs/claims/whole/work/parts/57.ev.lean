/-! ===== from word to word ===== -/
theorem k_and63 {m k : Nat} (hm : 64 * m + k < 2 ^ 31) (hk : k < 64) : nI (64 * m + k) &&& 63 = nI k := by
  rw [pk_andN (by omega) (m := 63) 6 (by decide)]
  congr 1
  omega
theorem k_shr6 {m k : Nat} (hm : 64 * m + k < 2 ^ 31) (hk : k < 64) : nI (64 * m + k) >>> (nI 6 &&& 31) = nI m := by
  rw [pk_shrN (by omega) _ 6 (by decide)]
  congr 1
  omega
theorem k_and63s {k : Nat} (hk : k < 64) : nI k &&& 63 = nI k := by
  have := k_and63 (m := 0) (k := k) (by omega) hk
  rwa [Nat.mul_zero, Nat.zero_add] at this
theorem clamp_v {a : Int} {M : Nat} (hM : M ≤ 999) (h1 : -1000000 ≤ a) (h2 : a ≤ 1000000) : (if (0 : Int32) < (if iI a < nI M then iI a else nI M) then (if iI a < nI M then iI a else nI M) else (0 : Int32)) = iI (max 0 (min (M : Int) a)) := by
  rw [iI_n M]
  simp (disch := omega) only [iI_lt]
  by_cases h : a < M
  · rw [if_pos h]
    simp (disch := omega) only [show (0 : Int32) = iI 0 from rfl, iI_lt]
    by_cases h0 : 0 < a
    · rw [if_pos h0]; congr 1; omega
    · rw [if_neg h0]; congr 1; omega
  · rw [if_neg h]
    simp (disch := omega) only [show (0 : Int32) = iI 0 from rfl, iI_lt]
    by_cases h0 : (0 : Int) < M
    · rw [if_pos h0]; congr 1; omega
    · rw [if_neg h0]; congr 1; omega
/-- the names' values -/
def NmR (A B : gx_F) (l : Nat) : Prop := ∀ q, q < 9 → nmOk l q = true → ∃ a : Int, -1000000 ≤ a ∧ a ≤ 1000000 ∧ A q = iI a ∧ B q = iI a
theorem binR_ne {w o : Int32} {i b : Bool} (h : BinR w o i b) : w ≠ 43 ∧ (∃ k, k < 64 ∧ 31 ≤ k ∧ w = nI k ∧ k ≠ 46 ∨ (k = 18 ∨ k = 19) ∧ w = nI k) ∧ o ≠ 408 ∧ o ≠ 400 ∧ o ≠ 401 ∧ o ≠ 403 ∧ o ≠ 404 ∧ o ≠ 402 ∧ o ≠ 405 := by
  rcases h with ⟨rfl, rfl, rfl, rfl⟩ | ⟨rfl, rfl, rfl, rfl⟩ | ⟨rfl, rfl, rfl, rfl⟩ | ⟨rfl, rfl, rfl, rfl⟩ | ⟨rfl, rfl, rfl, rfl⟩ | ⟨rfl, rfl, rfl, rfl⟩ | ⟨rfl, rfl, rfl, rfl⟩ | ⟨rfl, rfl, rfl, rfl⟩ | ⟨rfl, rfl, rfl, rfl⟩ | ⟨rfl, rfl, rfl, rfl⟩ | ⟨rfl, rfl, rfl, rfl⟩ | ⟨rfl, rfl, rfl, rfl⟩
  all_goals refine ⟨by decide, ?_, by decide, by decide, by decide, by decide, by decide, by decide, by decide⟩
  · exact ⟨37, Or.inl ⟨by omega, by omega, rfl, by omega⟩⟩
  · exact ⟨38, Or.inl ⟨by omega, by omega, rfl, by omega⟩⟩
  · exact ⟨39, Or.inl ⟨by omega, by omega, rfl, by omega⟩⟩
  · exact ⟨40, Or.inl ⟨by omega, by omega, rfl, by omega⟩⟩
  · exact ⟨31, Or.inl ⟨by omega, by omega, rfl, by omega⟩⟩
  · exact ⟨32, Or.inl ⟨by omega, by omega, rfl, by omega⟩⟩
  · exact ⟨33, Or.inl ⟨by omega, by omega, rfl, by omega⟩⟩
  · exact ⟨34, Or.inl ⟨by omega, by omega, rfl, by omega⟩⟩
  · exact ⟨35, Or.inl ⟨by omega, by omega, rfl, by omega⟩⟩
  · exact ⟨36, Or.inl ⟨by omega, by omega, rfl, by omega⟩⟩
  · exact ⟨18, Or.inr ⟨Or.inl rfl, rfl⟩⟩
  · exact ⟨19, Or.inr ⟨Or.inr rfl, rfl⟩⟩
/-- one round of the class, to the word's kind -/
theorem vo_top {n p i sz : Nat} {M d : Int32} {b3 : Nat} {σ : gx_R} (hi : i < 300) (hp : p < sz) (hs : sz ≤ 300) (h7 : σ b3 7 = nI sz) {k : Nat} (hk : k < 64) (hw : σ (b3 + 6) p &&& 63 = nI k) (hne : σ (b3 + 6) p ≠ 43) : La_valueOf_16 (n + 1) M b3 (nI p) d (nI i) σ = if k = 30 ∨ (21 ≤ k ∧ k < 30) then La_valueOf_50 (La_valueOf_161 (La_valueOf_16 n)) M b3 (nI (p + 1)) d (nI i) (σ (b3 + 6) p) (nI k) σ else La_valueOf_74 (La_valueOf_161 (La_valueOf_16 n)) M b3 (nI (p + 1)) d (nI i) (σ (b3 + 6) p) (nI k) σ := by
  have a1 : ¬ 300 ≤ i := by omega
  have a2 : ¬ sz ≤ p := by omega
  have a3 : p < 300 := by omega
  simp (disch := omega) only [La_valueOf_16, La_valueOf_16_B, h7, hw, z_c0, z_c1, nI_leI, nI_ltI, nI_eq, ix_n, cl_n, nI_add, pk_mul, nI_1, n_lt0, n_0le, n_le0, n_0lt, n_eq0, n_1le, n_le1, n_lt1, n_1lt, n_eq1, n_m1, n_m1a, L_2, L_3, L_4, L_5, L_6, L_7, L_8, L_9, L_10, L_11, L_12, L_14, L_15, L_16, L_17, L_18, L_20, L_21, L_24, L_26, L_30, L_32, L_34, L_35, L_36, L_37, L_38, L_39, L_40, L_41, L_42, L_43, L_44, L_45, L_46, L_47, L_48, L_57, L_59, L_60, L_61, L_62, L_64, L_65, L_68, L_76, L_80, L_84, L_90, L_92, L_96, L_97, L_98, L_99, L_100, L_104, L_122, L_139, L_140, L_162, L_163, L_164, L_200, L_241, L_255, L_256, L_280, L_284, L_300, L_301, L_303, L_309, L_360, L_400, L_401, L_402, L_403, L_404, L_405, L_406, L_407, L_408, L_999, L_1600, L_3120, L_8596, L_8880, L_9999, L_10000, L_30211, L_99999, L_1000000, a1, a2, a3, w_bd, w_ck, bI_0, bI_1, bI_bo, bo_0, bo_1, decide_true, decide_false, if_true, if_false, ite_true, ite_false, not_true_eq_false, not_false_eq_true, Bool.true_eq_false, Bool.false_eq_true]
  rw [if_neg (show ¬ σ (b3 + 6) p = nI 43 from hne)]
  by_cases c1 : k = 30
  · rw [if_pos c1, if_pos (Or.inl c1)]
  · rw [if_neg c1]
    by_cases c2 : k < 21
    · rw [if_pos c2, if_neg (by omega)]
    · rw [if_neg c2]
      by_cases c3 : 30 ≤ k
      · rw [if_pos c3, if_neg (by omega)]
      · rw [if_neg c3, if_pos (by omega)]
theorem nI_ne {a b : Nat} (ha : a < 2 ^ 31) (hb : b < 2 ^ 31) (h : a ≠ b) : nI a ≠ nI b := fun q => h ((nI_eq ha hb).mp q)
theorem ev {cw co cv : gx_F} {c0 r0 l len sz : Nat} {tp : Nat → List Bool} (hsz : c0 + len < sz) (hs : sz ≤ 300) (hr : r0 + len < 1600) (he1 : cw (c0 + len) = 43) (he2 : co (r0 + len) = 408) (htl : tp len = [false]) (hl : ∀ j, j ≤ len → (tp j).length ≤ 60) (hw : ∀ j, j < len → WordR cw co cv c0 r0 l len tp j) {M : Nat} (hM : M ≤ 999) {b3 : Nat} (hb : 60 ≤ b3) :
    ∀ m j, j + m = len → ∀ (i n n' : Nat) (σ τ : gx_R), i ≤ j → m < n → m < n' → σ b3 7 = nI sz → σ (b3 + 6) = cw → τ 119 = co → τ 120 = cv → NmR (σ 51) (τ 133) l → StkR (σ 52) (gx_l (τ 134)) (tp j) →
    ∃ (a : Int) (σ' τ' : gx_R), -1000000 ≤ a ∧ a ≤ 1000000 ∧ La_valueOf_16 n (nI M) b3 (nI (c0 + j)) (nI (tp j).length) (nI i) σ = some (iI (max 0 (min (M : Int) a)), σ') ∧ Md_saysOf_4 n' (nI (tp j).length) (nI (r0 + j)) τ = some (lI a, τ') ∧ (∀ k, k ≠ 52 → σ' k = σ k) ∧ (∀ k, k ≠ 134 → τ' k = τ k) := by
  intro m
  induction m using Nat.strongRecOn with
  | ind m ih =>
    intro j hj i n n' σ τ hi hn hn' h7 hcw hco hcv hnm hst
    obtain ⟨n, rfl⟩ : ∃ q, n = q + 1 := ⟨n - 1, by omega⟩
    obtain ⟨n', rfl⟩ : ∃ q, n' = q + 1 := ⟨n' - 1, by omega⟩
    have hlj := hl j (by omega)
    rcases Nat.eq_zero_or_pos m with rfl | hm0
    · obtain rfl : j = len := by omega
      rw [htl] at hst ⊢
      obtain ⟨⟨a, ha, s1, s2⟩, -⟩ := hst
      refine ⟨a, σ, τ, ha.1, ha.2, ?_, ?_, fun _ _ => rfl, fun _ _ => rfl⟩
      · have w1 : σ (b3 + 6) (c0 + j) = nI 43 := by rw [hcw]; exact he1
        have a1 : ¬ 300 ≤ i := by omega
        have a2 : ¬ sz ≤ c0 + j := by omega
        have a3 : c0 + j < 300 := by omega
        have s1 : σ 52 0 = iI a := s1
        simp (disch := omega) only [La_valueOf_16, La_valueOf_16_B, La_valueOf_163, h7, w1, z_c0, z_c1, nI_leI, nI_ltI, nI_eq, ix_n, cl_n, nI_add, pk_mul, nI_1, n_lt0, n_0le, n_le0, n_0lt, n_eq0, n_1le, n_le1, n_lt1, n_1lt, n_eq1, n_m1, n_m1a, L_2, L_3, L_4, L_5, L_6, L_7, L_8, L_9, L_10, L_11, L_12, L_14, L_15, L_16, L_17, L_18, L_20, L_21, L_24, L_26, L_30, L_32, L_34, L_35, L_36, L_37, L_38, L_39, L_40, L_41, L_42, L_43, L_44, L_45, L_46, L_47, L_48, L_57, L_59, L_60, L_61, L_62, L_64, L_65, L_68, L_76, L_80, L_84, L_90, L_92, L_96, L_97, L_98, L_99, L_100, L_104, L_122, L_139, L_140, L_162, L_163, L_164, L_200, L_241, L_255, L_256, L_280, L_284, L_300, L_301, L_303, L_309, L_360, L_400, L_401, L_402, L_403, L_404, L_405, L_406, L_407, L_408, L_999, L_1600, L_3120, L_8596, L_8880, L_9999, L_10000, L_30211, L_99999, L_1000000, a1, a2, a3, w_bd, w_ck, bI_0, bI_1, bI_bo, bo_0, bo_1, decide_true, decide_false, if_true, if_false, ite_true, ite_false, not_true_eq_false, not_false_eq_true, Bool.true_eq_false, Bool.false_eq_true, List.length_cons, List.length_nil, nI_pred, show (0 : Nat) + 1 = 0 + 1 from rfl, show (0 : Nat) < 64 by omega, show ¬ (0 + 1 = 0) by omega, s1]
        exact congrArg (fun x => some (x, σ)) (clamp_v hM ha.1 ha.2)
      · have w2 : τ 119 (r0 + j) = 408 := by rw [hco]; exact he2
        have a3 : r0 + j < 1600 := by omega
        simp (disch := omega) only [Md_saysOf_4, Md_saysOf_4_B, Md_saysOf_132, w2, ix_n, cl_n, a3, w_bd, w_ck, bI_0, bI_1, bI_bo, bo_0, bo_1, decide_true, decide_false, if_true, if_false, ite_true, ite_false, not_true_eq_false, not_false_eq_true, Bool.true_eq_false, Bool.false_eq_true]
        exact congrArg (fun x => some (x, τ)) s2
    · have hjl : j < len := by omega
      have fin : ∀ (j1 : Nat) (σ1 τ1 : gx_R), j < j1 → j1 ≤ len → (∀ k, k ≠ 52 → σ1 k = σ k) → (∀ k, k ≠ 134 → τ1 k = τ k) → StkR (σ1 52) (gx_l (τ1 134)) (tp j1) → ∃ (a : Int) (σ' τ' : gx_R), -1000000 ≤ a ∧ a ≤ 1000000 ∧ La_valueOf_16 n (nI M) b3 (nI (c0 + j1)) (nI (tp j1).length) (nI (i + 1)) σ1 = some (iI (max 0 (min (M : Int) a)), σ') ∧ Md_saysOf_4 n' (nI (tp j1).length) (nI (r0 + j1)) τ1 = some (lI a, τ') ∧ (∀ k, k ≠ 52 → σ' k = σ k) ∧ (∀ k, k ≠ 134 → τ' k = τ k) := by
        intro j1 σ1 τ1 g1 g2 f1 f2 g3
        obtain ⟨a, σ', τ', q1, q2, q3, q4, q5, q6⟩ := ih (len - j1) (by omega) j1 (by omega) (i + 1) n n' σ1 τ1 (by omega) (by omega) (by omega) (by rw [f1 b3 (by omega)]; exact h7) (by rw [f1 (b3 + 6) (by omega)]; exact hcw) (by rw [f2 119 (by omega)]; exact hco) (by rw [f2 120 (by omega)]; exact hcv) (by rw [f1 51 (by omega), f2 133 (by omega)]; exact hnm) g3
        exact ⟨a, σ', τ', q1, q2, q3, q4, fun k hk => (q5 k hk).trans (f1 k hk), fun k hk => (q6 k hk).trans (f2 k hk)⟩
      have up1 : ∀ (d : Nat) (x : Int32) (k : Nat), k ≠ 52 → gx_up σ 52 d x k = σ k := fun d x k hk => gx_up_ne hk
      have up2 : ∀ (d : Nat) (x : Int64) (k : Nat), k ≠ 134 → gx_upl τ 134 d x k = τ k := fun d x k hk => gx_upl_ne hk
      have hp : c0 + j < sz := by omega
      have hp3 : c0 + j < 300 := by omega
      have hq : r0 + j < 1600 := by omega
      have hi3 : i < 300 := by omega
      have h64 : ¬ 64 ≤ (tp j).length := by omega
      have h64' : (tp j).length < 64 := by omega
      have h200 : (tp j).length < 200 := by omega
      rcases hw j hjl with ⟨v, hv, g1, g2, g3, g4⟩ | ⟨q, hq9, hok, g1, g2, g3, g4⟩ | ⟨s, g1, g2, g3, g4⟩ | ⟨s, g1, g2, g3, g4⟩ | ⟨s, t, t1, t2, g1, g2, g3, g4, g5, g6⟩ | ⟨t, t1, t2, g1, g2, g3, g4⟩ | ⟨ii, b, s, g1, g2, g3⟩
      · have w1 : σ (b3 + 6) (c0 + j) = nI (64 * v + 30) := by rw [hcw]; exact g1
        have w2 : τ 119 (r0 + j) = 400 := by rw [hco]; exact g2
        have w3 : τ 120 (r0 + j) = nI v := by rw [hcv]; exact g3
        obtain ⟨a, σ', τ', q1, q2, q3, q4, q5, q6⟩ := fin (j + 1) _ _ (by omega) (by omega) (up1 (tp j).length (iI v)) (up2 (tp j).length (lI v)) (by rw [g4]; exact StkR_pu hst (b := false) ⟨by omega, by omega⟩)
        rw [g4, List.length_cons] at q3 q4
        refine ⟨a, σ', τ', q1, q2, ?_, ?_, q5, q6⟩
        · rw [vo_top hi3 hp hs h7 (k := 30) (by omega) (by rw [w1]; exact k_and63 (by omega) (by omega)) (by rw [w1]; exact nI_ne (b := 43) (by omega) (by omega) (by omega)), if_pos (Or.inl rfl), w1]
          simp (disch := omega) only [La_valueOf_50, La_valueOf_71, La_valueOf_161, z_c0, z_c1, nI_leI, nI_ltI, nI_eq, ix_n, cl_n, nI_add, pk_mul, nI_1, n_lt0, n_0le, n_le0, n_0lt, n_eq0, n_1le, n_le1, n_lt1, n_1lt, n_eq1, n_m1, n_m1a, L_2, L_3, L_4, L_5, L_6, L_7, L_8, L_9, L_10, L_11, L_12, L_14, L_15, L_16, L_17, L_18, L_20, L_21, L_24, L_26, L_30, L_32, L_34, L_35, L_36, L_37, L_38, L_39, L_40, L_41, L_42, L_43, L_44, L_45, L_46, L_47, L_48, L_57, L_59, L_60, L_61, L_62, L_64, L_65, L_68, L_76, L_80, L_84, L_90, L_92, L_96, L_97, L_98, L_99, L_100, L_104, L_122, L_139, L_140, L_162, L_163, L_164, L_200, L_241, L_255, L_256, L_280, L_284, L_300, L_301, L_303, L_309, L_360, L_400, L_401, L_402, L_403, L_404, L_405, L_406, L_407, L_408, L_999, L_1600, L_3120, L_8596, L_8880, L_9999, L_10000, L_30211, L_99999, L_1000000, k_shr6, h64, h64', w_bd, w_ck, bI_0, bI_1, bI_bo, bo_0, bo_1, decide_true, decide_false, if_true, if_false, ite_true, ite_false, not_true_eq_false, not_false_eq_true, Bool.true_eq_false, Bool.false_eq_true]
          rw [iI_n v]
          exact q3
        · simp +decide (disch := omega) only [Md_saysOf_4, Md_saysOf_4_B, Md_saysOf_21, Md_saysOf_41, Md_saysOf_130, w2, w3, ix_n, cl_n, nI_1, hq, h200, w_bd, w_ck, bI_0, bI_1, bI_bo, bo_0, bo_1, decide_true, decide_false, if_true, if_false, ite_true, ite_false, not_true_eq_false, not_false_eq_true, Bool.true_eq_false, Bool.false_eq_true]
          rw [iI_n v, iI_64 (by omega) (by omega)]
          exact q4
      · have w1 : σ (b3 + 6) (c0 + j) = nI (21 + q) := by rw [hcw]; exact g1
        have w2 : τ 119 (r0 + j) = 401 := by rw [hco]; exact g2
        have w3 : τ 120 (r0 + j) = nI q := by rw [hcv]; exact g3
        obtain ⟨x, x1, x2, x3, x4⟩ := hnm q hq9 hok
        have e21 : nI (21 + q) - nI 21 = nI q := by rw [pk_sub (by omega)]; congr 1; omega
        have h30 : ¬ (21 + q = 30) := by omega
        have hq11 : q < 11 := by omega
        obtain ⟨a, σ', τ', q1, q2, q3, q4, q5, q6⟩ := fin (j + 1) _ _ (by omega) (by omega) (up1 (tp j).length (iI x)) (up2 (tp j).length (lI x)) (by rw [g4]; exact StkR_pu hst (b := false) ⟨by omega, by omega⟩)
        rw [g4, List.length_cons] at q3 q4
        refine ⟨a, σ', τ', q1, q2, ?_, ?_, q5, q6⟩
        · rw [vo_top hi3 hp hs h7 (k := 21 + q) (by omega) (by rw [w1]; exact k_and63s (by omega)) (by rw [w1]; exact nI_ne (b := 43) (by omega) (by omega) (by omega)), if_pos (Or.inr ⟨by omega, by omega⟩), w1]
          simp (disch := omega) only [La_valueOf_50, La_valueOf_71, La_valueOf_161, z_c0, z_c1, nI_leI, nI_ltI, nI_eq, ix_n, cl_n, nI_add, pk_mul, nI_1, n_lt0, n_0le, n_le0, n_0lt, n_eq0, n_1le, n_le1, n_lt1, n_1lt, n_eq1, n_m1, n_m1a, L_2, L_3, L_4, L_5, L_6, L_7, L_8, L_9, L_10, L_11, L_12, L_14, L_15, L_16, L_17, L_18, L_20, L_21, L_24, L_26, L_30, L_32, L_34, L_35, L_36, L_37, L_38, L_39, L_40, L_41, L_42, L_43, L_44, L_45, L_46, L_47, L_48, L_57, L_59, L_60, L_61, L_62, L_64, L_65, L_68, L_76, L_80, L_84, L_90, L_92, L_96, L_97, L_98, L_99, L_100, L_104, L_122, L_139, L_140, L_162, L_163, L_164, L_200, L_241, L_255, L_256, L_280, L_284, L_300, L_301, L_303, L_309, L_360, L_400, L_401, L_402, L_403, L_404, L_405, L_406, L_407, L_408, L_999, L_1600, L_3120, L_8596, L_8880, L_9999, L_10000, L_30211, L_99999, L_1000000, e21, hq9, h30, x3, h64, h64', w_bd, w_ck, bI_0, bI_1, bI_bo, bo_0, bo_1, decide_true, decide_false, if_true, if_false, ite_true, ite_false, not_true_eq_false, not_false_eq_true, Bool.true_eq_false, Bool.false_eq_true]
          exact q3
        · simp +decide (disch := omega) only [Md_saysOf_4, Md_saysOf_4_B, Md_saysOf_21, Md_saysOf_41, Md_saysOf_130, w2, w3, ix_n, cl_n, nI_1, hq, hq11, x4, h200, w_bd, w_ck, bI_0, bI_1, bI_bo, bo_0, bo_1, decide_true, decide_false, if_true, if_false, ite_true, ite_false, not_true_eq_false, not_false_eq_true, Bool.true_eq_false, Bool.false_eq_true]
          rw [iI_64 (by omega) (by omega)]
          exact q4
      · have w1 : σ (b3 + 6) (c0 + j) = nI 46 := by rw [hcw]; exact g1
        have w2 : τ 119 (r0 + j) = 402 := by rw [hco]; exact g2
        rw [g3] at hst hlj
        rw [List.length_cons] at hlj
        obtain ⟨⟨x, x1, x2, x3⟩, hst⟩ := hst
        have l1 : s.length < 64 := by omega
        have l2 : s.length < 200 := by omega
        have l3 : ¬ (s.length + 1 = 0) := by omega
        obtain ⟨a, σ', τ', q1, q2, q3, q4, q5, q6⟩ := fin (j + 1) _ _ (by omega) (by omega) (up1 s.length (iI (-x))) (up2 s.length (lI (-x))) (by rw [g4, g3]; exact StkR_pu hst (b := false) ⟨by have := x1.2; omega, by have := x1.1; omega⟩)
        rw [g4, g3, List.length_cons] at q3 q4
        rw [g3, List.length_cons]
        refine ⟨a, σ', τ', q1, q2, ?_, ?_, q5, q6⟩
        · rw [vo_top hi3 hp hs h7 (k := 46) (by omega) (by rw [w1]; exact k_and63s (by omega)) (by rw [w1]; exact nI_ne (b := 43) (by omega) (by omega) (by omega)), if_neg (by omega), w1]
          simp +decide (disch := omega) only [La_valueOf_74, La_valueOf_100, La_valueOf_161, nI_pred, z_c0, z_c1, nI_leI, nI_ltI, nI_eq, ix_n, cl_n, nI_add, pk_mul, nI_1, n_lt0, n_0le, n_le0, n_0lt, n_eq0, n_1le, n_le1, n_lt1, n_1lt, n_eq1, n_m1, n_m1a, L_2, L_3, L_4, L_5, L_6, L_7, L_8, L_9, L_10, L_11, L_12, L_14, L_15, L_16, L_17, L_18, L_20, L_21, L_24, L_26, L_30, L_32, L_34, L_35, L_36, L_37, L_38, L_39, L_40, L_41, L_42, L_43, L_44, L_45, L_46, L_47, L_48, L_57, L_59, L_60, L_61, L_62, L_64, L_65, L_68, L_76, L_80, L_84, L_90, L_92, L_96, L_97, L_98, L_99, L_100, L_104, L_122, L_139, L_140, L_162, L_163, L_164, L_200, L_241, L_255, L_256, L_280, L_284, L_300, L_301, L_303, L_309, L_360, L_400, L_401, L_402, L_403, L_404, L_405, L_406, L_407, L_408, L_999, L_1600, L_3120, L_8596, L_8880, L_9999, L_10000, L_30211, L_99999, L_1000000, l1, l3, x2, iI_neg, w_bd, w_ck, bI_0, bI_1, bI_bo, bo_0, bo_1, decide_true, decide_false, if_true, if_false, ite_true, ite_false, not_true_eq_false, not_false_eq_true, Bool.true_eq_false, Bool.false_eq_true]
          exact q3
        · simp +decide (disch := omega) only [Md_saysOf_4, Md_saysOf_4_B, Md_saysOf_130, w2, nI_pred, ix_n, cl_n, nI_1, hq, l2, x3, lI_neg, w_bd, w_ck, bI_0, bI_1, bI_bo, bo_0, bo_1, decide_true, decide_false, if_true, if_false, ite_true, ite_false, not_true_eq_false, not_false_eq_true, Bool.true_eq_false, Bool.false_eq_true]
          exact q4
      · have w1 : σ (b3 + 6) (c0 + j) = nI 20 := by rw [hcw]; exact g1
        have w2 : τ 119 (r0 + j) = 405 := by rw [hco]; exact g2
        rw [g3] at hst hlj
        rw [List.length_cons] at hlj
        obtain ⟨⟨x, x1, x2, x3⟩, hst⟩ := hst
        have l1 : s.length < 64 := by omega
        have l2 : s.length < 200 := by omega
        have l3 : ¬ (s.length + 1 = 0) := by omega
        obtain ⟨a, σ', τ', q1, q2, q3, q4, q5, q6⟩ := fin (j + 1) _ _ (by omega) (by omega) (up1 s.length (iI (1 - x))) (up2 s.length (lI (1 - x))) (by rw [g4, g3]; exact StkR_pu hst (b := true) (by rcases x1 with rfl | rfl <;> simp [vOk]))
        rw [g4, g3, List.length_cons] at q3 q4
        rw [g3, List.length_cons]
        refine ⟨a, σ', τ', q1, q2, ?_, ?_, q5, q6⟩
        · rw [vo_top hi3 hp hs h7 (k := 20) (by omega) (by rw [w1]; exact k_and63s (by omega)) (by rw [w1]; exact nI_ne (b := 43) (by omega) (by omega) (by omega)), if_neg (by omega), w1]
          simp +decide (disch := omega) only [La_valueOf_74, La_valueOf_100, La_valueOf_119, La_valueOf_161, nI_pred, z_c0, z_c1, nI_leI, nI_ltI, nI_eq, ix_n, cl_n, nI_add, pk_mul, nI_1, n_lt0, n_0le, n_le0, n_0lt, n_eq0, n_1le, n_le1, n_lt1, n_1lt, n_eq1, n_m1, n_m1a, L_2, L_3, L_4, L_5, L_6, L_7, L_8, L_9, L_10, L_11, L_12, L_14, L_15, L_16, L_17, L_18, L_20, L_21, L_24, L_26, L_30, L_32, L_34, L_35, L_36, L_37, L_38, L_39, L_40, L_41, L_42, L_43, L_44, L_45, L_46, L_47, L_48, L_57, L_59, L_60, L_61, L_62, L_64, L_65, L_68, L_76, L_80, L_84, L_90, L_92, L_96, L_97, L_98, L_99, L_100, L_104, L_122, L_139, L_140, L_162, L_163, L_164, L_200, L_241, L_255, L_256, L_280, L_284, L_300, L_301, L_303, L_309, L_360, L_400, L_401, L_402, L_403, L_404, L_405, L_406, L_407, L_408, L_999, L_1600, L_3120, L_8596, L_8880, L_9999, L_10000, L_30211, L_99999, L_1000000, l1, l3, x2, show (1 : Int32) - iI x = iI (1 - x) from iI_sub 1 x, w_bd, w_ck, bI_0, bI_1, bI_bo, bo_0, bo_1, decide_true, decide_false, if_true, if_false, ite_true, ite_false, not_true_eq_false, not_false_eq_true, Bool.true_eq_false, Bool.false_eq_true]
          exact q3
        · simp +decide (disch := omega) only [Md_saysOf_4, Md_saysOf_4_B, Md_saysOf_130, w2, nI_pred, ix_n, cl_n, nI_1, hq, l2, x3, show (1 : Int64) - lI x = lI (1 - x) from lI_sub 1 x, w_bd, w_ck, bI_0, bI_1, bI_bo, bo_0, bo_1, decide_true, decide_false, if_true, if_false, ite_true, ite_false, not_true_eq_false, not_false_eq_true, Bool.true_eq_false, Bool.false_eq_true]
          exact q4
      · have w1 : σ (b3 + 6) (c0 + j) = nI (64 * (c0 + t) + 15) := by rw [hcw]; exact g1
        have w2 : τ 119 (r0 + j) = 403 := by rw [hco]; exact g2
        have w3 : τ 120 (r0 + j) = nI (r0 + t) := by rw [hcv]; exact g3
        rw [g4] at hst hlj
        rw [List.length_cons] at hlj
        obtain ⟨⟨x, x1, x2, x3⟩, hst⟩ := hst
        have l1 : s.length < 64 := by omega
        have l2 : s.length < 200 := by omega
        have l3 : ¬ (s.length + 1 = 0) := by omega
        have e1 : nI (r0 + t) - 1 + 1 = nI (r0 + t) := by rw [n_sub1 (by omega), nI_1]; congr 1; omega
        rw [g4, List.length_cons]
        rcases x1 with rfl | rfl
        · obtain ⟨a, σ', τ', q1, q2, q3, q4, q5, q6⟩ := fin t σ τ (by omega) (by omega) (fun _ _ => rfl) (fun _ _ => rfl) (by rw [g6]; exact hst)
          rw [g6] at q3 q4
          refine ⟨a, σ', τ', q1, q2, ?_, ?_, q5, q6⟩
          · rw [vo_top hi3 hp hs h7 (k := 15) (by omega) (by rw [w1]; exact k_and63 (by omega) (by omega)) (by rw [w1]; exact nI_ne (b := 43) (by omega) (by omega) (by omega)), if_neg (by omega), w1]
            simp +decide (disch := omega) only [La_valueOf_74, La_valueOf_98, La_valueOf_161, pk_m1, z_c0, z_c1, nI_leI, nI_ltI, nI_eq, ix_n, cl_n, nI_add, pk_mul, nI_1, n_lt0, n_0le, n_le0, n_0lt, n_eq0, n_1le, n_le1, n_lt1, n_1lt, n_eq1, n_m1, n_m1a, L_2, L_3, L_4, L_5, L_6, L_7, L_8, L_9, L_10, L_11, L_12, L_14, L_15, L_16, L_17, L_18, L_20, L_21, L_24, L_26, L_30, L_32, L_34, L_35, L_36, L_37, L_38, L_39, L_40, L_41, L_42, L_43, L_44, L_45, L_46, L_47, L_48, L_57, L_59, L_60, L_61, L_62, L_64, L_65, L_68, L_76, L_80, L_84, L_90, L_92, L_96, L_97, L_98, L_99, L_100, L_104, L_122, L_139, L_140, L_162, L_163, L_164, L_200, L_241, L_255, L_256, L_280, L_284, L_300, L_301, L_303, L_309, L_360, L_400, L_401, L_402, L_403, L_404, L_405, L_406, L_407, L_408, L_999, L_1600, L_3120, L_8596, L_8880, L_9999, L_10000, L_30211, L_99999, L_1000000, k_shr6, l1, l3, x2, w_bd, w_ck, bI_0, bI_1, bI_bo, bo_0, bo_1, decide_true, decide_false, if_true, if_false, ite_true, ite_false, not_true_eq_false, not_false_eq_true, Bool.true_eq_false, Bool.false_eq_true]
            exact q3
          · simp +decide (disch := omega) only [Md_saysOf_4, Md_saysOf_4_B, Md_saysOf_63, Md_saysOf_130, w2, w3, pk_m1, ix_n, cl_n, hq, l2, x3, w_bd, w_ck, bI_0, bI_1, bI_bo, bo_0, bo_1, decide_true, decide_false, if_true, if_false, ite_true, ite_false, not_true_eq_false, not_false_eq_true, Bool.true_eq_false, Bool.false_eq_true]
            rw [e1]
            exact q4
        · obtain ⟨a, σ', τ', q1, q2, q3, q4, q5, q6⟩ := fin (j + 1) σ τ (by omega) (by omega) (fun _ _ => rfl) (fun _ _ => rfl) (by rw [g5]; exact hst)
          rw [g5] at q3 q4
          refine ⟨a, σ', τ', q1, q2, ?_, ?_, q5, q6⟩
          · rw [vo_top hi3 hp hs h7 (k := 15) (by omega) (by rw [w1]; exact k_and63 (by omega) (by omega)) (by rw [w1]; exact nI_ne (b := 43) (by omega) (by omega) (by omega)), if_neg (by omega), w1]
            simp +decide (disch := omega) only [La_valueOf_74, La_valueOf_98, La_valueOf_161, pk_m1, z_c0, z_c1, nI_leI, nI_ltI, nI_eq, ix_n, cl_n, nI_add, pk_mul, nI_1, n_lt0, n_0le, n_le0, n_0lt, n_eq0, n_1le, n_le1, n_lt1, n_1lt, n_eq1, n_m1, n_m1a, L_2, L_3, L_4, L_5, L_6, L_7, L_8, L_9, L_10, L_11, L_12, L_14, L_15, L_16, L_17, L_18, L_20, L_21, L_24, L_26, L_30, L_32, L_34, L_35, L_36, L_37, L_38, L_39, L_40, L_41, L_42, L_43, L_44, L_45, L_46, L_47, L_48, L_57, L_59, L_60, L_61, L_62, L_64, L_65, L_68, L_76, L_80, L_84, L_90, L_92, L_96, L_97, L_98, L_99, L_100, L_104, L_122, L_139, L_140, L_162, L_163, L_164, L_200, L_241, L_255, L_256, L_280, L_284, L_300, L_301, L_303, L_309, L_360, L_400, L_401, L_402, L_403, L_404, L_405, L_406, L_407, L_408, L_999, L_1600, L_3120, L_8596, L_8880, L_9999, L_10000, L_30211, L_99999, L_1000000, k_shr6, l1, l3, x2, w_bd, w_ck, bI_0, bI_1, bI_bo, bo_0, bo_1, decide_true, decide_false, if_true, if_false, ite_true, ite_false, not_true_eq_false, not_false_eq_true, Bool.true_eq_false, Bool.false_eq_true]
            exact q3
          · simp +decide (disch := omega) only [Md_saysOf_4, Md_saysOf_4_B, Md_saysOf_63, Md_saysOf_130, w2, w3, pk_m1, ix_n, cl_n, nI_1, hq, l2, x3, w_bd, w_ck, bI_0, bI_1, bI_bo, bo_0, bo_1, decide_true, decide_false, if_true, if_false, ite_true, ite_false, not_true_eq_false, not_false_eq_true, Bool.true_eq_false, Bool.false_eq_true]
            exact q4
      · have w1 : σ (b3 + 6) (c0 + j) = nI (64 * (c0 + t) + 16) := by rw [hcw]; exact g1
        have w2 : τ 119 (r0 + j) = 404 := by rw [hco]; exact g2
        have w3 : τ 120 (r0 + j) = nI (r0 + t) := by rw [hcv]; exact g3
        have e1 : nI (r0 + t) - 1 + 1 = nI (r0 + t) := by rw [n_sub1 (by omega), nI_1]; congr 1; omega
        obtain ⟨a, σ', τ', q1, q2, q3, q4, q5, q6⟩ := fin t σ τ (by omega) (by omega) (fun _ _ => rfl) (fun _ _ => rfl) (by rw [g4]; exact hst)
        rw [g4] at q3 q4
        refine ⟨a, σ', τ', q1, q2, ?_, ?_, q5, q6⟩
        · rw [vo_top hi3 hp hs h7 (k := 16) (by omega) (by rw [w1]; exact k_and63 (by omega) (by omega)) (by rw [w1]; exact nI_ne (b := 43) (by omega) (by omega) (by omega)), if_neg (by omega), w1]
          simp +decide (disch := omega) only [La_valueOf_74, La_valueOf_161, z_c0, z_c1, nI_leI, nI_ltI, nI_eq, ix_n, cl_n, nI_add, pk_mul, nI_1, n_lt0, n_0le, n_le0, n_0lt, n_eq0, n_1le, n_le1, n_lt1, n_1lt, n_eq1, n_m1, n_m1a, L_2, L_3, L_4, L_5, L_6, L_7, L_8, L_9, L_10, L_11, L_12, L_14, L_15, L_16, L_17, L_18, L_20, L_21, L_24, L_26, L_30, L_32, L_34, L_35, L_36, L_37, L_38, L_39, L_40, L_41, L_42, L_43, L_44, L_45, L_46, L_47, L_48, L_57, L_59, L_60, L_61, L_62, L_64, L_65, L_68, L_76, L_80, L_84, L_90, L_92, L_96, L_97, L_98, L_99, L_100, L_104, L_122, L_139, L_140, L_162, L_163, L_164, L_200, L_241, L_255, L_256, L_280, L_284, L_300, L_301, L_303, L_309, L_360, L_400, L_401, L_402, L_403, L_404, L_405, L_406, L_407, L_408, L_999, L_1600, L_3120, L_8596, L_8880, L_9999, L_10000, L_30211, L_99999, L_1000000, k_shr6, w_bd, w_ck, bI_0, bI_1, bI_bo, bo_0, bo_1, decide_true, decide_false, if_true, if_false, ite_true, ite_false, not_true_eq_false, not_false_eq_true, Bool.true_eq_false, Bool.false_eq_true]
          exact q3
        · simp +decide (disch := omega) only [Md_saysOf_4, Md_saysOf_4_B, Md_saysOf_130, w2, w3, ix_n, cl_n, hq, w_bd, w_ck, bI_0, bI_1, bI_bo, bo_0, bo_1, decide_true, decide_false, if_true, if_false, ite_true, ite_false, not_true_eq_false, not_false_eq_true, Bool.true_eq_false, Bool.false_eq_true]
          rw [e1]
          exact q4
      · rw [← hcw, ← hco] at g1
        rw [g2] at hst hlj
        rw [List.length_cons, List.length_cons] at hlj
        obtain ⟨⟨y, y1, y2, y3⟩, ⟨x, x1, x2, x3⟩, hst⟩ := hst
        rw [List.length_cons] at y2 y3
        obtain ⟨z, z1, z2, z3⟩ := bin_v g1 x1 y1 σ τ
        obtain ⟨n1, ⟨k, hk⟩, n2, n3, n4, n5, n6, n7, n8⟩ := binR_ne g1
        have l1 : s.length < 64 := by omega
        have l2 : s.length < 200 := by omega
        have l5 : s.length + 1 < 64 := by omega
        have l6 : s.length + 1 < 200 := by omega
        have l3 : ¬ (s.length + 1 + 1 ≤ 1) := by omega
        have l4 : ¬ (s.length + 1 + 1 = 0) := by omega
        obtain ⟨a, σ', τ', q1, q2, q3, q4, q5, q6⟩ := fin (j + 1) _ _ (by omega) (by omega) (up1 s.length (iI z)) (up2 s.length (lI z)) (by rw [g3]; exact StkR_pu hst z1)
        rw [g3, List.length_cons] at q3 q4
        rw [g2, List.length_cons, List.length_cons]
        refine ⟨a, σ', τ', q1, q2, ?_, ?_, q5, q6⟩
        · have hk64 : k < 64 := by rcases hk with ⟨h1, _⟩ | ⟨h1, _⟩ <;> omega
          have hkw : σ (b3 + 6) (c0 + j) = nI k := by rcases hk with ⟨_, _, h1, _⟩ | ⟨_, h1⟩ <;> exact h1
          have k1 : ¬ (k = 16) := by rcases hk with ⟨_, h1, _, _⟩ | ⟨h1, _⟩ <;> omega
          have k2 : ¬ (k = 15) := by rcases hk with ⟨_, h1, _, _⟩ | ⟨h1, _⟩ <;> omega
          have k3 : ¬ (k = 46) := by rcases hk with ⟨_, _, _, h1⟩ | ⟨h1, _⟩ <;> omega
          have k4 : ¬ (k = 20) := by rcases hk with ⟨_, h1, _, _⟩ | ⟨h1, _⟩ <;> omega
          rw [vo_top hi3 hp hs h7 (k := k) hk64 (by rw [hkw]; exact k_and63s hk64) n1, if_neg (by rcases hk with ⟨_, h1, _, _⟩ | ⟨h1, _⟩ <;> omega)]
          rw [hkw] at z2 ⊢
          simp (disch := omega) only [La_valueOf_74, La_valueOf_100, La_valueOf_119, La_valueOf_139, La_valueOf_161, pk_m1, nI_pred, z_c0, z_c1, nI_leI, nI_ltI, nI_eq, ix_n, cl_n, nI_add, pk_mul, nI_1, n_lt0, n_0le, n_le0, n_0lt, n_eq0, n_1le, n_le1, n_lt1, n_1lt, n_eq1, n_m1, n_m1a, L_2, L_3, L_4, L_5, L_6, L_7, L_8, L_9, L_10, L_11, L_12, L_14, L_15, L_16, L_17, L_18, L_20, L_21, L_24, L_26, L_30, L_32, L_34, L_35, L_36, L_37, L_38, L_39, L_40, L_41, L_42, L_43, L_44, L_45, L_46, L_47, L_48, L_57, L_59, L_60, L_61, L_62, L_64, L_65, L_68, L_76, L_80, L_84, L_90, L_92, L_96, L_97, L_98, L_99, L_100, L_104, L_122, L_139, L_140, L_162, L_163, L_164, L_200, L_241, L_255, L_256, L_280, L_284, L_300, L_301, L_303, L_309, L_360, L_400, L_401, L_402, L_403, L_404, L_405, L_406, L_407, L_408, L_999, L_1600, L_3120, L_8596, L_8880, L_9999, L_10000, L_30211, L_99999, L_1000000, k1, k2, k3, k4, l1, l3, l5, x2, y2, z2, w_bd, w_ck, bI_0, bI_1, bI_bo, bo_0, bo_1, decide_true, decide_false, if_true, if_false, ite_true, ite_false, not_true_eq_false, not_false_eq_true, Bool.true_eq_false, Bool.false_eq_true]
          exact q3
        · simp (disch := omega) only [Md_saysOf_4, Md_saysOf_4_B, Md_saysOf_130, n2, n3, n4, n5, n6, n7, n8, pk_m1, nI_pred, ix_n, cl_n, nI_1, hq, l2, l6, x3, y3, z3, w_bd, w_ck, bI_0, bI_1, bI_bo, bo_0, bo_1, decide_true, decide_false, if_true, if_false, ite_true, ite_false, not_true_eq_false, not_false_eq_true, Bool.true_eq_false, Bool.false_eq_true]
          exact q4
