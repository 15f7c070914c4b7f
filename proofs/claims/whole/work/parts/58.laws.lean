/-! ===== worth, burn, sound, price ===== -/
def EnvR (σ τ : gx_R) (P W T : Nat) : Prop := FolkR (σ 2 0) (σ 2 1) (σ 3) (σ 4) (σ 5) (σ 6) (σ 7) (σ 8) (τ 110) P W ∧ T ≤ 4 ∧ τ 110 3 = σ 1 5 ∧ (σ 1 5 = -1 ∨ ∃ r, r < T ∧ σ 1 5 = nI r) ∧ ∀ t, t < T → TextR σ τ t
def eC (σ σ' : gx_R) : Prop := ∀ k, (1 ≤ k ∧ k ≤ 8) ∨ (81 ≤ k ∧ k ≤ 108) → σ' k = σ k
def eM (τ τ' : gx_R) : Prop := (∀ i, i < 60 → τ' 110 i = τ 110 i) ∧ ∀ k, 113 ≤ k → k ≤ 120 → τ' k = τ k
theorem eC_rf (σ : gx_R) : eC σ σ := fun _ _ => rfl
theorem eC_tr {a b c : gx_R} (h : eC a b) (h2 : eC b c) : eC a c := fun k hk => (h2 k hk).trans (h k hk)
theorem eM_rf (σ : gx_R) : eM σ σ := ⟨fun _ _ => rfl, fun _ _ _ => rfl⟩
theorem eM_tr {a b c : gx_R} (h : eM a b) (h2 : eM b c) : eM a c := ⟨fun k hk => (h2.1 k hk).trans (h.1 k hk), fun k h3 h4 => (h2.2 k h3 h4).trans (h.2 k h3 h4)⟩
theorem EnvR_fr {σ σ' τ τ' : gx_R} {P W T : Nat} (h : eC σ σ') (h2 : eM τ τ') (r : EnvR σ τ P W T) : EnvR σ' τ' P W T := by
  obtain ⟨r1, r2, r3, r4, r5⟩ := r
  refine ⟨?_, r2, ?_, ?_, fun t ht => TextR_fr (fun k h3 h4 => h k (Or.inr ⟨h3, by omega⟩)) (fun k h3 h4 => h2.2 k h3 h4) (by omega) (r5 t ht)⟩
  · rw [h 2 (by omega), h 3 (by omega), h 4 (by omega), h 5 (by omega), h 6 (by omega), h 7 (by omega), h 8 (by omega)]
    exact FolkR_cong rfl rfl (fun _ _ => rfl) (fun _ _ => rfl) (fun _ _ => rfl) (fun _ _ => rfl) (fun _ _ => rfl) (fun _ _ => rfl) h2.1 r1
  · rw [h2.1 3 (by omega), h 1 (by omega)]; exact r3
  · rw [h 1 (by omega)]; exact r4
theorem EnvR_of {σ τ : gx_R} {P W H K T : Nat} (r : ValleyR σ 1 (τ 110) P W H K T) (h : ∀ t, t < T → TextR σ τ t) : EnvR σ τ P W T := by
  obtain ⟨r1, -, -, -, -, -, ⟨-, -, r2⟩, r3, r4⟩ := r
  exact ⟨r1, r2, r3, r4, h⟩
theorem oo_L {τ : gx_R} {r n : Nat} (h3 : τ 110 3 = nI r) (hr : r < 4) (hn : τ 113 r = nI n) (hn24 : n ≤ 24) (l : Int32) (F : Nat → Int32) (hF : ∀ k, k < n → (τ 114 (24 * r + k) = l → F (k + 1) = τ 115 (24 * r + k)) ∧ (τ 114 (24 * r + k) ≠ l → F (k + 1) = F k)) : ∀ m k f, k + m = n → m < f → Md_ordersOf_4 f l (F k) (nI k) τ = some (F n, τ) := by
  intro m
  induction m with
  | zero =>
    intro k n' hk hf
    obtain ⟨n', rfl⟩ : ∃ q, n' = q + 1 := ⟨n' - 1, by omega⟩
    obtain rfl : k = n := by omega
    simp (disch := omega) only [Md_ordersOf_4, Md_ordersOf_4_B, z_c0, z_c1, nI_leI, nI_ltI, nI_eq, ix_n, cl_n, nI_add, pk_mul, nI_1, n_lt0, n_0le, n_le0, n_0lt, n_eq0, n_1le, n_le1, n_lt1, n_1lt, n_eq1, n_m1, n_m1a, L_2, L_3, L_4, L_5, L_6, L_7, L_8, L_9, L_10, L_11, L_12, L_14, L_15, L_16, L_17, L_18, L_20, L_21, L_24, L_26, L_30, L_32, L_34, L_35, L_36, L_37, L_38, L_39, L_40, L_41, L_42, L_43, L_44, L_45, L_46, L_47, L_48, L_57, L_59, L_60, L_61, L_62, L_64, L_65, L_68, L_76, L_80, L_84, L_90, L_92, L_96, L_97, L_98, L_99, L_100, L_104, L_122, L_139, L_140, L_162, L_163, L_164, L_200, L_241, L_255, L_256, L_280, L_284, L_300, L_301, L_303, L_309, L_360, L_400, L_401, L_402, L_403, L_404, L_405, L_406, L_407, L_408, L_999, L_1600, L_3120, L_8596, L_8880, L_9999, L_10000, L_30211, L_99999, L_1000000, h3, hn, hr, Nat.le_refl, w_bd, w_ck, bI_0, bI_1, bI_bo, bo_0, bo_1, decide_true, decide_false, if_true, if_false, ite_true, ite_false, not_true_eq_false, not_false_eq_true, Bool.true_eq_false, Bool.false_eq_true]
  | succ m ih =>
    intro k n' hk hf
    obtain ⟨n', rfl⟩ : ∃ q, n' = q + 1 := ⟨n' - 1, by omega⟩
    have ih := ih (k + 1) n' (by omega) (by omega)
    have c1 : ¬ n ≤ k := by omega
    have c2 : 24 * r + k < 96 := by omega
    simp (disch := omega) only [Md_ordersOf_4, Md_ordersOf_4_B, Md_ordersOf_40, z_c0, z_c1, nI_leI, nI_ltI, nI_eq, ix_n, cl_n, nI_add, pk_mul, nI_1, n_lt0, n_0le, n_le0, n_0lt, n_eq0, n_1le, n_le1, n_lt1, n_1lt, n_eq1, n_m1, n_m1a, L_2, L_3, L_4, L_5, L_6, L_7, L_8, L_9, L_10, L_11, L_12, L_14, L_15, L_16, L_17, L_18, L_20, L_21, L_24, L_26, L_30, L_32, L_34, L_35, L_36, L_37, L_38, L_39, L_40, L_41, L_42, L_43, L_44, L_45, L_46, L_47, L_48, L_57, L_59, L_60, L_61, L_62, L_64, L_65, L_68, L_76, L_80, L_84, L_90, L_92, L_96, L_97, L_98, L_99, L_100, L_104, L_122, L_139, L_140, L_162, L_163, L_164, L_200, L_241, L_255, L_256, L_280, L_284, L_300, L_301, L_303, L_309, L_360, L_400, L_401, L_402, L_403, L_404, L_405, L_406, L_407, L_408, L_999, L_1600, L_3120, L_8596, L_8880, L_9999, L_10000, L_30211, L_99999, L_1000000, h3, hn, hr, c1, c2, w_bd, w_ck, bI_0, bI_1, bI_bo, bo_0, bo_1, decide_true, decide_false, if_true, if_false, ite_true, ite_false, not_true_eq_false, not_false_eq_true, Bool.true_eq_false, Bool.false_eq_true]
    by_cases h : τ 114 (24 * r + k) = l
    · rw [if_pos h, ← (hF k (by omega)).1 h]; exact ih
    · rw [if_neg h, ← (hF k (by omega)).2 h]; exact ih
theorem held_v {a : Int} {M : Nat} (hM : M ≤ 999) (h1 : -1000000 ≤ a) (h2 : a ≤ 1000000) (τ : gx_R) : Md_held (lI a) 0 (nI M) τ = some (iI (max 0 (min (M : Int) a)), τ) := by
  unfold Md_held
  rw [iI_n M, show (0 : Int32) = iI 0 from rfl, iI_64 (by omega) (by omega), iI_64 (by omega) (by omega)]
  by_cases c1 : 0 ≤ a
  · by_cases c2 : a ≤ M
    · rw [if_pos (show iI 0 ≤ lg_cmp (lI a) (lI 0) from (cmp_ge _ _).mpr ((lI_le (by omega) (by omega) (by omega) (by omega)).mpr c1)), if_pos (show lg_cmp (lI a) (lI M) ≤ iI 0 from (cmp_le _ _).mpr ((lI_le (by omega) (by omega) (by omega) (by omega)).mpr c2)), lI_32 (by omega) (by omega)]
      congr 3; omega
    · rw [if_pos (show iI 0 ≤ lg_cmp (lI a) (lI 0) from (cmp_ge _ _).mpr ((lI_le (by omega) (by omega) (by omega) (by omega)).mpr c1)), if_neg (show ¬ lg_cmp (lI a) (lI M) ≤ iI 0 from fun q => c2 ((lI_le (by omega) (by omega) (by omega) (by omega)).mp ((cmp_le _ _).mp q)))]
      congr 3; omega
  · rw [if_neg (show ¬ iI 0 ≤ lg_cmp (lI a) (lI 0) from fun q => c1 ((lI_le (by omega) (by omega) (by omega) (by omega)).mp ((cmp_ge _ _).mp q)))]
    congr 3; omega
/-- a law by THE TEXT: there is none, or both have it and say the same -/
theorem law_case {σ τ : gx_R} {P W T l : Nat} (r : EnvR σ τ P W T) (hl : l < 4) :
    (La_isLaw (nI l) σ = some (0, σ) ∧ Md_ordersOf (nI l) τ = some (-1, τ)) ∨
    (La_isLaw (nI l) σ = some (1, σ) ∧ ∃ ro, ro < 1600 ∧ Md_ordersOf (nI l) τ = some (nI ro, τ) ∧ ∀ (M : Nat) (σ1 τ1 : gx_R), M ≤ 999 → eC σ σ1 → eM τ τ1 → NmR (σ1 51) (τ1 133) l →
      ∃ (v : Nat) (a : Int64) (σ' τ' : gx_R), v ≤ M ∧ La_valueOf (nI l) (nI M) σ1 = some (nI v, σ') ∧ Md_saysOf (nI ro) τ1 = some (a, τ') ∧ (∀ τ2, Md_held a 0 (nI M) τ2 = some (nI v, τ2)) ∧ (∀ k, k ≠ 52 → σ' k = σ1 k) ∧ (∀ k, k ≠ 134 → τ' k = τ1 k)) := by
  obtain ⟨r1, r2, r3, r4, r5⟩ := r
  rcases r4 with r4 | ⟨t, ht, r4⟩
  · left
    constructor
    · unfold La_isLaw
      rw [r4, if_pos (by decide)]
    · rw [r4] at r3
      unfold Md_ordersOf
      obtain ⟨fu, hfu⟩ := z_FU_s
      rw [hfu, Md_ordersOf_4, Md_ordersOf_4_B]
      simp (disch := omega) only [z_c0, z_c1, nI_leI, nI_ltI, nI_eq, ix_n, cl_n, nI_add, pk_mul, nI_1, n_lt0, n_0le, n_le0, n_0lt, n_eq0, n_1le, n_le1, n_lt1, n_1lt, n_eq1, n_m1, n_m1a, L_2, L_3, L_4, L_5, L_6, L_7, L_8, L_9, L_10, L_11, L_12, L_14, L_15, L_16, L_17, L_18, L_20, L_21, L_24, L_26, L_30, L_32, L_34, L_35, L_36, L_37, L_38, L_39, L_40, L_41, L_42, L_43, L_44, L_45, L_46, L_47, L_48, L_57, L_59, L_60, L_61, L_62, L_64, L_65, L_68, L_76, L_80, L_84, L_90, L_92, L_96, L_97, L_98, L_99, L_100, L_104, L_122, L_139, L_140, L_162, L_163, L_164, L_200, L_241, L_255, L_256, L_280, L_284, L_300, L_301, L_303, L_309, L_360, L_400, L_401, L_402, L_403, L_404, L_405, L_406, L_407, L_408, L_999, L_1600, L_3120, L_8596, L_8880, L_9999, L_10000, L_30211, L_99999, L_1000000, r3, w_bd, w_ck, bI_0, bI_1, bI_bo, bo_0, bo_1, decide_true, decide_false, if_true, if_false, ite_true, ite_false, not_true_eq_false, not_false_eq_true, Bool.true_eq_false, Bool.false_eq_true]
  · have ht4 : t < 4 := by omega
    rw [r4] at r3
    obtain ⟨n, sz, g1, g2, g3, g4, g5, g6⟩ := r5 t ht
    have hz4 : z_ix (nI t) 4 = true := ix_t ht4 (by omega)
    have hzl : z_ix (nI l) 4 = true := ix_t hl (by omega)
    have n4 : ¬ nI 4 ≤ nI t := nI_ge ht4 (by omega)
    rcases g6 l hl with ⟨e1, e2⟩ | ⟨c0, r0, k0, e1, e2, e3, e4, e5, len, tp, w1, w2, w3, w4, w5, w6, w7, w8, w9⟩
    · left
      constructor
      · unfold La_isLaw
        rw [r4, if_neg (nI_pos (by omega)), if_neg n4, hz4, hzl, w_ck, w_ck, cl_n (by omega), cl_n (by omega), if_pos e1]
      · exact oo_L r3 ht4 g3 g1 (nI l) (fun _ => -1) (fun k hk => ⟨fun q => absurd q (e2 k hk), fun _ => rfl⟩) n 0 z_FU (by omega) (Nat.lt_of_le_of_lt g1 (Nat.lt_of_lt_of_le (by decide) z_FU_ge))
    · right
      have ne : ¬ σ (81 + 7 * t + 5) l = -1 := by rw [e4]; exact fun q => (n_m1 (by omega)).mp q
      refine ⟨?_, r0, by omega, ?_, ?_⟩
      · unfold La_isLaw
        rw [r4, if_neg (nI_pos (by omega)), if_neg n4, hz4, hzl, w_ck, w_ck, cl_n (by omega), cl_n (by omega), if_neg ne]
      · have := oo_L r3 ht4 g3 g1 (nI l) (fun k => if k0 < k then nI r0 else -1) (fun k hk => ?_) n 0 z_FU (by omega) (Nat.lt_of_le_of_lt g1 (Nat.lt_of_lt_of_le (by decide) z_FU_ge))
        · simp only [e1, if_true, Nat.not_lt_zero, if_false] at this
          exact this
        · constructor
          · intro q
            obtain rfl := e3 k hk q
            rw [e5, if_pos (by omega)]
          · intro q
            have : k ≠ k0 := fun z => q (by rw [z]; exact e2)
            by_cases c : k0 < k
            · rw [if_pos c, if_pos (by omega)]
            · rw [if_neg c, if_neg (by omega)]
      · intro M σ1 τ1 hM hC hE hN
        obtain ⟨a, σ', τ', q1, q2, q3, q4, q5, q6⟩ := ev w1 w2 (show r0 + len < 1600 by omega) w4 w5 w7 w8 w9 hM (b3 := 81 + 7 * t) (by omega) len 0 (by omega) 0 z_FU z_FU σ1 τ1 (by omega) (Nat.lt_of_le_of_lt (show len ≤ 300 by omega) (Nat.lt_of_lt_of_le (by decide) z_FU_ge)) (Nat.lt_of_le_of_lt (show len ≤ 300 by omega) (Nat.lt_of_lt_of_le (by decide) z_FU_ge)) (by rw [hC _ (by omega)]; exact g4) (hC _ (by omega)) (hE.2 119 (by omega) (by omega)) (hE.2 120 (by omega) (by omega)) hN (by rw [w6]; trivial)
        rw [w6] at q3 q4
        obtain ⟨v, hv⟩ : ∃ v : Nat, (v : Int) = max 0 (min (M : Int) a) := ⟨(max 0 (min (M : Int) a)).toNat, by omega⟩
        have ev : iI (max 0 (min (M : Int) a)) = nI v := by rw [← hv, iI_n]
        refine ⟨v, lI a, σ', τ', by omega, ?_, q4, fun τ2 => ?_, q5, q6⟩
        · unfold La_valueOf
          rw [hC 1 (by omega), r4, hz4, hzl, w_ck, w_ck, cl_n (by omega), cl_n (by omega), hC (81 + 7 * t + 5) (by omega), e4, ← ev]
          exact q3
        · rw [held_v hM q1 q2, ev]

/-- what laws may leave otherwise -/
def lC (σ σ' : gx_R) : Prop := ∀ k, k ≠ 51 → k ≠ 52 → σ' k = σ k
def lM (τ τ' : gx_R) : Prop := ∀ k, k ≠ 133 → k ≠ 134 → τ' k = τ k
theorem lC_rf (σ : gx_R) : lC σ σ := fun _ _ _ => rfl
theorem lM_rf (σ : gx_R) : lM σ σ := fun _ _ _ => rfl
theorem lC_tr {a b c : gx_R} (h : lC a b) (h2 : lC b c) : lC a c := fun k h3 h4 => (h2 k h3 h4).trans (h k h3 h4)
theorem lM_tr {a b c : gx_R} (h : lM a b) (h2 : lM b c) : lM a c := fun k h3 h4 => (h2 k h3 h4).trans (h k h3 h4)
theorem lC_e {σ σ' : gx_R} (h : lC σ σ') : eC σ σ' := fun k hk => h k (by omega) (by omega)
theorem lM_e {σ σ' : gx_R} (h : lM σ σ') : eM σ σ' := ⟨fun i _ => by rw [h 110 (by omega) (by omega)], fun k h1 h2 => h k (by omega) (by omega)⟩
theorem NmR_9 {A B : gx_F} {l : Nat} (h : ∀ q, q < 9 → nmOk l q = true → ∃ n : Nat, n ≤ 1000000 ∧ A q = nI n ∧ B q = nI n) : NmR A B l := by
  intro q hq hok
  obtain ⟨n, h1, h2, h3⟩ := h q hq hok
  exact ⟨n, by omega, by omega, by rw [h2, iI_n], by rw [h3, iI_n]⟩
theorem q9 {q : Nat} (h : q < 9) : q = 0 ∨ q = 1 ∨ q = 2 ∨ q = 3 ∨ q = 4 ∨ q = 5 ∨ q = 6 ∨ q = 7 ∨ q = 8 := by omega
theorem worth_v {σ τ : gx_R} {P W T : Nat} (r : EnvR σ τ P W T) {s wh o d H : Nat} (hs : s < P) (hw : wh ≤ 1000000) (ho : o ≤ 1000000) (hd : d ≤ 1000000) (hH : H ≤ 1000000) (h42 : τ 109 42 = nI H) : ∃ v σ' τ', v ≤ 99 ∧ La_worthOf (nI s) (nI wh) (nI o) (nI d) (nI H) σ = some (nI v, σ') ∧ Md_worthBy (nI s) (nI o) (nI d) (nI wh) τ = some (nI v, τ') ∧ lC σ σ' ∧ lM τ τ' := by
  have hP := r.1.1.1
  obtain ⟨x, y, hx, hy, f1, f2, f3, f4⟩ := r.1.2.2.1 s hs
  have hs8 : s < 8 := by omega
  have hs9 : 10 + s < 8880 := by omega
  rcases law_case r (l := 0) (by omega) with ⟨l1, l2⟩ | ⟨l1, ro, hro, l2, l4⟩
  · refine ⟨10, σ, τ, by omega, ?_, ?_, lC_rf σ, lM_rf τ⟩
    · rw [La_worthOf, show La_isLaw (0 : Int32) σ = some (0, σ) from l1, w_bd, if_pos rfl]; rfl
    · rw [Md_worthBy, show Md_ordersOf (0 : Int32) τ = some (-1, τ) from l2, w_bd, if_pos rfl]; rfl
  · have nro : ¬ nI ro = -1 := fun q => (n_m1 (by omega)).mp q
    obtain ⟨v, a, σ', τ', q1, q2, q3, q4, q5, q6⟩ := l4 99 (gx_up (gx_up (gx_up (gx_up (gx_up (gx_up σ 51 0 (nI s)) 51 1 (nI H)) 51 2 (nI o)) 51 3 (nI x)) 51 4 (nI d)) 51 5 (nI wh)) (gx_up (gx_up (gx_up (gx_up (gx_up (gx_up τ 133 0 (nI s)) 133 1 (nI H)) 133 2 (nI o)) 133 3 (nI x)) 133 4 (nI d)) 133 5 (nI wh)) (by omega) (fun k hk => by simp only [gx_up_ne (show k ≠ 51 by omega)]) ⟨fun i _ => by simp only [gx_up_ne (show 110 ≠ 133 by omega)], fun k h1 h2 => by simp only [gx_up_ne (show k ≠ 133 by omega)]⟩ (NmR_9 (fun q hq hok => by
      rcases q9 hq with rfl | rfl | rfl | rfl | rfl | rfl | rfl | rfl | rfl
      · exact ⟨s, by omega, rfl, rfl⟩
      · exact ⟨H, by omega, rfl, rfl⟩
      · exact ⟨o, by omega, rfl, rfl⟩
      · exact ⟨x, by omega, rfl, rfl⟩
      · exact ⟨d, by omega, rfl, rfl⟩
      · exact ⟨wh, by omega, rfl, rfl⟩
      · exact absurd hok (by decide)
      · exact absurd hok (by decide)
      · exact absurd hok (by decide)))
    refine ⟨v, σ', τ', q1, ?_, ?_, fun k h1 h2 => (q5 k h2).trans (by simp only [gx_up_ne h1]), fun k h1 h2 => (q6 k h2).trans (by simp only [gx_up_ne h1])⟩
    · replace q2 : La_valueOf (0 : Int32) (nI 99) _ = _ := q2
      rw [La_worthOf, show La_isLaw (0 : Int32) σ = some (1, σ) from l1, w_bd, if_neg (by decide), ix_t hs8 (by omega), w_ck]
      simp (disch := omega) only [z_c0, z_c1, nI_leI, nI_ltI, nI_eq, ix_n, cl_n, nI_add, pk_mul, nI_1, n_lt0, n_0le, n_le0, n_0lt, n_eq0, n_1le, n_le1, n_lt1, n_1lt, n_eq1, n_m1, n_m1a, L_2, L_3, L_4, L_5, L_6, L_7, L_8, L_9, L_10, L_11, L_12, L_14, L_15, L_16, L_17, L_18, L_20, L_21, L_24, L_26, L_30, L_32, L_34, L_35, L_36, L_37, L_38, L_39, L_40, L_41, L_42, L_43, L_44, L_45, L_46, L_47, L_48, L_57, L_59, L_60, L_61, L_62, L_64, L_65, L_68, L_76, L_80, L_84, L_90, L_92, L_96, L_97, L_98, L_99, L_100, L_104, L_122, L_139, L_140, L_162, L_163, L_164, L_200, L_241, L_255, L_256, L_280, L_284, L_300, L_301, L_303, L_309, L_360, L_400, L_401, L_402, L_403, L_404, L_405, L_406, L_407, L_408, L_999, L_1600, L_3120, L_8596, L_8880, L_9999, L_10000, L_30211, L_99999, L_1000000, gx_up_ne (show 3 ≠ 51 by omega), f1, q2, w_bd, w_ck, bI_0, bI_1, bI_bo, bo_0, bo_1, decide_true, decide_false, if_true, if_false, ite_true, ite_false, not_true_eq_false, not_false_eq_true, Bool.true_eq_false, Bool.false_eq_true]
    · rw [Md_worthBy, show Md_ordersOf (0 : Int32) τ = some (nI ro, τ) from l2, w_bd, if_neg nro]
      simp (disch := omega) only [Md_names, z_c0, z_c1, nI_leI, nI_ltI, nI_eq, ix_n, cl_n, nI_add, pk_mul, nI_1, n_lt0, n_0le, n_le0, n_0lt, n_eq0, n_1le, n_le1, n_lt1, n_1lt, n_eq1, n_m1, n_m1a, L_2, L_3, L_4, L_5, L_6, L_7, L_8, L_9, L_10, L_11, L_12, L_14, L_15, L_16, L_17, L_18, L_20, L_21, L_24, L_26, L_30, L_32, L_34, L_35, L_36, L_37, L_38, L_39, L_40, L_41, L_42, L_43, L_44, L_45, L_46, L_47, L_48, L_57, L_59, L_60, L_61, L_62, L_64, L_65, L_68, L_76, L_80, L_84, L_90, L_92, L_96, L_97, L_98, L_99, L_100, L_104, L_122, L_139, L_140, L_162, L_163, L_164, L_200, L_241, L_255, L_256, L_280, L_284, L_300, L_301, L_303, L_309, L_360, L_400, L_401, L_402, L_403, L_404, L_405, L_406, L_407, L_408, L_999, L_1600, L_3120, L_8596, L_8880, L_9999, L_10000, L_30211, L_99999, L_1000000, gx_up_ne (show 110 ≠ 133 by omega), gx_up_ne (show 109 ≠ 133 by omega), hs9, h42, f2, w_bd, w_ck, bI_0, bI_1, bI_bo, bo_0, bo_1, decide_true, decide_false, if_true, if_false, ite_true, ite_false, not_true_eq_false, not_false_eq_true, Bool.true_eq_false, Bool.false_eq_true]
      rw [q3, w_bd, q4]; rfl

theorem burn_v {σ τ : gx_R} {P W T : Nat} (r : EnvR σ τ P W T) {p w o H : Nat} (hp : p < P) (hw : w < W) (ho : o ≤ 1000000) (hH : H ≤ 1000000) (h42 : τ 109 42 = nI H) : ∃ v σ' τ', v ≤ 99 ∧ La_burnOf (nI p) (nI w) (nI o) (nI H) σ = some (nI v, σ') ∧ Md_burnBy (nI p) (nI o) (nI w) τ = some (nI v, τ') ∧ lC σ σ' ∧ lM τ τ' := by
  have hP := r.1.1.1
  have hW := r.1.1.2
  obtain ⟨x, y, hx, hy, f1, f2, f3, f4⟩ := r.1.2.2.1 p hp
  obtain ⟨e, z, he, he2, hz, g1, g2, g3, g4⟩ := r.1.2.2.2.2.2 w hw
  have f0 := r.1.2.1.2.2.1
  have hp9 : 10 + p < 8880 := by omega
  have hw6 : w < 6 := by omega
  have hw9 : 48 + w < 8880 := by omega
  rcases law_case r (l := 1) (by omega) with ⟨l1, l2⟩ | ⟨l1, ro, hro, l2, l4⟩
  · refine ⟨10, σ, τ, by omega, ?_, ?_, lC_rf σ, lM_rf τ⟩
    · rw [La_burnOf, show La_isLaw (1 : Int32) σ = some (0, σ) from l1, w_bd, if_pos rfl]; rfl
    · rw [Md_burnBy, show Md_ordersOf (1 : Int32) τ = some (-1, τ) from l2, w_bd, if_pos rfl]; rfl
  · have nro : ¬ nI ro = -1 := fun q => (n_m1 (by omega)).mp q
    obtain ⟨v, a, σ', τ', q1, q2, q3, q4, q5, q6⟩ := l4 99 (gx_up (gx_up (gx_up (gx_up (gx_up σ 51 0 (nI p)) 51 1 (nI H)) 51 2 (nI o)) 51 6 (nI w)) 51 7 (nI z)) (gx_up (gx_up (gx_up (gx_up (gx_up (gx_up τ 133 0 (nI p)) 133 1 (nI H)) 133 2 (nI o)) 133 3 (nI x)) 133 6 (nI w)) 133 7 (nI z)) (by omega) (fun k hk => by simp only [gx_up_ne (show k ≠ 51 by omega)]) ⟨fun i _ => by simp only [gx_up_ne (show 110 ≠ 133 by omega)], fun k h1 h2 => by simp only [gx_up_ne (show k ≠ 133 by omega)]⟩ (NmR_9 (fun q hq hok => by
      rcases q9 hq with rfl | rfl | rfl | rfl | rfl | rfl | rfl | rfl | rfl
      · exact ⟨p, by omega, rfl, rfl⟩
      · exact ⟨H, by omega, rfl, rfl⟩
      · exact ⟨o, by omega, rfl, rfl⟩
      · exact absurd hok (by decide)
      · exact absurd hok (by decide)
      · exact absurd hok (by decide)
      · exact ⟨w, by omega, rfl, rfl⟩
      · exact ⟨z, by omega, rfl, rfl⟩
      · exact absurd hok (by decide)))
    refine ⟨v, σ', τ', q1, ?_, ?_, fun k h1 h2 => (q5 k h2).trans (by simp only [gx_up_ne h1]), fun k h1 h2 => (q6 k h2).trans (by simp only [gx_up_ne h1])⟩
    · replace q2 : La_valueOf (1 : Int32) (nI 99) _ = _ := q2
      rw [La_burnOf, show La_isLaw (1 : Int32) σ = some (1, σ) from l1, w_bd, if_neg (by decide)]
      simp (disch := omega) only [z_c0, z_c1, nI_leI, nI_ltI, nI_eq, ix_n, cl_n, nI_add, pk_mul, nI_1, n_lt0, n_0le, n_le0, n_0lt, n_eq0, n_1le, n_le1, n_lt1, n_1lt, n_eq1, n_m1, n_m1a, L_2, L_3, L_4, L_5, L_6, L_7, L_8, L_9, L_10, L_11, L_12, L_14, L_15, L_16, L_17, L_18, L_20, L_21, L_24, L_26, L_30, L_32, L_34, L_35, L_36, L_37, L_38, L_39, L_40, L_41, L_42, L_43, L_44, L_45, L_46, L_47, L_48, L_57, L_59, L_60, L_61, L_62, L_64, L_65, L_68, L_76, L_80, L_84, L_90, L_92, L_96, L_97, L_98, L_99, L_100, L_104, L_122, L_139, L_140, L_162, L_163, L_164, L_200, L_241, L_255, L_256, L_280, L_284, L_300, L_301, L_303, L_309, L_360, L_400, L_401, L_402, L_403, L_404, L_405, L_406, L_407, L_408, L_999, L_1600, L_3120, L_8596, L_8880, L_9999, L_10000, L_30211, L_99999, L_1000000, La_burnOf_43, Fo_isWork_v (W := W) (σ := gx_up (gx_up (gx_up (gx_up σ 51 0 (nI p)) 51 1 (nI H)) 51 2 (nI o)) 51 6 (nI w)) (by simp only [gx_up_ne (show 2 ≠ 51 by omega)]; exact f0) hW, hw, hw6, bI_t, show ¬ ((1 : Int32) = 0) by decide, gx_up_ne (show 8 ≠ 51 by omega), show (7 : Nat) < 9 by omega, g3, q2, w_bd, w_ck, bI_0, bI_1, bI_bo, bo_0, bo_1, decide_true, decide_false, if_true, if_false, ite_true, ite_false, not_true_eq_false, not_false_eq_true, Bool.true_eq_false, Bool.false_eq_true]
    · rw [Md_burnBy, show Md_ordersOf (1 : Int32) τ = some (nI ro, τ) from l2, w_bd, if_neg nro]
      simp (disch := omega) only [Md_names, z_c0, z_c1, nI_leI, nI_ltI, nI_eq, ix_n, cl_n, nI_add, pk_mul, nI_1, n_lt0, n_0le, n_le0, n_0lt, n_eq0, n_1le, n_le1, n_lt1, n_1lt, n_eq1, n_m1, n_m1a, L_2, L_3, L_4, L_5, L_6, L_7, L_8, L_9, L_10, L_11, L_12, L_14, L_15, L_16, L_17, L_18, L_20, L_21, L_24, L_26, L_30, L_32, L_34, L_35, L_36, L_37, L_38, L_39, L_40, L_41, L_42, L_43, L_44, L_45, L_46, L_47, L_48, L_57, L_59, L_60, L_61, L_62, L_64, L_65, L_68, L_76, L_80, L_84, L_90, L_92, L_96, L_97, L_98, L_99, L_100, L_104, L_122, L_139, L_140, L_162, L_163, L_164, L_200, L_241, L_255, L_256, L_280, L_284, L_300, L_301, L_303, L_309, L_360, L_400, L_401, L_402, L_403, L_404, L_405, L_406, L_407, L_408, L_999, L_1600, L_3120, L_8596, L_8880, L_9999, L_10000, L_30211, L_99999, L_1000000, gx_up_ne (show 110 ≠ 133 by omega), gx_up_ne (show 109 ≠ 133 by omega), hp9, hw9, h42, f2, g4, w_bd, w_ck, bI_0, bI_1, bI_bo, bo_0, bo_1, decide_true, decide_false, if_true, if_false, ite_true, ite_false, not_true_eq_false, not_false_eq_true, Bool.true_eq_false, Bool.false_eq_true]
      rw [q3, w_bd, q4]; rfl
theorem sound_v {σ τ : gx_R} {P W T : Nat} (r : EnvR σ τ P W T) {p o H : Nat} (hp : p < P) (ho : o ≤ 1000000) (hH : H ≤ 1000000) (h42 : τ 109 42 = nI H) (h137 : τ 137 p = nI o) : ∃ v σ' τ', v ≤ 99 ∧ La_soundOf (nI p) (nI o) (nI H) σ = some (nI v, σ') ∧ Md_soundOf (nI p) τ = some (nI v, τ') ∧ lC σ σ' ∧ lM τ τ' := by
  have hP := r.1.1.1
  obtain ⟨x, y, hx, hy, f1, f2, f3, f4⟩ := r.1.2.2.1 p hp
  have hp9 : 10 + p < 8880 := by omega
  have hp8 : p < 8 := by omega
  rcases law_case r (l := 2) (by omega) with ⟨l1, l2⟩ | ⟨l1, ro, hro, l2, l4⟩
  · refine ⟨x, σ, gx_up (gx_up (gx_up (gx_up τ 133 0 (nI p)) 133 1 (nI H)) 133 2 (nI o)) 133 3 (nI x), by omega, ?_, ?_, lC_rf σ, fun k h1 h2 => by simp only [gx_up_ne h1]⟩
    · rw [La_soundOf, show La_isLaw (2 : Int32) σ = some (0, σ) from l1, w_bd, if_pos rfl, ix_t hp8 (by omega), w_ck, cl_n (by omega), f1]
    · rw [Md_soundOf, show Md_ordersOf (2 : Int32) τ = some (_, τ) from l2, w_bd]
      simp (disch := omega) only [Md_names, z_c0, z_c1, nI_leI, nI_ltI, nI_eq, ix_n, cl_n, nI_add, pk_mul, nI_1, n_lt0, n_0le, n_le0, n_0lt, n_eq0, n_1le, n_le1, n_lt1, n_1lt, n_eq1, n_m1, n_m1a, L_2, L_3, L_4, L_5, L_6, L_7, L_8, L_9, L_10, L_11, L_12, L_14, L_15, L_16, L_17, L_18, L_20, L_21, L_24, L_26, L_30, L_32, L_34, L_35, L_36, L_37, L_38, L_39, L_40, L_41, L_42, L_43, L_44, L_45, L_46, L_47, L_48, L_57, L_59, L_60, L_61, L_62, L_64, L_65, L_68, L_76, L_80, L_84, L_90, L_92, L_96, L_97, L_98, L_99, L_100, L_104, L_122, L_139, L_140, L_162, L_163, L_164, L_200, L_241, L_255, L_256, L_280, L_284, L_300, L_301, L_303, L_309, L_360, L_400, L_401, L_402, L_403, L_404, L_405, L_406, L_407, L_408, L_999, L_1600, L_3120, L_8596, L_8880, L_9999, L_10000, L_30211, L_99999, L_1000000, gx_up_ne (show 110 ≠ 133 by omega), gx_up_ne (show 109 ≠ 133 by omega), hp8, hp9, h42, h137, f2, w_bd, w_ck, bI_0, bI_1, bI_bo, bo_0, bo_1, decide_true, decide_false, if_true, if_false, ite_true, ite_false, not_true_eq_false, not_false_eq_true, Bool.true_eq_false, Bool.false_eq_true]
  · have nro : ¬ nI ro = -1 := fun q => (n_m1 (by omega)).mp q
    obtain ⟨v, a, σ', τ', q1, q2, q3, q4, q5, q6⟩ := l4 99 (gx_up (gx_up (gx_up (gx_up σ 51 0 (nI p)) 51 1 (nI H)) 51 2 (nI o)) 51 3 (nI x)) (gx_up (gx_up (gx_up (gx_up τ 133 0 (nI p)) 133 1 (nI H)) 133 2 (nI o)) 133 3 (nI x)) (by omega) (fun k hk => by simp only [gx_up_ne (show k ≠ 51 by omega)]) ⟨fun i _ => by simp only [gx_up_ne (show 110 ≠ 133 by omega)], fun k h1 h2 => by simp only [gx_up_ne (show k ≠ 133 by omega)]⟩ (NmR_9 (fun q hq hok => by
      rcases q9 hq with rfl | rfl | rfl | rfl | rfl | rfl | rfl | rfl | rfl
      · exact ⟨p, by omega, rfl, rfl⟩
      · exact ⟨H, by omega, rfl, rfl⟩
      · exact ⟨o, by omega, rfl, rfl⟩
      · exact ⟨x, by omega, rfl, rfl⟩
      · exact absurd hok (by decide)
      · exact absurd hok (by decide)
      · exact absurd hok (by decide)
      · exact absurd hok (by decide)
      · exact absurd hok (by decide)))
    refine ⟨v, σ', τ', q1, ?_, ?_, fun k h1 h2 => (q5 k h2).trans (by simp only [gx_up_ne h1]), fun k h1 h2 => (q6 k h2).trans (by simp only [gx_up_ne h1])⟩
    · rw [La_soundOf, show La_isLaw (2 : Int32) σ = some (1, σ) from l1, w_bd, if_neg (by decide), ix_t hp8 (by omega), w_ck]
      simp (disch := omega) only [z_c0, z_c1, nI_leI, nI_ltI, nI_eq, ix_n, cl_n, nI_add, pk_mul, nI_1, n_lt0, n_0le, n_le0, n_0lt, n_eq0, n_1le, n_le1, n_lt1, n_1lt, n_eq1, n_m1, n_m1a, L_2, L_3, L_4, L_5, L_6, L_7, L_8, L_9, L_10, L_11, L_12, L_14, L_15, L_16, L_17, L_18, L_20, L_21, L_24, L_26, L_30, L_32, L_34, L_35, L_36, L_37, L_38, L_39, L_40, L_41, L_42, L_43, L_44, L_45, L_46, L_47, L_48, L_57, L_59, L_60, L_61, L_62, L_64, L_65, L_68, L_76, L_80, L_84, L_90, L_92, L_96, L_97, L_98, L_99, L_100, L_104, L_122, L_139, L_140, L_162, L_163, L_164, L_200, L_241, L_255, L_256, L_280, L_284, L_300, L_301, L_303, L_309, L_360, L_400, L_401, L_402, L_403, L_404, L_405, L_406, L_407, L_408, L_999, L_1600, L_3120, L_8596, L_8880, L_9999, L_10000, L_30211, L_99999, L_1000000, gx_up_ne (show 3 ≠ 51 by omega), f1, q2, w_bd, w_ck, bI_0, bI_1, bI_bo, bo_0, bo_1, decide_true, decide_false, if_true, if_false, ite_true, ite_false, not_true_eq_false, not_false_eq_true, Bool.true_eq_false, Bool.false_eq_true]
    · rw [Md_soundOf, show Md_ordersOf (2 : Int32) τ = some (_, τ) from l2, w_bd]
      simp (disch := omega) only [Md_names, z_c0, z_c1, nI_leI, nI_ltI, nI_eq, ix_n, cl_n, nI_add, pk_mul, nI_1, n_lt0, n_0le, n_le0, n_0lt, n_eq0, n_1le, n_le1, n_lt1, n_1lt, n_eq1, n_m1, n_m1a, L_2, L_3, L_4, L_5, L_6, L_7, L_8, L_9, L_10, L_11, L_12, L_14, L_15, L_16, L_17, L_18, L_20, L_21, L_24, L_26, L_30, L_32, L_34, L_35, L_36, L_37, L_38, L_39, L_40, L_41, L_42, L_43, L_44, L_45, L_46, L_47, L_48, L_57, L_59, L_60, L_61, L_62, L_64, L_65, L_68, L_76, L_80, L_84, L_90, L_92, L_96, L_97, L_98, L_99, L_100, L_104, L_122, L_139, L_140, L_162, L_163, L_164, L_200, L_241, L_255, L_256, L_280, L_284, L_300, L_301, L_303, L_309, L_360, L_400, L_401, L_402, L_403, L_404, L_405, L_406, L_407, L_408, L_999, L_1600, L_3120, L_8596, L_8880, L_9999, L_10000, L_30211, L_99999, L_1000000, gx_up_ne (show 110 ≠ 133 by omega), gx_up_ne (show 109 ≠ 133 by omega), hp8, hp9, h42, h137, f2, nro, w_bd, w_ck, bI_0, bI_1, bI_bo, bo_0, bo_1, decide_true, decide_false, if_true, if_false, ite_true, ite_false, not_true_eq_false, not_false_eq_true, Bool.true_eq_false, Bool.false_eq_true]
      rw [q3, w_bd, q4]; rfl
theorem price_v {σ τ : gx_R} {P W T : Nat} (r : EnvR σ τ P W T) {p q e H : Nat} (hp : p < P) (hq : q < P) (he : e ≤ 1000000) (hH : H ≤ 1000000) (h42 : τ 109 42 = nI H) (ho : τ 110 (98 + 8 * q + p) = nI e) : ∃ v σ' τ', v ≤ 999 ∧ La_priceOf (nI p) (nI e) (nI H) σ = some (nI v, σ') ∧ Md_priceOf (nI p) (nI q) τ = some (nI v, τ') ∧ lC σ σ' ∧ lM τ τ' := by
  have hP := r.1.1.1
  obtain ⟨x, y, hx, hy, f1, f2, f3, f4⟩ := r.1.2.2.1 p hp
  have hp9 : 10 + p < 8880 := by omega
  have hp8 : p < 8 := by omega
  have hq9 : 98 + 8 * q + p < 8880 := by omega
  rcases law_case r (l := 3) (by omega) with ⟨l1, l2⟩ | ⟨l1, ro, hro, l2, l4⟩
  · refine ⟨1, σ, gx_up (gx_up (gx_up (gx_up (gx_up τ 133 0 (nI p)) 133 1 (nI H)) 133 2 0) 133 3 (nI x)) 133 8 (nI e), by omega, ?_, ?_, lC_rf σ, fun k h1 h2 => by simp only [gx_up_ne h1]⟩
    · rw [La_priceOf, show La_isLaw (3 : Int32) σ = some (0, σ) from l1, w_bd, if_pos rfl]; rfl
    · rw [Md_priceOf, show Md_ordersOf (3 : Int32) τ = some (_, τ) from l2, w_bd]
      simp (disch := omega) only [Md_names, z_c0, z_c1, nI_leI, nI_ltI, nI_eq, ix_n, cl_n, nI_add, pk_mul, nI_1, n_lt0, n_0le, n_le0, n_0lt, n_eq0, n_1le, n_le1, n_lt1, n_1lt, n_eq1, n_m1, n_m1a, L_2, L_3, L_4, L_5, L_6, L_7, L_8, L_9, L_10, L_11, L_12, L_14, L_15, L_16, L_17, L_18, L_20, L_21, L_24, L_26, L_30, L_32, L_34, L_35, L_36, L_37, L_38, L_39, L_40, L_41, L_42, L_43, L_44, L_45, L_46, L_47, L_48, L_57, L_59, L_60, L_61, L_62, L_64, L_65, L_68, L_76, L_80, L_84, L_90, L_92, L_96, L_97, L_98, L_99, L_100, L_104, L_122, L_139, L_140, L_162, L_163, L_164, L_200, L_241, L_255, L_256, L_280, L_284, L_300, L_301, L_303, L_309, L_360, L_400, L_401, L_402, L_403, L_404, L_405, L_406, L_407, L_408, L_999, L_1600, L_3120, L_8596, L_8880, L_9999, L_10000, L_30211, L_99999, L_1000000, gx_up_ne (show 110 ≠ 133 by omega), gx_up_ne (show 109 ≠ 133 by omega), hp8, hp9, hq9, h42, ho, f2, w_bd, w_ck, bI_0, bI_1, bI_bo, bo_0, bo_1, decide_true, decide_false, if_true, if_false, ite_true, ite_false, not_true_eq_false, not_false_eq_true, Bool.true_eq_false, Bool.false_eq_true]
      rfl
  · have nro : ¬ nI ro = -1 := fun q => (n_m1 (by omega)).mp q
    obtain ⟨v, a, σ', τ', q1, q2, q3, q4, q5, q6⟩ := l4 999 (gx_up (gx_up (gx_up (gx_up σ 51 0 (nI p)) 51 1 (nI H)) 51 3 (nI x)) 51 8 (nI e)) (gx_up (gx_up (gx_up (gx_up (gx_up τ 133 0 (nI p)) 133 1 (nI H)) 133 2 0) 133 3 (nI x)) 133 8 (nI e)) (by omega) (fun k hk => by simp only [gx_up_ne (show k ≠ 51 by omega)]) ⟨fun i _ => by simp only [gx_up_ne (show 110 ≠ 133 by omega)], fun k h1 h2 => by simp only [gx_up_ne (show k ≠ 133 by omega)]⟩ (NmR_9 (fun q hq hok => by
      rcases q9 hq with rfl | rfl | rfl | rfl | rfl | rfl | rfl | rfl | rfl
      · exact ⟨p, by omega, rfl, rfl⟩
      · exact ⟨H, by omega, rfl, rfl⟩
      · exact absurd hok (by decide)
      · exact ⟨x, by omega, rfl, rfl⟩
      · exact absurd hok (by decide)
      · exact absurd hok (by decide)
      · exact absurd hok (by decide)
      · exact absurd hok (by decide)
      · exact ⟨e, by omega, rfl, rfl⟩))
    refine ⟨v, σ', τ', q1, ?_, ?_, fun k h1 h2 => (q5 k h2).trans (by simp only [gx_up_ne h1]), fun k h1 h2 => (q6 k h2).trans (by simp only [gx_up_ne h1])⟩
    · rw [La_priceOf, show La_isLaw (3 : Int32) σ = some (1, σ) from l1, w_bd, if_neg (by decide), ix_t hp8 (by omega), w_ck]
      simp (disch := omega) only [z_c0, z_c1, nI_leI, nI_ltI, nI_eq, ix_n, cl_n, nI_add, pk_mul, nI_1, n_lt0, n_0le, n_le0, n_0lt, n_eq0, n_1le, n_le1, n_lt1, n_1lt, n_eq1, n_m1, n_m1a, L_2, L_3, L_4, L_5, L_6, L_7, L_8, L_9, L_10, L_11, L_12, L_14, L_15, L_16, L_17, L_18, L_20, L_21, L_24, L_26, L_30, L_32, L_34, L_35, L_36, L_37, L_38, L_39, L_40, L_41, L_42, L_43, L_44, L_45, L_46, L_47, L_48, L_57, L_59, L_60, L_61, L_62, L_64, L_65, L_68, L_76, L_80, L_84, L_90, L_92, L_96, L_97, L_98, L_99, L_100, L_104, L_122, L_139, L_140, L_162, L_163, L_164, L_200, L_241, L_255, L_256, L_280, L_284, L_300, L_301, L_303, L_309, L_360, L_400, L_401, L_402, L_403, L_404, L_405, L_406, L_407, L_408, L_999, L_1600, L_3120, L_8596, L_8880, L_9999, L_10000, L_30211, L_99999, L_1000000, gx_up_ne (show 3 ≠ 51 by omega), f1, q2, w_bd, w_ck, bI_0, bI_1, bI_bo, bo_0, bo_1, decide_true, decide_false, if_true, if_false, ite_true, ite_false, not_true_eq_false, not_false_eq_true, Bool.true_eq_false, Bool.false_eq_true]
    · rw [Md_priceOf, show Md_ordersOf (3 : Int32) τ = some (_, τ) from l2, w_bd]
      simp (disch := omega) only [Md_names, z_c0, z_c1, nI_leI, nI_ltI, nI_eq, ix_n, cl_n, nI_add, pk_mul, nI_1, n_lt0, n_0le, n_le0, n_0lt, n_eq0, n_1le, n_le1, n_lt1, n_1lt, n_eq1, n_m1, n_m1a, L_2, L_3, L_4, L_5, L_6, L_7, L_8, L_9, L_10, L_11, L_12, L_14, L_15, L_16, L_17, L_18, L_20, L_21, L_24, L_26, L_30, L_32, L_34, L_35, L_36, L_37, L_38, L_39, L_40, L_41, L_42, L_43, L_44, L_45, L_46, L_47, L_48, L_57, L_59, L_60, L_61, L_62, L_64, L_65, L_68, L_76, L_80, L_84, L_90, L_92, L_96, L_97, L_98, L_99, L_100, L_104, L_122, L_139, L_140, L_162, L_163, L_164, L_200, L_241, L_255, L_256, L_280, L_284, L_300, L_301, L_303, L_309, L_360, L_400, L_401, L_402, L_403, L_404, L_405, L_406, L_407, L_408, L_999, L_1600, L_3120, L_8596, L_8880, L_9999, L_10000, L_30211, L_99999, L_1000000, gx_up_ne (show 110 ≠ 133 by omega), gx_up_ne (show 109 ≠ 133 by omega), hp8, hp9, hq9, h42, ho, f2, nro, w_bd, w_ck, bI_0, bI_1, bI_bo, bo_0, bo_1, decide_true, decide_false, if_true, if_false, ite_true, ite_false, not_true_eq_false, not_false_eq_true, Bool.true_eq_false, Bool.false_eq_true]
      rw [q3, w_bd, q4]; rfl
