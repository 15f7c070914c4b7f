/-! ===== pieces of an hour ===== -/
/-- the reference's night that is reckoned with, as it lies in saved rows -/
def nuM (τ : gx_R) : gx_F := fun i => if i < 8 then τ 135 i else if i < 16 then τ 136 (i - 8) else if i < 24 then τ 137 (i - 16) else if i < 32 then τ 138 (i - 24) else if i < 38 then τ 139 (i - 32) else if i < 102 then τ 140 (i - 38) else if i = 102 then τ 109 42 else τ 109 43
theorem mu_d (τ : gx_R) {p : Nat} (h : p < 8) : nuM τ p = τ 135 p := by simp only [nuM, if_pos h]
theorem mu_w (τ : gx_R) {p : Nat} (h : p < 8) : nuM τ (8 + p) = τ 136 p := by
  have h1 : ¬ 8 + p < 8 := by omega
  have h2 : 8 + p < 16 := by omega
  simp only [nuM, if_neg h1, if_pos h2, Nat.add_sub_cancel_left]
theorem mu_o (τ : gx_R) {p : Nat} (h : p < 8) : nuM τ (16 + p) = τ 137 p := by
  have h1 : ¬ 16 + p < 8 := by omega
  have h2 : ¬ 16 + p < 16 := by omega
  have h3 : 16 + p < 24 := by omega
  simp only [nuM, if_neg h1, if_neg h2, if_pos h3, Nat.add_sub_cancel_left]
theorem mu_r (τ : gx_R) {p : Nat} (h : p < 8) : nuM τ (24 + p) = τ 138 p := by
  have h1 : ¬ 24 + p < 8 := by omega
  have h2 : ¬ 24 + p < 16 := by omega
  have h3 : ¬ 24 + p < 24 := by omega
  have h4 : 24 + p < 32 := by omega
  simp only [nuM, if_neg h1, if_neg h2, if_neg h3, if_pos h4, Nat.add_sub_cancel_left]
theorem mu_n (τ : gx_R) {w : Nat} (h : w < 6) : nuM τ (32 + w) = τ 139 w := by
  have h1 : ¬ 32 + w < 8 := by omega
  have h2 : ¬ 32 + w < 16 := by omega
  have h3 : ¬ 32 + w < 24 := by omega
  have h4 : ¬ 32 + w < 32 := by omega
  have h5 : 32 + w < 38 := by omega
  simp only [nuM, if_neg h1, if_neg h2, if_neg h3, if_neg h4, if_pos h5, Nat.add_sub_cancel_left]
theorem mu_e (τ : gx_R) {q : Nat} (h : q < 64) : nuM τ (38 + q) = τ 140 q := by
  have h1 : ¬ 38 + q < 8 := by omega
  have h2 : ¬ 38 + q < 16 := by omega
  have h3 : ¬ 38 + q < 24 := by omega
  have h4 : ¬ 38 + q < 32 := by omega
  have h5 : ¬ 38 + q < 38 := by omega
  have h6 : 38 + q < 102 := by omega
  simp only [nuM, if_neg h1, if_neg h2, if_neg h3, if_neg h4, if_neg h5, if_pos h6, Nat.add_sub_cancel_left]
theorem mu_h (τ : gx_R) : nuM τ 102 = τ 109 42 := rfl
theorem mu_x (τ : gx_R) : nuM τ 103 = τ 109 43 := rfl
/-- the class's night at b and the reference's that is reckoned with, said by cells -/
def NowR (b : Nat) (σ τ : gx_R) (nd : gx_F) (P W H : Nat) : Prop :=
  (∀ p, p < 8 → τ 135 p = σ (b + 1) p ∧ τ 137 p = σ (b + 3) p ∧ τ 138 p = σ (b + 4) p) ∧
  (∀ p, p < P → τ 136 p = σ (b + 2) p) ∧
  (∀ p, P ≤ p → p < 8 → σ (b + 1) p = 0 ∧ σ (b + 2) p = -1 ∧ σ (b + 3) p = 0 ∧ σ (b + 4) p = 0) ∧
  (∀ q, q < 64 → τ 140 q = σ (b + 5) q) ∧
  (∀ w, w < 6 → τ 139 w = σ (b + 6) w) ∧
  (τ 109 42 = σ b 6 ∧ τ 109 43 = σ b 7 ∧ σ b 6 = nI H) ∧
  (∃ x, x < 30211 ∧ σ b 7 = nI x) ∧
  (∀ p, p < P → (σ (b + 1) p = 0 ∧ σ (b + 2) p = -1) ∨ (σ (b + 1) p = 1 ∧ ∃ w, w < W ∧ σ (b + 2) p = nI w) ∨ (σ (b + 1) p = 2 ∧ ∃ q, q < P ∧ σ (b + 2) p = nI q)) ∧
  (∀ p, p < P → ∃ o d, o ≤ H ∧ d ≤ 9 ∧ σ (b + 3) p = nI o ∧ σ (b + 4) p = nI d) ∧
  (∀ p q, p < 8 → q < 8 → ∃ o, o ≤ 99 ∧ σ (b + 5) (8 * p + q) = nI o ∧ (P ≤ p ∨ P ≤ q ∨ p = q → o = 0)) ∧
  (∀ w, w < 6 → ∃ x, σ (b + 6) w = nI x ∧ x ≤ 99 ∧ (W ≤ w → x = 0) ∧ (w < W → nI x ≤ nd w))
theorem NowR_iff {b : Nat} {σ τ : gx_R} {nd : gx_F} {P W H : Nat} (hP : P ≤ 8) : NightR (nuC σ b) (nuM τ) nd P W H ↔ NowR b σ τ nd P W H := by
  constructor
  · rintro ⟨r1, r2, r3, r4, r5, ⟨r6, r7, r8⟩, r9, r10, r11, r12, r13⟩
    refine ⟨fun p hp => ?_, fun p hp => ?_, fun p hp hq => ?_, fun q hq => ?_, fun w hw => ?_, ⟨r6, r7, r8⟩, r9, fun p hp => ?_, fun p hp => ?_, fun p q hp hq => ?_, fun w hw => ?_⟩
    · have := r1 p hp; rwa [mu_d τ hp, mu_o τ hp, mu_r τ hp, nu_d σ b hp, nu_o σ b hp, nu_r σ b hp] at this
    · have := r2 p hp; rwa [mu_w τ (by omega), nu_w σ b (by omega)] at this
    · have := r3 p hp hq; rwa [nu_d σ b hq, nu_w σ b hq, nu_o σ b hq, nu_r σ b hq] at this
    · have := r4 q hq; rwa [mu_e τ hq, nu_e σ b hq] at this
    · have := r5 w hw; rwa [mu_n τ hw, nu_n σ b hw] at this
    · have := r10 p hp; rwa [nu_d σ b (by omega), nu_w σ b (by omega)] at this
    · have := r11 p hp; rwa [nu_o σ b (by omega), nu_r σ b (by omega)] at this
    · have := r12 p q hp hq; rwa [nu_e σ b (by omega)] at this
    · have := r13 w hw; rwa [nu_n σ b hw] at this
  · rintro ⟨r1, r2, r3, r4, r5, ⟨r6, r7, r8⟩, r9, r10, r11, r12, r13⟩
    refine ⟨fun p hp => ?_, fun p hp => ?_, fun p hp hq => ?_, fun q hq => ?_, fun w hw => ?_, ⟨r6, r7, r8⟩, r9, fun p hp => ?_, fun p hp => ?_, fun p q hp hq => ?_, fun w hw => ?_⟩
    · rw [mu_d τ hp, mu_o τ hp, mu_r τ hp, nu_d σ b hp, nu_o σ b hp, nu_r σ b hp]; exact r1 p hp
    · rw [mu_w τ (by omega), nu_w σ b (by omega)]; exact r2 p hp
    · rw [nu_d σ b hq, nu_w σ b hq, nu_o σ b hq, nu_r σ b hq]; exact r3 p hp hq
    · rw [mu_e τ hq, nu_e σ b hq]; exact r4 q hq
    · rw [mu_n τ hw, nu_n σ b hw]; exact r5 w hw
    · rw [nu_d σ b (by omega), nu_w σ b (by omega)]; exact r10 p hp
    · rw [nu_o σ b (by omega), nu_r σ b (by omega)]; exact r11 p hp
    · rw [nu_e σ b (by omega)]; exact r12 p q hp hq
    · rw [nu_n σ b hw]; exact r13 w hw
theorem draw_v {b m x : Nat} {σ : gx_R} (hm : 0 < m) (hm2 : m ≤ 10) (hx : x < 30211) (h : σ b 7 = nI x) : Ni_draw b (nI m) σ = some (nI (x % m), gx_up σ b 7 (nI ((x * 241 + 139) % 30211))) := by
  have c1 : ¬ m = 0 := by omega
  have c2 : z_nzi (nI m) = true := decide_eq_true (nI_ne0 hm (by omega))
  unfold Ni_draw
  simp (disch := omega) only [n_le0, c1, if_false, c2, w_ck, Ni_draw_8, h, pk_rem, z_c0, z_c1, nI_leI, nI_ltI, nI_eq, ix_n, cl_n, nI_add, pk_mul, nI_1, n_lt0, n_0le, n_le0, n_0lt, n_eq0, n_1le, n_le1, n_lt1, n_1lt, n_eq1, n_m1, n_m1a, L_2, L_3, L_4, L_5, L_6, L_7, L_8, L_9, L_10, L_11, L_12, L_14, L_15, L_16, L_17, L_18, L_20, L_21, L_24, L_26, L_30, L_32, L_34, L_35, L_36, L_37, L_38, L_39, L_40, L_41, L_42, L_43, L_44, L_45, L_46, L_47, L_48, L_57, L_59, L_60, L_61, L_62, L_64, L_65, L_68, L_76, L_80, L_84, L_90, L_92, L_96, L_97, L_98, L_99, L_100, L_104, L_122, L_139, L_140, L_162, L_163, L_164, L_200, L_241, L_255, L_256, L_280, L_284, L_300, L_301, L_303, L_309, L_360, L_400, L_401, L_402, L_403, L_404, L_405, L_406, L_407, L_408, L_999, L_1600, L_3120, L_8596, L_8880, L_9999, L_10000, L_30211, L_99999, L_1000000, pk_rem]
theorem drawn_v {m x : Nat} {τ : gx_R} (hm : 0 < m) (hm2 : m ≤ 10) (hx : x < 30211) (h : τ 109 43 = nI x) : Md_drawn (nI m) τ = some (nI (x % m), gx_up τ 109 43 (nI ((x * 241 + 139) % 30211))) := by
  have c2 : z_nzi (nI m) = true := decide_eq_true (nI_ne0 hm (by omega))
  unfold Md_drawn
  simp (disch := omega) only [c2, w_ck, h, pk_rem, z_c0, z_c1, nI_leI, nI_ltI, nI_eq, ix_n, cl_n, nI_add, pk_mul, nI_1, n_lt0, n_0le, n_le0, n_0lt, n_eq0, n_1le, n_le1, n_lt1, n_1lt, n_eq1, n_m1, n_m1a, L_2, L_3, L_4, L_5, L_6, L_7, L_8, L_9, L_10, L_11, L_12, L_14, L_15, L_16, L_17, L_18, L_20, L_21, L_24, L_26, L_30, L_32, L_34, L_35, L_36, L_37, L_38, L_39, L_40, L_41, L_42, L_43, L_44, L_45, L_46, L_47, L_48, L_57, L_59, L_60, L_61, L_62, L_64, L_65, L_68, L_76, L_80, L_84, L_90, L_92, L_96, L_97, L_98, L_99, L_100, L_104, L_122, L_139, L_140, L_162, L_163, L_164, L_200, L_241, L_255, L_256, L_280, L_284, L_300, L_301, L_303, L_309, L_360, L_400, L_401, L_402, L_403, L_404, L_405, L_406, L_407, L_408, L_999, L_1600, L_3120, L_8596, L_8880, L_9999, L_10000, L_30211, L_99999, L_1000000, pk_rem]
def slB (σ : gx_R) (b p q : Nat) : Bool := decide (σ (b + 1) p = 2 ∧ σ (b + 2) p = nI q)
theorem slB_t {σ : gx_R} {b p q : Nat} (h : σ (b + 1) p = 2 ∧ σ (b + 2) p = nI q) : slB σ b p q = true := decide_eq_true h
theorem slB_f {σ : gx_R} {b p q : Nat} (h : ¬ (σ (b + 1) p = 2 ∧ σ (b + 2) p = nI q)) : slB σ b p q = false := decide_eq_false h
theorem sleepsFor_v {b p q : Nat} (hp : p < 8) (σ : gx_R) : Ni_sleepsFor b (nI p) (nI q) σ = some (bI (slB σ b p q), σ) := by
  unfold Ni_sleepsFor slB
  rw [ix_t hp (by omega), w_ck, w_ck, cl_n (by omega)]
  by_cases h1 : σ (b + 1) p = 2
  · by_cases h2 : σ (b + 2) p = nI q
    · rw [if_pos h1, if_pos h2, decide_eq_true ⟨h1, h2⟩]; rfl
    · rw [if_pos h1, if_neg h2, decide_eq_false (fun z => h2 z.2)]; rfl
  · rw [if_neg h1, decide_eq_false (fun z => h1 z.1)]; rfl
theorem makeIdle_L (b : Nat) (bits : Int32) : ∀ m k n σ, k + m = 8 → m < n → ∃ σ', Ni_makeIdle_2 n b bits (nI k) σ = some ((), σ') ∧ (∀ c, c ≠ b + 1 → c ≠ b + 2 → c ≠ b + 3 → σ' c = σ c) ∧ (∀ p, σ' (b + 1) p = if k ≤ p ∧ p < 8 ∧ bt bits p = true then 0 else σ (b + 1) p) ∧ (∀ p, σ' (b + 2) p = if k ≤ p ∧ p < 8 ∧ bt bits p = true then -1 else σ (b + 2) p) ∧ (∀ p, σ' (b + 3) p = if k ≤ p ∧ p < 8 ∧ bt bits p = true then 0 else σ (b + 3) p) := by
  intro m
  induction m with
  | zero =>
    intro k n σ hk hn
    obtain ⟨n, rfl⟩ : ∃ q, n = q + 1 := ⟨n - 1, by omega⟩
    obtain rfl : k = 8 := by omega
    refine ⟨σ, rfl, fun _ _ _ _ => rfl, fun p => ?_, fun p => ?_, fun p => ?_⟩ <;> rw [if_neg (by omega)]
  | succ m ih =>
    intro k n σ hk hn
    obtain ⟨n, rfl⟩ : ∃ q, n = q + 1 := ⟨n - 1, by omega⟩
    have c1 : ¬ 8 ≤ k := by omega
    have c2 : k < 8 := by omega
    cases hb : bt bits k with
    | true =>
      obtain ⟨σ', q1, q2, q3, q4, q5⟩ := ih (k + 1) n (gx_up (gx_up (gx_up σ (b + 1) k 0) (b + 2) k (-1)) (b + 3) k 0) (by omega) (by omega)
      refine ⟨σ', ?_, fun c h1 h2 h3 => ?_, fun p => ?_, fun p => ?_, fun p => ?_⟩
      · simp (disch := omega) only [Ni_makeIdle_2, Ni_makeIdle_2_B, Ni_makeIdle_17, Ni_begin, z_c0, z_c1, nI_leI, nI_ltI, nI_eq, ix_n, cl_n, nI_add, pk_mul, nI_1, n_lt0, n_0le, n_le0, n_0lt, n_eq0, n_1le, n_le1, n_lt1, n_1lt, n_eq1, n_m1, n_m1a, L_2, L_3, L_4, L_5, L_6, L_7, L_8, L_9, L_10, L_11, L_12, L_14, L_15, L_16, L_17, L_18, L_20, L_21, L_24, L_26, L_30, L_32, L_34, L_35, L_36, L_37, L_38, L_39, L_40, L_41, L_42, L_43, L_44, L_45, L_46, L_47, L_48, L_57, L_59, L_60, L_61, L_62, L_64, L_65, L_68, L_76, L_80, L_84, L_90, L_92, L_96, L_97, L_98, L_99, L_100, L_104, L_122, L_139, L_140, L_162, L_163, L_164, L_200, L_241, L_255, L_256, L_280, L_284, L_300, L_301, L_303, L_309, L_360, L_400, L_401, L_402, L_403, L_404, L_405, L_406, L_407, L_408, L_999, L_1600, L_3120, L_8596, L_8880, L_9999, L_10000, L_30211, L_99999, L_1000000, c1, c2, h_1, hb, w_bd, w_ck, bI_0, bI_1, bI_bo, bo_0, bo_1, decide_true, decide_false, if_true, if_false, ite_true, ite_false, not_true_eq_false, not_false_eq_true, Bool.true_eq_false, Bool.false_eq_true]
        exact q1
      · rw [q2 c h1 h2 h3, gx_up_ne h3, gx_up_ne h2, gx_up_ne h1]
      · rw [q3 p]; grind [gx_up]
      · rw [q4 p]; grind [gx_up]
      · rw [q5 p]; grind [gx_up]
    | false =>
      obtain ⟨σ', q1, q2, q3, q4, q5⟩ := ih (k + 1) n σ (by omega) (by omega)
      refine ⟨σ', ?_, q2, fun p => ?_, fun p => ?_, fun p => ?_⟩
      · simp (disch := omega) only [Ni_makeIdle_2, Ni_makeIdle_2_B, Ni_makeIdle_17, z_c0, z_c1, nI_leI, nI_ltI, nI_eq, ix_n, cl_n, nI_add, pk_mul, nI_1, n_lt0, n_0le, n_le0, n_0lt, n_eq0, n_1le, n_le1, n_lt1, n_1lt, n_eq1, n_m1, n_m1a, L_2, L_3, L_4, L_5, L_6, L_7, L_8, L_9, L_10, L_11, L_12, L_14, L_15, L_16, L_17, L_18, L_20, L_21, L_24, L_26, L_30, L_32, L_34, L_35, L_36, L_37, L_38, L_39, L_40, L_41, L_42, L_43, L_44, L_45, L_46, L_47, L_48, L_57, L_59, L_60, L_61, L_62, L_64, L_65, L_68, L_76, L_80, L_84, L_90, L_92, L_96, L_97, L_98, L_99, L_100, L_104, L_122, L_139, L_140, L_162, L_163, L_164, L_200, L_241, L_255, L_256, L_280, L_284, L_300, L_301, L_303, L_309, L_360, L_400, L_401, L_402, L_403, L_404, L_405, L_406, L_407, L_408, L_999, L_1600, L_3120, L_8596, L_8880, L_9999, L_10000, L_30211, L_99999, L_1000000, c1, c2, h_1, hb, w_bd, w_ck, bI_0, bI_1, bI_bo, bo_0, bo_1, decide_true, decide_false, if_true, if_false, ite_true, ite_false, not_true_eq_false, not_false_eq_true, Bool.true_eq_false, Bool.false_eq_true]
        exact q1
      · rw [q3 p]; grind
      · rw [q4 p]; grind
      · rw [q5 p]; grind
theorem idles_L {P : Nat} (hP : P ≤ 8) (bits : Int32) : ∀ m k n τ, τ 110 0 = nI P → k + m = P → m < n → ∃ τ', Md_idles_2 n bits (nI k) τ = some ((), τ') ∧ (∀ c, c ≠ 135 → c ≠ 136 → c ≠ 137 → τ' c = τ c) ∧ (∀ p, τ' 135 p = if k ≤ p ∧ p < P ∧ bt bits p = true then 0 else τ 135 p) ∧ (∀ p, τ' 136 p = if k ≤ p ∧ p < P ∧ bt bits p = true then -1 else τ 136 p) ∧ (∀ p, τ' 137 p = if k ≤ p ∧ p < P ∧ bt bits p = true then 0 else τ 137 p) := by
  intro m
  induction m with
  | zero =>
    intro k n τ h0 hk hn
    obtain ⟨n, rfl⟩ : ∃ q, n = q + 1 := ⟨n - 1, by omega⟩
    obtain rfl : k = P := by omega
    refine ⟨τ, ?_, fun _ _ _ _ => rfl, fun p => ?_, fun p => ?_, fun p => ?_⟩
    · simp (disch := omega) only [Md_idles_2, Md_idles_2_B, z_c0, z_c1, nI_leI, nI_ltI, nI_eq, ix_n, cl_n, nI_add, pk_mul, nI_1, n_lt0, n_0le, n_le0, n_0lt, n_eq0, n_1le, n_le1, n_lt1, n_1lt, n_eq1, n_m1, n_m1a, L_2, L_3, L_4, L_5, L_6, L_7, L_8, L_9, L_10, L_11, L_12, L_14, L_15, L_16, L_17, L_18, L_20, L_21, L_24, L_26, L_30, L_32, L_34, L_35, L_36, L_37, L_38, L_39, L_40, L_41, L_42, L_43, L_44, L_45, L_46, L_47, L_48, L_57, L_59, L_60, L_61, L_62, L_64, L_65, L_68, L_76, L_80, L_84, L_90, L_92, L_96, L_97, L_98, L_99, L_100, L_104, L_122, L_139, L_140, L_162, L_163, L_164, L_200, L_241, L_255, L_256, L_280, L_284, L_300, L_301, L_303, L_309, L_360, L_400, L_401, L_402, L_403, L_404, L_405, L_406, L_407, L_408, L_999, L_1600, L_3120, L_8596, L_8880, L_9999, L_10000, L_30211, L_99999, L_1000000, h0, Nat.le_refl, w_bd, w_ck, bI_0, bI_1, bI_bo, bo_0, bo_1, decide_true, decide_false, if_true, if_false, ite_true, ite_false, not_true_eq_false, not_false_eq_true, Bool.true_eq_false, Bool.false_eq_true]
    all_goals rw [if_neg (by omega)]
  | succ m ih =>
    intro k n τ h0 hk hn
    obtain ⟨n, rfl⟩ : ∃ q, n = q + 1 := ⟨n - 1, by omega⟩
    have c1 : ¬ P ≤ k := by omega
    have c2 : k < 8 := by omega
    cases hb : bt bits k with
    | true =>
      obtain ⟨τ', q1, q2, q3, q4, q5⟩ := ih (k + 1) n (gx_up (gx_up (gx_up τ 135 k 0) 136 k (-1)) 137 k 0) h0 (by omega) (by omega)
      refine ⟨τ', ?_, fun c h1 h2 h3 => ?_, fun p => ?_, fun p => ?_, fun p => ?_⟩
      · simp (disch := omega) only [Md_idles_2, Md_idles_2_B, Md_idles_27, Md_has_v, h0, z_c0, z_c1, nI_leI, nI_ltI, nI_eq, ix_n, cl_n, nI_add, pk_mul, nI_1, n_lt0, n_0le, n_le0, n_0lt, n_eq0, n_1le, n_le1, n_lt1, n_1lt, n_eq1, n_m1, n_m1a, L_2, L_3, L_4, L_5, L_6, L_7, L_8, L_9, L_10, L_11, L_12, L_14, L_15, L_16, L_17, L_18, L_20, L_21, L_24, L_26, L_30, L_32, L_34, L_35, L_36, L_37, L_38, L_39, L_40, L_41, L_42, L_43, L_44, L_45, L_46, L_47, L_48, L_57, L_59, L_60, L_61, L_62, L_64, L_65, L_68, L_76, L_80, L_84, L_90, L_92, L_96, L_97, L_98, L_99, L_100, L_104, L_122, L_139, L_140, L_162, L_163, L_164, L_200, L_241, L_255, L_256, L_280, L_284, L_300, L_301, L_303, L_309, L_360, L_400, L_401, L_402, L_403, L_404, L_405, L_406, L_407, L_408, L_999, L_1600, L_3120, L_8596, L_8880, L_9999, L_10000, L_30211, L_99999, L_1000000, c1, c2, hb, bI_t, show ¬ ((1 : Int32) = 0) by decide, w_bd, w_ck, bI_0, bI_1, bI_bo, bo_0, bo_1, decide_true, decide_false, if_true, if_false, ite_true, ite_false, not_true_eq_false, not_false_eq_true, Bool.true_eq_false, Bool.false_eq_true]
        exact q1
      · rw [q2 c h1 h2 h3, gx_up_ne h3, gx_up_ne h2, gx_up_ne h1]
      · rw [q3 p]; grind [gx_up]
      · rw [q4 p]; grind [gx_up]
      · rw [q5 p]; grind [gx_up]
    | false =>
      obtain ⟨τ', q1, q2, q3, q4, q5⟩ := ih (k + 1) n τ h0 (by omega) (by omega)
      refine ⟨τ', ?_, q2, fun p => ?_, fun p => ?_, fun p => ?_⟩
      · simp (disch := omega) only [Md_idles_2, Md_idles_2_B, Md_idles_27, Md_has_v, h0, z_c0, z_c1, nI_leI, nI_ltI, nI_eq, ix_n, cl_n, nI_add, pk_mul, nI_1, n_lt0, n_0le, n_le0, n_0lt, n_eq0, n_1le, n_le1, n_lt1, n_1lt, n_eq1, n_m1, n_m1a, L_2, L_3, L_4, L_5, L_6, L_7, L_8, L_9, L_10, L_11, L_12, L_14, L_15, L_16, L_17, L_18, L_20, L_21, L_24, L_26, L_30, L_32, L_34, L_35, L_36, L_37, L_38, L_39, L_40, L_41, L_42, L_43, L_44, L_45, L_46, L_47, L_48, L_57, L_59, L_60, L_61, L_62, L_64, L_65, L_68, L_76, L_80, L_84, L_90, L_92, L_96, L_97, L_98, L_99, L_100, L_104, L_122, L_139, L_140, L_162, L_163, L_164, L_200, L_241, L_255, L_256, L_280, L_284, L_300, L_301, L_303, L_309, L_360, L_400, L_401, L_402, L_403, L_404, L_405, L_406, L_407, L_408, L_999, L_1600, L_3120, L_8596, L_8880, L_9999, L_10000, L_30211, L_99999, L_1000000, c1, c2, hb, bI_f, w_bd, w_ck, bI_0, bI_1, bI_bo, bo_0, bo_1, decide_true, decide_false, if_true, if_false, ite_true, ite_false, not_true_eq_false, not_false_eq_true, Bool.true_eq_false, Bool.false_eq_true]
        exact q1
      · rw [q3 p]; grind
      · rw [q4 p]; grind
      · rw [q5 p]; grind
theorem allThat_L {P : Nat} (hP : P ≤ 8) (a : Int32) {τ : gx_R} (h0 : τ 110 0 = nI P) : ∀ m k n, k + m = P → m < n → Md_allThat_4 n a (mk (fun p => decide (τ 135 p = a)) k) (nI k) τ = some (mk (fun p => decide (τ 135 p = a)) P, τ) := by
  intro m
  induction m with
  | zero =>
    intro k n hk hn
    obtain ⟨n, rfl⟩ : ∃ q, n = q + 1 := ⟨n - 1, by omega⟩
    obtain rfl : k = P := by omega
    simp (disch := omega) only [Md_allThat_4, Md_allThat_4_B, z_c0, z_c1, nI_leI, nI_ltI, nI_eq, ix_n, cl_n, nI_add, pk_mul, nI_1, n_lt0, n_0le, n_le0, n_0lt, n_eq0, n_1le, n_le1, n_lt1, n_1lt, n_eq1, n_m1, n_m1a, L_2, L_3, L_4, L_5, L_6, L_7, L_8, L_9, L_10, L_11, L_12, L_14, L_15, L_16, L_17, L_18, L_20, L_21, L_24, L_26, L_30, L_32, L_34, L_35, L_36, L_37, L_38, L_39, L_40, L_41, L_42, L_43, L_44, L_45, L_46, L_47, L_48, L_57, L_59, L_60, L_61, L_62, L_64, L_65, L_68, L_76, L_80, L_84, L_90, L_92, L_96, L_97, L_98, L_99, L_100, L_104, L_122, L_139, L_140, L_162, L_163, L_164, L_200, L_241, L_255, L_256, L_280, L_284, L_300, L_301, L_303, L_309, L_360, L_400, L_401, L_402, L_403, L_404, L_405, L_406, L_407, L_408, L_999, L_1600, L_3120, L_8596, L_8880, L_9999, L_10000, L_30211, L_99999, L_1000000, h0, Nat.le_refl, w_bd, w_ck, bI_0, bI_1, bI_bo, bo_0, bo_1, decide_true, decide_false, if_true, if_false, ite_true, ite_false, not_true_eq_false, not_false_eq_true, Bool.true_eq_false, Bool.false_eq_true]
  | succ m ih =>
    intro k n hk hn
    obtain ⟨n, rfl⟩ : ∃ q, n = q + 1 := ⟨n - 1, by omega⟩
    have ih := ih (k + 1) n (by omega) (by omega)
    have c1 : ¬ P ≤ k := by omega
    have c2 : k < 8 := by omega
    simp (disch := omega) only [Md_allThat_4, Md_allThat_4_B, Md_allThat_22, z_c0, z_c1, nI_leI, nI_ltI, nI_eq, ix_n, cl_n, nI_add, pk_mul, nI_1, n_lt0, n_0le, n_le0, n_0lt, n_eq0, n_1le, n_le1, n_lt1, n_1lt, n_eq1, n_m1, n_m1a, L_2, L_3, L_4, L_5, L_6, L_7, L_8, L_9, L_10, L_11, L_12, L_14, L_15, L_16, L_17, L_18, L_20, L_21, L_24, L_26, L_30, L_32, L_34, L_35, L_36, L_37, L_38, L_39, L_40, L_41, L_42, L_43, L_44, L_45, L_46, L_47, L_48, L_57, L_59, L_60, L_61, L_62, L_64, L_65, L_68, L_76, L_80, L_84, L_90, L_92, L_96, L_97, L_98, L_99, L_100, L_104, L_122, L_139, L_140, L_162, L_163, L_164, L_200, L_241, L_255, L_256, L_280, L_284, L_300, L_301, L_303, L_309, L_360, L_400, L_401, L_402, L_403, L_404, L_405, L_406, L_407, L_408, L_999, L_1600, L_3120, L_8596, L_8880, L_9999, L_10000, L_30211, L_99999, L_1000000, h0, c1, c2, w_bd, w_ck, bI_0, bI_1, bI_bo, bo_0, bo_1, decide_true, decide_false, if_true, if_false, ite_true, ite_false, not_true_eq_false, not_false_eq_true, Bool.true_eq_false, Bool.false_eq_true]
    by_cases h : τ 135 k = a
    · rw [mk_t (decide_eq_true h)] at ih
      rw [if_pos h]
      exact ih
    · rw [mk_f (decide_eq_false h)] at ih
      rw [if_neg h, mk_or0]
      exact ih
theorem allThat_v {P : Nat} (hP : P ≤ 8) (a : Int32) {τ : gx_R} (h0 : τ 110 0 = nI P) : Md_allThat a τ = some (mk (fun p => decide (τ 135 p = a)) P, τ) := allThat_L hP a h0 P 0 z_FU (by omega) (Nat.lt_of_le_of_lt hP (Nat.lt_of_lt_of_le (by decide) z_FU_ge))
/-- fuel -/
theorem fuel_L {b : Nat} (hb : b = 9 ∨ b = 56) {P W T H w : Nat} (hw : w < P) (hH : H ≤ 2000) : ∀ m k n n' f σ τ, k + m = P → 8 - k < n → m < n' → f ≤ 99 * k → EnvR σ τ P W T → NowR b σ τ (σ 7) P W H → ∃ v σ' τ', v ≤ 99 * P ∧ La_fuelNow_4 n b (nI w) (nI f) (nI k) σ = some (nI v, σ') ∧ Md_fuelOf_4 n' (nI w) 0 1 (nI f) (nI k) τ = some (nI v, τ') ∧ lC σ σ' ∧ lM τ τ' := by
  intro m
  induction m with
  | zero =>
    intro k n n' f σ τ hk hn hn' hf hE hN
    obtain ⟨n', rfl⟩ : ∃ q, n' = q + 1 := ⟨n' - 1, by omega⟩
    have hP := hE.1.1.1
    have h0 := hE.1.2.1.2.1
    obtain rfl : k = P := by omega
    refine ⟨f, σ, τ, hf, ?_, ?_, lC_rf σ, lM_rf τ⟩
    · have : ∀ m j n, j + m = 8 → k ≤ j → m < n → La_fuelNow_4 n b (nI w) (nI f) (nI j) σ = some (nI f, σ) := by
        intro m
        induction m with
        | zero =>
          intro j n hj hkj hn
          obtain ⟨n, rfl⟩ : ∃ q, n = q + 1 := ⟨n - 1, by omega⟩
          obtain rfl : j = 8 := by omega
          simp (disch := omega) only [La_fuelNow_4, La_fuelNow_4_B, z_c0, z_c1, nI_leI, nI_ltI, nI_eq, ix_n, cl_n, nI_add, pk_mul, nI_1, n_lt0, n_0le, n_le0, n_0lt, n_eq0, n_1le, n_le1, n_lt1, n_1lt, n_eq1, n_m1, n_m1a, L_2, L_3, L_4, L_5, L_6, L_7, L_8, L_9, L_10, L_11, L_12, L_14, L_15, L_16, L_17, L_18, L_20, L_21, L_24, L_26, L_30, L_32, L_34, L_35, L_36, L_37, L_38, L_39, L_40, L_41, L_42, L_43, L_44, L_45, L_46, L_47, L_48, L_57, L_59, L_60, L_61, L_62, L_64, L_65, L_68, L_76, L_80, L_84, L_90, L_92, L_96, L_97, L_98, L_99, L_100, L_104, L_122, L_139, L_140, L_162, L_163, L_164, L_200, L_241, L_255, L_256, L_280, L_284, L_300, L_301, L_303, L_309, L_360, L_400, L_401, L_402, L_403, L_404, L_405, L_406, L_407, L_408, L_999, L_1600, L_3120, L_8596, L_8880, L_9999, L_10000, L_30211, L_99999, L_1000000, Nat.le_refl, w_bd, w_ck, bI_0, bI_1, bI_bo, bo_0, bo_1, decide_true, decide_false, if_true, if_false, ite_true, ite_false, not_true_eq_false, not_false_eq_true, Bool.true_eq_false, Bool.false_eq_true]
        | succ m ih2 =>
          intro j n hj hkj hn
          obtain ⟨n, rfl⟩ : ∃ q, n = q + 1 := ⟨n - 1, by omega⟩
          have c1 : ¬ 8 ≤ j := by omega
          have c3 := (hN.2.2.1 j hkj (by omega)).1
          simp (disch := omega) only [La_fuelNow_4, La_fuelNow_4_B, La_fuelNow_29, sleepsFor_v, slB_f (show ¬ (σ (b + 1) j = 2 ∧ σ (b + 2) j = nI w) from fun z => by rw [c3] at z; exact absurd z.1 (by decide)), bI_f, z_c0, z_c1, nI_leI, nI_ltI, nI_eq, ix_n, cl_n, nI_add, pk_mul, nI_1, n_lt0, n_0le, n_le0, n_0lt, n_eq0, n_1le, n_le1, n_lt1, n_1lt, n_eq1, n_m1, n_m1a, L_2, L_3, L_4, L_5, L_6, L_7, L_8, L_9, L_10, L_11, L_12, L_14, L_15, L_16, L_17, L_18, L_20, L_21, L_24, L_26, L_30, L_32, L_34, L_35, L_36, L_37, L_38, L_39, L_40, L_41, L_42, L_43, L_44, L_45, L_46, L_47, L_48, L_57, L_59, L_60, L_61, L_62, L_64, L_65, L_68, L_76, L_80, L_84, L_90, L_92, L_96, L_97, L_98, L_99, L_100, L_104, L_122, L_139, L_140, L_162, L_163, L_164, L_200, L_241, L_255, L_256, L_280, L_284, L_300, L_301, L_303, L_309, L_360, L_400, L_401, L_402, L_403, L_404, L_405, L_406, L_407, L_408, L_999, L_1600, L_3120, L_8596, L_8880, L_9999, L_10000, L_30211, L_99999, L_1000000, c1, w_bd, w_ck, bI_0, bI_1, bI_bo, bo_0, bo_1, decide_true, decide_false, if_true, if_false, ite_true, ite_false, not_true_eq_false, not_false_eq_true, Bool.true_eq_false, Bool.false_eq_true]
          exact ih2 (j + 1) n (by omega) (by omega) (by omega)
      exact this (8 - k) k n (by omega) (by omega) hn
    · simp (disch := omega) only [Md_fuelOf_4, Md_fuelOf_4_B, z_c0, z_c1, nI_leI, nI_ltI, nI_eq, ix_n, cl_n, nI_add, pk_mul, nI_1, n_lt0, n_0le, n_le0, n_0lt, n_eq0, n_1le, n_le1, n_lt1, n_1lt, n_eq1, n_m1, n_m1a, L_2, L_3, L_4, L_5, L_6, L_7, L_8, L_9, L_10, L_11, L_12, L_14, L_15, L_16, L_17, L_18, L_20, L_21, L_24, L_26, L_30, L_32, L_34, L_35, L_36, L_37, L_38, L_39, L_40, L_41, L_42, L_43, L_44, L_45, L_46, L_47, L_48, L_57, L_59, L_60, L_61, L_62, L_64, L_65, L_68, L_76, L_80, L_84, L_90, L_92, L_96, L_97, L_98, L_99, L_100, L_104, L_122, L_139, L_140, L_162, L_163, L_164, L_200, L_241, L_255, L_256, L_280, L_284, L_300, L_301, L_303, L_309, L_360, L_400, L_401, L_402, L_403, L_404, L_405, L_406, L_407, L_408, L_999, L_1600, L_3120, L_8596, L_8880, L_9999, L_10000, L_30211, L_99999, L_1000000, h0, Nat.le_refl, w_bd, w_ck, bI_0, bI_1, bI_bo, bo_0, bo_1, decide_true, decide_false, if_true, if_false, ite_true, ite_false, not_true_eq_false, not_false_eq_true, Bool.true_eq_false, Bool.false_eq_true]
  | succ m ih =>
    intro k n n' f σ τ hk hn hn' hf hE hN
    obtain ⟨n, rfl⟩ : ∃ q, n = q + 1 := ⟨n - 1, by omega⟩
    obtain ⟨n', rfl⟩ : ∃ q, n' = q + 1 := ⟨n' - 1, by omega⟩
    have hP := hE.1.1.1
    have h0 := hE.1.2.1.2.1
    have c1 : ¬ 8 ≤ k := by omega
    have c2 : ¬ P ≤ k := by omega
    have c3 : k < 8 := by omega
    obtain ⟨e1, e2, e3⟩ := hN.1 k c3
    have e4 := hN.2.1 k (by omega)
    by_cases hs : σ (b + 1) k = 2 ∧ σ (b + 2) k = nI w
    · obtain ⟨o, d, ho, hd, g1, g2⟩ := hN.2.2.2.2.2.2.2.2.1 k (by omega)
      obtain ⟨i1, i2, i3⟩ := hN.2.2.2.2.2.1
      obtain ⟨v, σ1, τ1, hv, q1, q2, q3, q4⟩ := worth_v hE (s := k) (wh := w) (o := o) (d := d) (H := H) (by omega) (by omega) (by omega) (by omega) (by omega) (i1.trans i3)
      have hE1 := EnvR_fr (lC_e q3) (lM_e q4) hE
      have hN1 : NowR b σ1 τ1 (σ1 7) P W H := by
        unfold NowR at hN ⊢
        rw [q3 7 (by omega) (by omega), q3 b (by omega) (by omega), q3 (b + 1) (by omega) (by omega), q3 (b + 2) (by omega) (by omega), q3 (b + 3) (by omega) (by omega), q3 (b + 4) (by omega) (by omega), q3 (b + 5) (by omega) (by omega), q3 (b + 6) (by omega) (by omega), q4 135 (by omega) (by omega), q4 136 (by omega) (by omega), q4 137 (by omega) (by omega), q4 138 (by omega) (by omega), q4 139 (by omega) (by omega), q4 140 (by omega) (by omega), q4 109 (by omega) (by omega)]
        exact hN
      obtain ⟨v2, σ', τ', z1, z2, z3, z4, z5⟩ := ih (k + 1) n n' (f + v) σ1 τ1 (by omega) (by omega) (by omega) (by omega) hE1 hN1
      refine ⟨v2, σ', τ', z1, ?_, ?_, lC_tr q3 z4, lM_tr q4 z5⟩
      · simp (disch := omega) only [La_fuelNow_4, La_fuelNow_4_B, La_fuelNow_29, sleepsFor_v, slB_t hs, bI_t, show ¬ ((1 : Int32) = 0) by decide, g1, g2, i3, q1, z_c0, z_c1, nI_leI, nI_ltI, nI_eq, ix_n, cl_n, nI_add, pk_mul, nI_1, n_lt0, n_0le, n_le0, n_0lt, n_eq0, n_1le, n_le1, n_lt1, n_1lt, n_eq1, n_m1, n_m1a, L_2, L_3, L_4, L_5, L_6, L_7, L_8, L_9, L_10, L_11, L_12, L_14, L_15, L_16, L_17, L_18, L_20, L_21, L_24, L_26, L_30, L_32, L_34, L_35, L_36, L_37, L_38, L_39, L_40, L_41, L_42, L_43, L_44, L_45, L_46, L_47, L_48, L_57, L_59, L_60, L_61, L_62, L_64, L_65, L_68, L_76, L_80, L_84, L_90, L_92, L_96, L_97, L_98, L_99, L_100, L_104, L_122, L_139, L_140, L_162, L_163, L_164, L_200, L_241, L_255, L_256, L_280, L_284, L_300, L_301, L_303, L_309, L_360, L_400, L_401, L_402, L_403, L_404, L_405, L_406, L_407, L_408, L_999, L_1600, L_3120, L_8596, L_8880, L_9999, L_10000, L_30211, L_99999, L_1000000, c1, c3, w_bd, w_ck, bI_0, bI_1, bI_bo, bo_0, bo_1, decide_true, decide_false, if_true, if_false, ite_true, ite_false, not_true_eq_false, not_false_eq_true, Bool.true_eq_false, Bool.false_eq_true]
        exact z2
      · have e1' : τ 135 k = 2 := e1.trans hs.1
        have e4' : τ 136 k = nI w := e4.trans hs.2
        simp +decide (disch := omega) only [Md_fuelOf_4, Md_fuelOf_4_B, Md_fuelOf_41, Md_fuelOf_45, Md_has_v, b_0, bI_f, e1', e4', e2, e3, g1, g2, h0, q2, z_c0, cl_n, ix_n, nI_leI, nI_add, nI_1, c2, c3, w_bd, w_ck, bI_0, bI_1, bI_bo, bo_0, bo_1, decide_true, decide_false, if_true, if_false, ite_true, ite_false, not_true_eq_false, not_false_eq_true, Bool.true_eq_false, Bool.false_eq_true]
        exact z3
    · obtain ⟨v2, σ', τ', z1, z2, z3, z4, z5⟩ := ih (k + 1) n n' f σ τ (by omega) (by omega) (by omega) (by omega) hE hN
      refine ⟨v2, σ', τ', z1, ?_, ?_, z4, z5⟩
      · simp (disch := omega) only [La_fuelNow_4, La_fuelNow_4_B, La_fuelNow_29, sleepsFor_v, slB_f hs, bI_f, z_c0, z_c1, nI_leI, nI_ltI, nI_eq, ix_n, cl_n, nI_add, pk_mul, nI_1, n_lt0, n_0le, n_le0, n_0lt, n_eq0, n_1le, n_le1, n_lt1, n_1lt, n_eq1, n_m1, n_m1a, L_2, L_3, L_4, L_5, L_6, L_7, L_8, L_9, L_10, L_11, L_12, L_14, L_15, L_16, L_17, L_18, L_20, L_21, L_24, L_26, L_30, L_32, L_34, L_35, L_36, L_37, L_38, L_39, L_40, L_41, L_42, L_43, L_44, L_45, L_46, L_47, L_48, L_57, L_59, L_60, L_61, L_62, L_64, L_65, L_68, L_76, L_80, L_84, L_90, L_92, L_96, L_97, L_98, L_99, L_100, L_104, L_122, L_139, L_140, L_162, L_163, L_164, L_200, L_241, L_255, L_256, L_280, L_284, L_300, L_301, L_303, L_309, L_360, L_400, L_401, L_402, L_403, L_404, L_405, L_406, L_407, L_408, L_999, L_1600, L_3120, L_8596, L_8880, L_9999, L_10000, L_30211, L_99999, L_1000000, c1, c3, w_bd, w_ck, bI_0, bI_1, bI_bo, bo_0, bo_1, decide_true, decide_false, if_true, if_false, ite_true, ite_false, not_true_eq_false, not_false_eq_true, Bool.true_eq_false, Bool.false_eq_true]
        exact z2
      · rw [← e1, ← e4] at hs
        simp (disch := omega) only [Md_fuelOf_4, Md_fuelOf_4_B, Md_fuelOf_45, h0, cl_n, ix_n, nI_leI, nI_1, z_c0, c2, c3, w_bd, w_ck, bI_0, bI_1, bI_bo, bo_0, bo_1, decide_true, decide_false, if_true, if_false, ite_true, ite_false, not_true_eq_false, not_false_eq_true, Bool.true_eq_false, Bool.false_eq_true]
        by_cases t1 : τ 135 k = 2
        · rw [if_pos t1, if_neg (fun t2 => hs ⟨t1, t2⟩)]; exact z3
        · rw [if_neg t1]; exact z3
