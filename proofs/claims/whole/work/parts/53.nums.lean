/-! ===== written numbers ===== -/
theorem L_2 : (2 : Int32) = nI 2 := rfl
theorem L_3 : (3 : Int32) = nI 3 := rfl
theorem L_4 : (4 : Int32) = nI 4 := rfl
theorem L_5 : (5 : Int32) = nI 5 := rfl
theorem L_6 : (6 : Int32) = nI 6 := rfl
theorem L_7 : (7 : Int32) = nI 7 := rfl
theorem L_8 : (8 : Int32) = nI 8 := rfl
theorem L_9 : (9 : Int32) = nI 9 := rfl
theorem L_10 : (10 : Int32) = nI 10 := rfl
theorem L_11 : (11 : Int32) = nI 11 := rfl
theorem L_12 : (12 : Int32) = nI 12 := rfl
theorem L_14 : (14 : Int32) = nI 14 := rfl
theorem L_15 : (15 : Int32) = nI 15 := rfl
theorem L_16 : (16 : Int32) = nI 16 := rfl
theorem L_17 : (17 : Int32) = nI 17 := rfl
theorem L_18 : (18 : Int32) = nI 18 := rfl
theorem L_20 : (20 : Int32) = nI 20 := rfl
theorem L_21 : (21 : Int32) = nI 21 := rfl
theorem L_24 : (24 : Int32) = nI 24 := rfl
theorem L_26 : (26 : Int32) = nI 26 := rfl
theorem L_30 : (30 : Int32) = nI 30 := rfl
theorem L_32 : (32 : Int32) = nI 32 := rfl
theorem L_34 : (34 : Int32) = nI 34 := rfl
theorem L_35 : (35 : Int32) = nI 35 := rfl
theorem L_36 : (36 : Int32) = nI 36 := rfl
theorem L_37 : (37 : Int32) = nI 37 := rfl
theorem L_38 : (38 : Int32) = nI 38 := rfl
theorem L_39 : (39 : Int32) = nI 39 := rfl
theorem L_40 : (40 : Int32) = nI 40 := rfl
theorem L_41 : (41 : Int32) = nI 41 := rfl
theorem L_42 : (42 : Int32) = nI 42 := rfl
theorem L_43 : (43 : Int32) = nI 43 := rfl
theorem L_44 : (44 : Int32) = nI 44 := rfl
theorem L_45 : (45 : Int32) = nI 45 := rfl
theorem L_46 : (46 : Int32) = nI 46 := rfl
theorem L_47 : (47 : Int32) = nI 47 := rfl
theorem L_48 : (48 : Int32) = nI 48 := rfl
theorem L_57 : (57 : Int32) = nI 57 := rfl
theorem L_59 : (59 : Int32) = nI 59 := rfl
theorem L_60 : (60 : Int32) = nI 60 := rfl
theorem L_61 : (61 : Int32) = nI 61 := rfl
theorem L_62 : (62 : Int32) = nI 62 := rfl
theorem L_64 : (64 : Int32) = nI 64 := rfl
theorem L_65 : (65 : Int32) = nI 65 := rfl
theorem L_68 : (68 : Int32) = nI 68 := rfl
theorem L_76 : (76 : Int32) = nI 76 := rfl
theorem L_80 : (80 : Int32) = nI 80 := rfl
theorem L_84 : (84 : Int32) = nI 84 := rfl
theorem L_90 : (90 : Int32) = nI 90 := rfl
theorem L_92 : (92 : Int32) = nI 92 := rfl
theorem L_96 : (96 : Int32) = nI 96 := rfl
theorem L_97 : (97 : Int32) = nI 97 := rfl
theorem L_98 : (98 : Int32) = nI 98 := rfl
theorem L_99 : (99 : Int32) = nI 99 := rfl
theorem L_100 : (100 : Int32) = nI 100 := rfl
theorem L_104 : (104 : Int32) = nI 104 := rfl
theorem L_122 : (122 : Int32) = nI 122 := rfl
theorem L_139 : (139 : Int32) = nI 139 := rfl
theorem L_140 : (140 : Int32) = nI 140 := rfl
theorem L_162 : (162 : Int32) = nI 162 := rfl
theorem L_163 : (163 : Int32) = nI 163 := rfl
theorem L_164 : (164 : Int32) = nI 164 := rfl
theorem L_200 : (200 : Int32) = nI 200 := rfl
theorem L_241 : (241 : Int32) = nI 241 := rfl
theorem L_255 : (255 : Int32) = nI 255 := rfl
theorem L_256 : (256 : Int32) = nI 256 := rfl
theorem L_280 : (280 : Int32) = nI 280 := rfl
theorem L_284 : (284 : Int32) = nI 284 := rfl
theorem L_300 : (300 : Int32) = nI 300 := rfl
theorem L_301 : (301 : Int32) = nI 301 := rfl
theorem L_303 : (303 : Int32) = nI 303 := rfl
theorem L_309 : (309 : Int32) = nI 309 := rfl
theorem L_360 : (360 : Int32) = nI 360 := rfl
theorem L_400 : (400 : Int32) = nI 400 := rfl
theorem L_401 : (401 : Int32) = nI 401 := rfl
theorem L_402 : (402 : Int32) = nI 402 := rfl
theorem L_403 : (403 : Int32) = nI 403 := rfl
theorem L_404 : (404 : Int32) = nI 404 := rfl
theorem L_405 : (405 : Int32) = nI 405 := rfl
theorem L_406 : (406 : Int32) = nI 406 := rfl
theorem L_407 : (407 : Int32) = nI 407 := rfl
theorem L_408 : (408 : Int32) = nI 408 := rfl
theorem L_999 : (999 : Int32) = nI 999 := rfl
theorem L_1600 : (1600 : Int32) = nI 1600 := rfl
theorem L_3120 : (3120 : Int32) = nI 3120 := rfl
theorem L_8596 : (8596 : Int32) = nI 8596 := rfl
theorem L_8880 : (8880 : Int32) = nI 8880 := rfl
theorem L_9999 : (9999 : Int32) = nI 9999 := rfl
theorem L_10000 : (10000 : Int32) = nI 10000 := rfl
theorem L_30211 : (30211 : Int32) = nI 30211 := rfl
theorem L_99999 : (99999 : Int32) = nI 99999 := rfl
theorem L_1000000 : (1000000 : Int32) = nI 1000000 := rfl
theorem z_c0 : (0 : Int32).toNatClampNeg = 0 := rfl
theorem z_c1 : (1 : Int32).toNatClampNeg = 1 := rfl
theorem n_lt0 {k : Nat} (h : k < 2 ^ 31) : nI k < 0 ↔ False := ⟨fun q => nI_pos h q, False.elim⟩
theorem n_0le {k : Nat} (h : k < 2 ^ 31) : 0 ≤ nI k ↔ True := ⟨fun _ => trivial, fun _ => nI_pos' h⟩
theorem n_le0 {k : Nat} (h : k < 2 ^ 31) : nI k ≤ 0 ↔ k = 0 := by
  have := nI_leI h (show 0 < 2 ^ 31 by omega)
  rw [nI_0] at this
  rw [this]; omega
theorem n_0lt {k : Nat} (h : k < 2 ^ 31) : 0 < nI k ↔ 0 < k := by
  have := nI_ltI (show 0 < 2 ^ 31 by omega) h
  rwa [nI_0] at this
theorem n_eq0 {k : Nat} (h : k < 2 ^ 31) : nI k = 0 ↔ k = 0 := by
  have := nI_eq h (show 0 < 2 ^ 31 by omega)
  rwa [nI_0] at this
theorem n_1le {k : Nat} (h : k < 2 ^ 31) : 1 ≤ nI k ↔ 1 ≤ k := nI_leI (show 1 < 2 ^ 31 by omega) h
theorem n_le1 {k : Nat} (h : k < 2 ^ 31) : nI k ≤ 1 ↔ k ≤ 1 := nI_leI h (show 1 < 2 ^ 31 by omega)
theorem n_lt1 {k : Nat} (h : k < 2 ^ 31) : nI k < 1 ↔ k < 1 := nI_ltI h (show 1 < 2 ^ 31 by omega)
theorem n_1lt {k : Nat} (h : k < 2 ^ 31) : 1 < nI k ↔ 1 < k := nI_ltI (show 1 < 2 ^ 31 by omega) h
theorem n_eq1 {k : Nat} (h : k < 2 ^ 31) : nI k = 1 ↔ k = 1 := nI_eq h (show 1 < 2 ^ 31 by omega)
theorem n_m1 {k : Nat} (h : k < 2 ^ 31) : nI k = -1 ↔ False := ⟨fun q => by
  have := nI_pos h
  rw [q] at this
  exact this (by decide), False.elim⟩
theorem n_m1a {k : Nat} (h : k < 2 ^ 31) : -1 = nI k ↔ False := ⟨fun q => (n_m1 h).mp q.symm, False.elim⟩
theorem n_sub1 {k : Nat} (h : 1 ≤ k) : nI k - 1 = nI (k - 1) := by
  obtain ⟨j, rfl⟩ : ∃ j, k = j + 1 := ⟨k - 1, by omega⟩
  rw [nI_pred]; rfl
/-! ===== leaves of the class ===== -/
theorem Fo_isPerson_v {σ : gx_R} {P : Nat} (h : σ 2 0 = nI P) (hP : P ≤ 8) (a : Int32) : Fo_isPerson a σ = some (bI (z_ix a P), σ) := by
  have e := ix_lt (a := a) (n := P) (by omega)
  unfold Fo_isPerson
  rw [h]
  cases hz : z_ix a P with
  | true =>
    obtain ⟨k, hk, rfl⟩ := ix_ex hz (by omega)
    have h8 : ¬ 8 ≤ k := by omega
    have hk2 : ¬ P ≤ k := by omega
    simp (disch := omega) only [z_c0, z_c1, nI_leI, nI_ltI, nI_eq, ix_n, cl_n, nI_add, pk_mul, nI_1, n_lt0, n_0le, n_le0, n_0lt, n_eq0, n_1le, n_le1, n_lt1, n_1lt, n_eq1, n_m1, n_m1a, L_2, L_3, L_4, L_5, L_6, L_7, L_8, L_9, L_10, L_11, L_12, L_14, L_15, L_16, L_17, L_18, L_20, L_21, L_24, L_26, L_30, L_32, L_34, L_35, L_36, L_37, L_38, L_39, L_40, L_41, L_42, L_43, L_44, L_45, L_46, L_47, L_48, L_57, L_59, L_60, L_61, L_62, L_64, L_65, L_68, L_76, L_80, L_84, L_90, L_92, L_96, L_97, L_98, L_99, L_100, L_104, L_122, L_139, L_140, L_162, L_163, L_164, L_200, L_241, L_255, L_256, L_280, L_284, L_300, L_301, L_303, L_309, L_360, L_400, L_401, L_402, L_403, L_404, L_405, L_406, L_407, L_408, L_999, L_1600, L_3120, L_8596, L_8880, L_9999, L_10000, L_30211, L_99999, L_1000000, h8, hk2, if_false, bI]
  | false =>
    rw [hz] at e
    have h3 : nI P ≤ 8 := by rw [L_8]; exact nI_le hP (by omega)
    generalize nI P = q at *
    split
    · rfl
    · split
      · rfl
      · exact absurd (e.mpr ⟨by assumption, by grind⟩) (by simp)
theorem Fo_isPerson_w {σ : gx_R} {P : Nat} (h : σ 2 0 = nI P) (hP : P ≤ 8) (a : Int32) : Fo_isPerson a σ = some (bI (z_ix a P), σ) := by
  have e := ix_lt (a := a) (n := P) (by omega)
  have h3 : nI P ≤ 8 := by rw [L_8]; exact nI_le hP (by omega)
  grind [Fo_isPerson, bI]
theorem Md_in_v (a l u : Int32) (τ : gx_R) : Md_in a l u τ = some (bI (decide (¬ a < l ∧ ¬ u < a)), τ) := by
  grind [Md_in, bI]
theorem Md_has_v (x : Int32) {p : Nat} (hp : p < 32) (τ : gx_R) : Md_has x (nI p) τ = some (bI (bt x p), τ) := by
  unfold Md_has
  simp only [h_1 hp]
  cases bt x p <;> rfl
theorem Md_isPerson_v {τ : gx_R} {P : Nat} (h : τ 110 0 = nI P) (hP : P ≤ 8) (a : Int32) : Md_isPerson a τ = some (bI (z_ix a P), τ) := by
  have e := ix_lt (a := a) (n := P) (by omega)
  have h3 : nI P ≤ 8 := by rw [L_8]; exact nI_le hP (by omega)
  have h4 : (0 : Int32) ≤ nI P := nI_pos' (by omega)
  have h5 : (0 : Int32).toNatClampNeg = 0 := rfl
  unfold Md_isPerson
  rw [h5, h, Md_in_v, w_bd, bI_bo, w_ck]
  have : decide (¬ a < 0 ∧ ¬ nI P - 1 < a) = z_ix a P := by
    cases hz : z_ix a P <;> rw [hz] at e <;> grind
  rw [this]
theorem Ni_those_L (σ : gx_R) (b0 : Nat) (a1 : Int32) : ∀ m k n, k + m = 8 → m < n → Ni_those_4 n b0 a1 (mk (fun p => decide (σ (b0 + 1) p = a1)) k) (nI k) σ = some (mk (fun p => decide (σ (b0 + 1) p = a1)) 8, σ) := by
  intro m
  induction m with
  | zero =>
    intro k n hk hn
    obtain ⟨n, rfl⟩ : ∃ q, n = q + 1 := ⟨n - 1, by omega⟩
    obtain rfl : k = 8 := by omega
    rfl
  | succ m ih =>
    intro k n hk hn
    obtain ⟨n, rfl⟩ : ∃ q, n = q + 1 := ⟨n - 1, by omega⟩
    have ih := ih (k + 1) n (by omega) (by omega)
    have h8 : ¬ 8 ≤ k := by omega
    have h9 : k < 8 := by omega
    simp (disch := omega) only [Ni_those_4, Ni_those_4_B, Ni_those_19, z_c0, z_c1, nI_leI, nI_ltI, nI_eq, ix_n, cl_n, nI_add, pk_mul, nI_1, n_lt0, n_0le, n_le0, n_0lt, n_eq0, n_1le, n_le1, n_lt1, n_1lt, n_eq1, n_m1, n_m1a, L_2, L_3, L_4, L_5, L_6, L_7, L_8, L_9, L_10, L_11, L_12, L_14, L_15, L_16, L_17, L_18, L_20, L_21, L_24, L_26, L_30, L_32, L_34, L_35, L_36, L_37, L_38, L_39, L_40, L_41, L_42, L_43, L_44, L_45, L_46, L_47, L_48, L_57, L_59, L_60, L_61, L_62, L_64, L_65, L_68, L_76, L_80, L_84, L_90, L_92, L_96, L_97, L_98, L_99, L_100, L_104, L_122, L_139, L_140, L_162, L_163, L_164, L_200, L_241, L_255, L_256, L_280, L_284, L_300, L_301, L_303, L_309, L_360, L_400, L_401, L_402, L_403, L_404, L_405, L_406, L_407, L_408, L_999, L_1600, L_3120, L_8596, L_8880, L_9999, L_10000, L_30211, L_99999, L_1000000, h8, h9, w_bd, w_ck, bI_0, bI_1, bI_bo, bo_0, bo_1, decide_true, decide_false, if_true, if_false, ite_true, ite_false, not_true_eq_false, not_false_eq_true, Bool.true_eq_false, Bool.false_eq_true]
    by_cases h : σ (b0 + 1) k = a1
    · rw [mk_t (decide_eq_true h)] at ih
      rw [if_pos h]
      exact ih
    · rw [mk_f (decide_eq_false h)] at ih
      rw [if_neg h]
      exact ih
theorem Ni_those_v (σ : gx_R) (b0 : Nat) (a1 : Int32) : Ni_those b0 a1 σ = some (mk (fun p => decide (σ (b0 + 1) p = a1)) 8, σ) := Ni_those_L σ b0 a1 8 0 z_FU rfl (Nat.lt_of_lt_of_le (by decide) z_FU_ge)
