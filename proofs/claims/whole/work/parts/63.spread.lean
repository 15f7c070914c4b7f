/-! ===== who wakes whom: the least set that is closed ===== -/
def cn (f : Nat → Bool) : Nat → Nat
  | 0 => 0
  | n + 1 => cn f n + (match f n with | true => 1 | false => 0)
theorem cn_le (f : Nat → Bool) : ∀ n, cn f n ≤ n
  | 0 => Nat.le_refl 0
  | n + 1 => by
    have := cn_le f n
    rw [cn]
    cases f n <;> simp <;> omega
theorem cn_mono {f g : Nat → Bool} : ∀ n, (∀ i, i < n → f i = true → g i = true) → cn f n ≤ cn g n
  | 0, _ => Nat.le_refl 0
  | n + 1, h => by
    have h1 := cn_mono n (fun i hi => h i (by omega))
    rw [cn, cn]
    cases hf : f n with
    | true => rw [h n (by omega) hf]; simp; omega
    | false => cases g n <;> simp <;> omega
theorem cn_lt {f g : Nat → Bool} : ∀ n, (∀ i, i < n → f i = true → g i = true) → (∃ i, i < n ∧ f i = false ∧ g i = true) → cn f n < cn g n
  | 0, _, ⟨i, h, _⟩ => by omega
  | n + 1, h, ⟨i, h1, h2, h3⟩ => by
    rw [cn, cn]
    by_cases e : i = n
    · subst e
      have := cn_mono i (fun j hj => h j (by omega))
      rw [h2, h3]; simp; omega
    · have := cn_lt n (fun j hj => h j (by omega)) ⟨i, by omega, h2, h3⟩
      cases hf : f n with
      | true => rw [h n (by omega) hf]; simp; omega
      | false => cases g n <;> simp <;> omega
theorem cn_pos {f : Nat → Bool} {n i : Nat} (hi : i < n) (h : f i = true) : 1 ≤ cn f n := by
  have : cn (fun _ => false) n < cn f n := cn_lt n (fun _ _ q => by cases q) ⟨i, hi, rfl, h⟩
  omega
def sub (x y : Int32) : Prop := ∀ i, i < 32 → bt x i = true → bt y i = true
def clos (E : Nat → Nat → Bool) (x : Int32) : Prop := ∀ s q, s < 8 → q < 8 → E s q = true → bt x q = true → bt x s = true
def Lst (E : Nat → Nat → Bool) (f x : Int32) : Prop := sub f x ∧ clos E x ∧ ∀ y, sub f y → clos E y → sub x y
theorem sub_rf (x : Int32) : sub x x := fun _ _ h => h
theorem sub_tr {x y z : Int32} (h : sub x y) (h2 : sub y z) : sub x z := fun i hi q => h2 i hi (h i hi q)
theorem sub_eq {x y : Int32} (h : sub x y) (h2 : sub y x) : x = y := b_ext (fun i hi => by
  cases hx : bt x i with
  | true => exact (h i hi hx).symm
  | false =>
    cases hy : bt y i with
    | true => rw [h2 i hi hy] at hx; cases hx
    | false => rfl)
theorem Lst_eq {E E' : Nat → Nat → Bool} {f x y : Int32} (he : ∀ s q, s < 8 → q < 8 → E s q = E' s q) (h : Lst E f x) (h2 : Lst E' f y) : x = y :=
  sub_eq (h.2.2 y h2.1 (fun s q hs hq e => h2.2.1 s q hs hq (by rw [← he s q hs hq]; exact e))) (h2.2.2 x h.1 (fun s q hs hq e => h.2.1 s q hs hq (by rw [he s q hs hq]; exact e)))
theorem and_0 {x y : Int32} : x &&& y = 0 ↔ ∀ i, i < 32 → bt x i = true → bt y i = true → False := by
  constructor
  · intro h i hi h1 h2
    have := congrArg (fun z => bt z i) h
    simp only [b_and, h1, h2, b_0] at this
    cases this
  · intro h
    apply b_ext
    intro i hi
    rw [b_and, b_0]
    cases h1 : bt x i with
    | false => rfl
    | true => cases h2 : bt y i with
      | false => rfl
      | true => exact (h i hi h1 h2).elim
theorem sub_or (x y : Int32) : sub x (x ||| y) := fun i _ h => by rw [b_or, h]; rfl
theorem or_bit {x : Int32} {p i : Nat} (hp : p < 32) (hi : i < 32) (h : bt (x ||| ((1 : Int32) <<< (nI p &&& 31))) i = true) : bt x i = true ∨ i = p := by
  rw [b_or, b_bit hp hi, Bool.or_eq_true] at h
  rcases h with h | h
  · exact Or.inl h
  · exact Or.inr (of_decide_eq_true h)
theorem spr_in {K : Int32 → Int32 → Int32 → Int32 → gx_R → Option (Int32 × gx_R)} {a bf r : Int32} {σ : gx_R} (h55 : ∀ s, s < 8 → bt a s = true → ∀ i, i < 32 → bt (σ 55 s) i = true → i < 8) : ∀ m p n w, p + m = 8 → m < n → ∃ w', Cl_spread_16 K n a w bf r (nI p) σ = K a w' bf (r + 1) σ ∧ sub w w' ∧ (∀ y, sub w y → clos (fun s q => bt a s && bt (σ 55 s) q) y → sub w' y) ∧ (w' = w → ∀ s, p ≤ s → s < 8 → bt a s = true → (∃ q, q < 8 ∧ bt (σ 55 s) q = true ∧ bt w q = true) → bt w s = true) := by
  intro m
  induction m with
  | zero =>
    intro p n w hp hn
    obtain ⟨n, rfl⟩ : ∃ q, n = q + 1 := ⟨n - 1, by omega⟩
    obtain rfl : p = 8 := by omega
    refine ⟨w, ?_, sub_rf w, fun y h _ => h, fun _ s h1 h2 => by omega⟩
    simp (disch := omega) only [Cl_spread_16, Cl_spread_16_B, Cl_spread_41, z_c0, z_c1, nI_leI, nI_ltI, nI_eq, ix_n, cl_n, nI_add, pk_mul, nI_1, n_lt0, n_0le, n_le0, n_0lt, n_eq0, n_1le, n_le1, n_lt1, n_1lt, n_eq1, n_m1, n_m1a, L_2, L_3, L_4, L_5, L_6, L_7, L_8, L_9, L_10, L_11, L_12, L_14, L_15, L_16, L_17, L_18, L_20, L_21, L_24, L_26, L_30, L_32, L_34, L_35, L_36, L_37, L_38, L_39, L_40, L_41, L_42, L_43, L_44, L_45, L_46, L_47, L_48, L_57, L_59, L_60, L_61, L_62, L_64, L_65, L_68, L_76, L_80, L_84, L_90, L_92, L_96, L_97, L_98, L_99, L_100, L_104, L_122, L_139, L_140, L_162, L_163, L_164, L_200, L_241, L_255, L_256, L_280, L_284, L_300, L_301, L_303, L_309, L_360, L_400, L_401, L_402, L_403, L_404, L_405, L_406, L_407, L_408, L_999, L_1600, L_3120, L_8596, L_8880, L_9999, L_10000, L_30211, L_99999, L_1000000, Nat.le_refl, w_bd, w_ck, bI_0, bI_1, bI_bo, bo_0, bo_1, decide_true, decide_false, if_true, if_false, ite_true, ite_false, not_true_eq_false, not_false_eq_true, Bool.true_eq_false, Bool.false_eq_true]
  | succ m ih =>
    intro p n w hp hn
    obtain ⟨n, rfl⟩ : ∃ q, n = q + 1 := ⟨n - 1, by omega⟩
    have c1 : ¬ 8 ≤ p := by omega
    have c2 : p < 8 := by omega
    by_cases ha : bt a p = true
    · by_cases h0 : σ 55 p &&& w = 0
      · obtain ⟨w', q1, q2, q3, q4⟩ := ih (p + 1) n w (by omega) (by omega)
        refine ⟨w', ?_, q2, q3, fun e s h1 h2 h3 h4 => ?_⟩
        · simp (disch := omega) only [Cl_spread_16, Cl_spread_16_B, Cl_spread_39, h_1, ha, h0, z_c0, z_c1, nI_leI, nI_ltI, nI_eq, ix_n, cl_n, nI_add, pk_mul, nI_1, n_lt0, n_0le, n_le0, n_0lt, n_eq0, n_1le, n_le1, n_lt1, n_1lt, n_eq1, n_m1, n_m1a, L_2, L_3, L_4, L_5, L_6, L_7, L_8, L_9, L_10, L_11, L_12, L_14, L_15, L_16, L_17, L_18, L_20, L_21, L_24, L_26, L_30, L_32, L_34, L_35, L_36, L_37, L_38, L_39, L_40, L_41, L_42, L_43, L_44, L_45, L_46, L_47, L_48, L_57, L_59, L_60, L_61, L_62, L_64, L_65, L_68, L_76, L_80, L_84, L_90, L_92, L_96, L_97, L_98, L_99, L_100, L_104, L_122, L_139, L_140, L_162, L_163, L_164, L_200, L_241, L_255, L_256, L_280, L_284, L_300, L_301, L_303, L_309, L_360, L_400, L_401, L_402, L_403, L_404, L_405, L_406, L_407, L_408, L_999, L_1600, L_3120, L_8596, L_8880, L_9999, L_10000, L_30211, L_99999, L_1000000, c1, c2, w_bd, w_ck, bI_0, bI_1, bI_bo, bo_0, bo_1, decide_true, decide_false, if_true, if_false, ite_true, ite_false, not_true_eq_false, not_false_eq_true, Bool.true_eq_false, Bool.false_eq_true]
          exact q1
        · by_cases hsp : s = p
          · subst hsp
            obtain ⟨q, z1, z2, z3⟩ := h4
            exact (and_0.mp h0 q (by omega) z2 z3).elim
          · exact q4 e s (by omega) h2 h3 h4
      · obtain ⟨w', q1, q2, q3, q4⟩ := ih (p + 1) n (w ||| ((1 : Int32) <<< (nI p &&& 31))) (by omega) (by omega)
        have hex : ∃ q, q < 32 ∧ bt (σ 55 p) q = true ∧ bt w q = true := by
          rcases Classical.em (∃ q, q < 32 ∧ bt (σ 55 p) q = true ∧ bt w q = true) with h | h
          · exact h
          · exact absurd (and_0.mpr (fun i hi z1 z2 => h ⟨i, hi, z1, z2⟩)) h0
        refine ⟨w', ?_, sub_tr (sub_or _ _) q2, fun y h1 h2 => ?_, fun e s h1 h2 h3 h4 => ?_⟩
        · simp (disch := omega) only [Cl_spread_16, Cl_spread_16_B, Cl_spread_39, h_1, ha, h0, z_c0, z_c1, nI_leI, nI_ltI, nI_eq, ix_n, cl_n, nI_add, pk_mul, nI_1, n_lt0, n_0le, n_le0, n_0lt, n_eq0, n_1le, n_le1, n_lt1, n_1lt, n_eq1, n_m1, n_m1a, L_2, L_3, L_4, L_5, L_6, L_7, L_8, L_9, L_10, L_11, L_12, L_14, L_15, L_16, L_17, L_18, L_20, L_21, L_24, L_26, L_30, L_32, L_34, L_35, L_36, L_37, L_38, L_39, L_40, L_41, L_42, L_43, L_44, L_45, L_46, L_47, L_48, L_57, L_59, L_60, L_61, L_62, L_64, L_65, L_68, L_76, L_80, L_84, L_90, L_92, L_96, L_97, L_98, L_99, L_100, L_104, L_122, L_139, L_140, L_162, L_163, L_164, L_200, L_241, L_255, L_256, L_280, L_284, L_300, L_301, L_303, L_309, L_360, L_400, L_401, L_402, L_403, L_404, L_405, L_406, L_407, L_408, L_999, L_1600, L_3120, L_8596, L_8880, L_9999, L_10000, L_30211, L_99999, L_1000000, c1, c2, w_bd, w_ck, bI_0, bI_1, bI_bo, bo_0, bo_1, decide_true, decide_false, if_true, if_false, ite_true, ite_false, not_true_eq_false, not_false_eq_true, Bool.true_eq_false, Bool.false_eq_true]
          exact q1
        · refine q3 y (fun i hi hb => ?_) h2
          rcases or_bit (by omega) hi hb with z | z
          · exact h1 i hi z
          · subst z
            obtain ⟨q, z1, z2, z3⟩ := hex
            exact h2 i q c2 (h55 i c2 ha q z1 z2) (show (bt a i && bt (σ 55 i) q) = true by rw [ha, z2]; rfl) (h1 q z1 z3)
        · have e1 : w ||| ((1 : Int32) <<< (nI p &&& 31)) = w := sub_eq (by rw [e] at q2; exact q2) (sub_or _ _)
          rw [e1] at q4
          by_cases hsp : s = p
          · subst hsp
            have := congrArg (fun z => bt z s) e1
            simp only [b_or, b_bit (show s < 32 by omega) (show s < 32 by omega), decide_true, Bool.or_true] at this
            exact this.symm
          · exact q4 e s (by omega) h2 h3 h4
    · obtain ⟨w', q1, q2, q3, q4⟩ := ih (p + 1) n w (by omega) (by omega)
      refine ⟨w', ?_, q2, q3, fun e s h1 h2 h3 h4 => ?_⟩
      · simp (disch := omega) only [Cl_spread_16, Cl_spread_16_B, Cl_spread_39, h_1, ha, z_c0, z_c1, nI_leI, nI_ltI, nI_eq, ix_n, cl_n, nI_add, pk_mul, nI_1, n_lt0, n_0le, n_le0, n_0lt, n_eq0, n_1le, n_le1, n_lt1, n_1lt, n_eq1, n_m1, n_m1a, L_2, L_3, L_4, L_5, L_6, L_7, L_8, L_9, L_10, L_11, L_12, L_14, L_15, L_16, L_17, L_18, L_20, L_21, L_24, L_26, L_30, L_32, L_34, L_35, L_36, L_37, L_38, L_39, L_40, L_41, L_42, L_43, L_44, L_45, L_46, L_47, L_48, L_57, L_59, L_60, L_61, L_62, L_64, L_65, L_68, L_76, L_80, L_84, L_90, L_92, L_96, L_97, L_98, L_99, L_100, L_104, L_122, L_139, L_140, L_162, L_163, L_164, L_200, L_241, L_255, L_256, L_280, L_284, L_300, L_301, L_303, L_309, L_360, L_400, L_401, L_402, L_403, L_404, L_405, L_406, L_407, L_408, L_999, L_1600, L_3120, L_8596, L_8880, L_9999, L_10000, L_30211, L_99999, L_1000000, c1, c2, w_bd, w_ck, bI_0, bI_1, bI_bo, bo_0, bo_1, decide_true, decide_false, if_true, if_false, ite_true, ite_false, not_true_eq_false, not_false_eq_true, Bool.true_eq_false, Bool.false_eq_true]
        exact q1
      · by_cases hsp : s = p
        · subst hsp; exact absurd h3 ha
        · exact q4 e s (by omega) h2 h3 h4
theorem spr_L {a f : Int32} {σ : gx_R} (h55 : ∀ s, s < 8 → bt a s = true → ∀ i, i < 32 → bt (σ 55 s) i = true → i < 8) (ha8 : ∀ i, i < 32 → bt a i = true → i < 8) : ∀ m r n w bf, r + m = 8 → m < n → (∀ i, i < 32 → bt w i = true → i < 8) → sub f w → (∀ y, sub f y → clos (fun s q => bt a s && bt (σ 55 s) q) y → sub w y) → (w = bf → clos (fun s q => bt a s && bt (σ 55 s) q) w) → (w ≠ bf → r + 1 ≤ cn (bt w) 8) → ∃ x, Cl_spread_6 n a w bf (nI r) σ = some (x, σ) ∧ Lst (fun s q => bt a s && bt (σ 55 s) q) f x := by
  intro m
  induction m with
  | zero =>
    intro r n w bf hr hn h8 h1 h2 h3 h4
    obtain ⟨n, rfl⟩ : ∃ q, n = q + 1 := ⟨n - 1, by omega⟩
    obtain rfl : r = 8 := by omega
    refine ⟨w, ?_, h1, h3 ?_, h2⟩
    · simp (disch := omega) only [Cl_spread_6, Cl_spread_6_B, z_c0, z_c1, nI_leI, nI_ltI, nI_eq, ix_n, cl_n, nI_add, pk_mul, nI_1, n_lt0, n_0le, n_le0, n_0lt, n_eq0, n_1le, n_le1, n_lt1, n_1lt, n_eq1, n_m1, n_m1a, L_2, L_3, L_4, L_5, L_6, L_7, L_8, L_9, L_10, L_11, L_12, L_14, L_15, L_16, L_17, L_18, L_20, L_21, L_24, L_26, L_30, L_32, L_34, L_35, L_36, L_37, L_38, L_39, L_40, L_41, L_42, L_43, L_44, L_45, L_46, L_47, L_48, L_57, L_59, L_60, L_61, L_62, L_64, L_65, L_68, L_76, L_80, L_84, L_90, L_92, L_96, L_97, L_98, L_99, L_100, L_104, L_122, L_139, L_140, L_162, L_163, L_164, L_200, L_241, L_255, L_256, L_280, L_284, L_300, L_301, L_303, L_309, L_360, L_400, L_401, L_402, L_403, L_404, L_405, L_406, L_407, L_408, L_999, L_1600, L_3120, L_8596, L_8880, L_9999, L_10000, L_30211, L_99999, L_1000000, Nat.le_refl, w_bd, w_ck, bI_0, bI_1, bI_bo, bo_0, bo_1, decide_true, decide_false, if_true, if_false, ite_true, ite_false, not_true_eq_false, not_false_eq_true, Bool.true_eq_false, Bool.false_eq_true]
    · rcases Classical.em (w = bf) with h | h
      · exact h
      · have := h4 h
        have := cn_le (bt w) 8
        omega
  | succ m ih =>
    intro r n w bf hr hn h8 h1 h2 h3 h4
    obtain ⟨n, rfl⟩ : ∃ q, n = q + 1 := ⟨n - 1, by omega⟩
    have c1 : ¬ 8 ≤ r := by omega
    by_cases hw : w = bf
    · refine ⟨w, ?_, h1, h3 hw, h2⟩
      simp (disch := omega) only [Cl_spread_6, Cl_spread_6_B, hw, z_c0, z_c1, nI_leI, nI_ltI, nI_eq, ix_n, cl_n, nI_add, pk_mul, nI_1, n_lt0, n_0le, n_le0, n_0lt, n_eq0, n_1le, n_le1, n_lt1, n_1lt, n_eq1, n_m1, n_m1a, L_2, L_3, L_4, L_5, L_6, L_7, L_8, L_9, L_10, L_11, L_12, L_14, L_15, L_16, L_17, L_18, L_20, L_21, L_24, L_26, L_30, L_32, L_34, L_35, L_36, L_37, L_38, L_39, L_40, L_41, L_42, L_43, L_44, L_45, L_46, L_47, L_48, L_57, L_59, L_60, L_61, L_62, L_64, L_65, L_68, L_76, L_80, L_84, L_90, L_92, L_96, L_97, L_98, L_99, L_100, L_104, L_122, L_139, L_140, L_162, L_163, L_164, L_200, L_241, L_255, L_256, L_280, L_284, L_300, L_301, L_303, L_309, L_360, L_400, L_401, L_402, L_403, L_404, L_405, L_406, L_407, L_408, L_999, L_1600, L_3120, L_8596, L_8880, L_9999, L_10000, L_30211, L_99999, L_1000000, c1, w_bd, w_ck, bI_0, bI_1, bI_bo, bo_0, bo_1, decide_true, decide_false, if_true, if_false, ite_true, ite_false, not_true_eq_false, not_false_eq_true, Bool.true_eq_false, Bool.false_eq_true]
    · obtain ⟨w', q1, q2, q3, q4⟩ := spr_in (K := Cl_spread_6 n) (bf := w) (r := nI r) h55 8 0 z_FU w (by omega) (Nat.lt_of_lt_of_le (by decide) z_FU_ge)
      have w8 : ∀ i, i < 32 → bt w' i = true → i < 8 := by
        have := q3 (w ||| a ||| 255) (sub_tr (sub_or w a) (sub_or _ _)) (fun s q hs hq he hb => by
          rw [b_or, b_255, decide_eq_true hs, Bool.or_true])
        intro i hi hb
        have z := this i hi hb
        rw [b_or, b_or, b_255] at z
        rcases Bool.or_eq_true_iff.mp z with z | z
        · rcases Bool.or_eq_true_iff.mp z with z | z
          · exact h8 i hi z
          · exact ha8 i hi z
        · exact of_decide_eq_true z
      obtain ⟨x, z1, z2⟩ := ih (r + 1) n w' w (by omega) (by omega) w8 (sub_tr h1 q2) (fun y y1 y2 => q3 y (h2 y y1 y2) y2) (fun e => by
        rw [e]
        intro s q hs hq he hb
        obtain ⟨e1, e2⟩ := Bool.and_eq_true_iff.mp he
        exact q4 e s (by omega) hs e1 ⟨q, hq, e2, hb⟩) (fun e => by
        have := h4 hw
        have : cn (bt w) 8 < cn (bt w') 8 := by
          refine cn_lt 8 (fun i hi => q2 i (by omega)) ?_
          rcases Classical.em (∃ i, i < 8 ∧ bt w i = false ∧ bt w' i = true) with h | h
          · exact h
          · exact absurd (sub_eq (fun i hi hb => by
              cases hwi : bt w i with
              | true => rfl
              | false => exact absurd ⟨i, w8 i hi hb, hwi, hb⟩ h) q2) e
        omega)
      refine ⟨x, ?_, z2⟩
      rw [nI_1] at q1
      simp (disch := omega) only [Cl_spread_6, Cl_spread_6_B, hw, z_c0, z_c1, nI_leI, nI_ltI, nI_eq, ix_n, cl_n, nI_add, pk_mul, nI_1, n_lt0, n_0le, n_le0, n_0lt, n_eq0, n_1le, n_le1, n_lt1, n_1lt, n_eq1, n_m1, n_m1a, L_2, L_3, L_4, L_5, L_6, L_7, L_8, L_9, L_10, L_11, L_12, L_14, L_15, L_16, L_17, L_18, L_20, L_21, L_24, L_26, L_30, L_32, L_34, L_35, L_36, L_37, L_38, L_39, L_40, L_41, L_42, L_43, L_44, L_45, L_46, L_47, L_48, L_57, L_59, L_60, L_61, L_62, L_64, L_65, L_68, L_76, L_80, L_84, L_90, L_92, L_96, L_97, L_98, L_99, L_100, L_104, L_122, L_139, L_140, L_162, L_163, L_164, L_200, L_241, L_255, L_256, L_280, L_284, L_300, L_301, L_303, L_309, L_360, L_400, L_401, L_402, L_403, L_404, L_405, L_406, L_407, L_408, L_999, L_1600, L_3120, L_8596, L_8880, L_9999, L_10000, L_30211, L_99999, L_1000000, c1, w_bd, w_ck, bI_0, bI_1, bI_bo, bo_0, bo_1, decide_true, decide_false, if_true, if_false, ite_true, ite_false, not_true_eq_false, not_false_eq_true, Bool.true_eq_false, Bool.false_eq_true]
      exact q1.trans z1
theorem spread_v {a f : Int32} {σ : gx_R} (h55 : ∀ s, s < 8 → bt a s = true → ∀ i, i < 32 → bt (σ 55 s) i = true → i < 8) (ha8 : ∀ i, i < 32 → bt a i = true → i < 8) (hf : ∀ i, i < 32 → bt f i = true → i < 8) : ∃ x, Cl_spread f a σ = some (x, σ) ∧ Lst (fun s q => bt a s && bt (σ 55 s) q) f x :=
  spr_L h55 ha8 8 0 z_FU f 0 (by omega) (Nat.lt_of_lt_of_le (by decide) z_FU_ge) hf (sub_rf f) (fun y h _ => h) (fun e s q _ _ _ hb => by rw [e, b_0] at hb; cases hb) (fun e => by
    rcases Classical.em (∃ i, i < 32 ∧ bt f i = true) with ⟨i, h1, h2⟩ | h
    · exact cn_pos (hf i h1 h2) h2
    · exact absurd (b_ext (fun i hi => by
        rw [b_0]
        cases hb : bt f i with
        | true => exact absurd ⟨i, hi, hb⟩ h
        | false => rfl)) e)
/-! the reference's rounds -/
theorem wo_in {K : Int32 → Int32 → Int32 → Int32 → gx_R → Option (Int32 × gx_R)} {P s v : Nat} (hP : P ≤ 8) (hs : s < P) {τ : gx_R} (h0 : τ 110 0 = nI P) (hS : ∀ τ1, lM τ τ1 → ∃ τ2, Md_soundOf (nI s) τ1 = some (nI v, τ2) ∧ lM τ1 τ2) {g w : Int32} : ∀ m p n nx τ1, p + m = P → m < n → lM τ τ1 → ∃ τ2, Md_wakesOn_32 K n g w nx (nI s) (nI p) τ1 = K g w (match anF (fun q => bt w q && (bt (τ 110 (34 + s)) q && decide (nI v < τ 110 (18 + q)))) p m with | true => nx ||| ((1 : Int32) <<< (nI s &&& 31)) | false => nx) (nI s) τ2 ∧ lM τ τ2 := by
  intro m
  induction m with
  | zero =>
    intro p n nx τ1 hp hn hl
    obtain ⟨n, rfl⟩ : ∃ q, n = q + 1 := ⟨n - 1, by omega⟩
    obtain rfl : p = P := by omega
    have h0' : τ1 110 0 = nI p := by rw [hl 110 (by omega) (by omega)]; exact h0
    refine ⟨τ1, ?_, hl⟩
    simp (disch := omega) only [Md_wakesOn_32, Md_wakesOn_32_B, h0', z_c0, z_c1, nI_leI, nI_ltI, nI_eq, ix_n, cl_n, nI_add, pk_mul, nI_1, n_lt0, n_0le, n_le0, n_0lt, n_eq0, n_1le, n_le1, n_lt1, n_1lt, n_eq1, n_m1, n_m1a, L_2, L_3, L_4, L_5, L_6, L_7, L_8, L_9, L_10, L_11, L_12, L_14, L_15, L_16, L_17, L_18, L_20, L_21, L_24, L_26, L_30, L_32, L_34, L_35, L_36, L_37, L_38, L_39, L_40, L_41, L_42, L_43, L_44, L_45, L_46, L_47, L_48, L_57, L_59, L_60, L_61, L_62, L_64, L_65, L_68, L_76, L_80, L_84, L_90, L_92, L_96, L_97, L_98, L_99, L_100, L_104, L_122, L_139, L_140, L_162, L_163, L_164, L_200, L_241, L_255, L_256, L_280, L_284, L_300, L_301, L_303, L_309, L_360, L_400, L_401, L_402, L_403, L_404, L_405, L_406, L_407, L_408, L_999, L_1600, L_3120, L_8596, L_8880, L_9999, L_10000, L_30211, L_99999, L_1000000, Nat.le_refl, anF, w_bd, w_ck, bI_0, bI_1, bI_bo, bo_0, bo_1, decide_true, decide_false, if_true, if_false, ite_true, ite_false, not_true_eq_false, not_false_eq_true, Bool.true_eq_false, Bool.false_eq_true]
  | succ m ih =>
    intro p n nx τ1 hp hn hl
    obtain ⟨n, rfl⟩ : ∃ q, n = q + 1 := ⟨n - 1, by omega⟩
    have h0' : τ1 110 0 = nI P := by rw [hl 110 (by omega) (by omega)]; exact h0
    have t110 : τ1 110 = τ 110 := hl 110 (by omega) (by omega)
    have c1 : ¬ P ≤ p := by omega
    have c2 : 34 + s < 8880 := by omega
    have c3 : 18 + p < 8880 := by omega
    rw [anF]
    cases h1 : bt w p with
    | false =>
      obtain ⟨τ2, q1, q2⟩ := ih (p + 1) n nx τ1 (by omega) (by omega) hl
      refine ⟨τ2, ?_, q2⟩
      simp (disch := omega) only [Md_wakesOn_32, Md_wakesOn_32_B, Md_wakesOn_67, Md_has_v, h1, h0', bI_f, Bool.false_and, Bool.false_or, z_c0, z_c1, nI_leI, nI_ltI, nI_eq, ix_n, cl_n, nI_add, pk_mul, nI_1, n_lt0, n_0le, n_le0, n_0lt, n_eq0, n_1le, n_le1, n_lt1, n_1lt, n_eq1, n_m1, n_m1a, L_2, L_3, L_4, L_5, L_6, L_7, L_8, L_9, L_10, L_11, L_12, L_14, L_15, L_16, L_17, L_18, L_20, L_21, L_24, L_26, L_30, L_32, L_34, L_35, L_36, L_37, L_38, L_39, L_40, L_41, L_42, L_43, L_44, L_45, L_46, L_47, L_48, L_57, L_59, L_60, L_61, L_62, L_64, L_65, L_68, L_76, L_80, L_84, L_90, L_92, L_96, L_97, L_98, L_99, L_100, L_104, L_122, L_139, L_140, L_162, L_163, L_164, L_200, L_241, L_255, L_256, L_280, L_284, L_300, L_301, L_303, L_309, L_360, L_400, L_401, L_402, L_403, L_404, L_405, L_406, L_407, L_408, L_999, L_1600, L_3120, L_8596, L_8880, L_9999, L_10000, L_30211, L_99999, L_1000000, c1, w_bd, w_ck, bI_0, bI_1, bI_bo, bo_0, bo_1, decide_true, decide_false, if_true, if_false, ite_true, ite_false, not_true_eq_false, not_false_eq_true, Bool.true_eq_false, Bool.false_eq_true]
      exact q1
    | true =>
      cases h2 : bt (τ 110 (34 + s)) p with
      | false =>
        obtain ⟨τ2, q1, q2⟩ := ih (p + 1) n nx τ1 (by omega) (by omega) hl
        refine ⟨τ2, ?_, q2⟩
        simp (disch := omega) only [Md_wakesOn_32, Md_wakesOn_32_B, Md_wakesOn_67, Md_has_v, h1, h2, t110, h0', h0, bI_f, bI_t, show ¬ ((1 : Int32) = 0) by decide, Bool.false_and, Bool.and_false, Bool.false_or, z_c0, z_c1, nI_leI, nI_ltI, nI_eq, ix_n, cl_n, nI_add, pk_mul, nI_1, n_lt0, n_0le, n_le0, n_0lt, n_eq0, n_1le, n_le1, n_lt1, n_1lt, n_eq1, n_m1, n_m1a, L_2, L_3, L_4, L_5, L_6, L_7, L_8, L_9, L_10, L_11, L_12, L_14, L_15, L_16, L_17, L_18, L_20, L_21, L_24, L_26, L_30, L_32, L_34, L_35, L_36, L_37, L_38, L_39, L_40, L_41, L_42, L_43, L_44, L_45, L_46, L_47, L_48, L_57, L_59, L_60, L_61, L_62, L_64, L_65, L_68, L_76, L_80, L_84, L_90, L_92, L_96, L_97, L_98, L_99, L_100, L_104, L_122, L_139, L_140, L_162, L_163, L_164, L_200, L_241, L_255, L_256, L_280, L_284, L_300, L_301, L_303, L_309, L_360, L_400, L_401, L_402, L_403, L_404, L_405, L_406, L_407, L_408, L_999, L_1600, L_3120, L_8596, L_8880, L_9999, L_10000, L_30211, L_99999, L_1000000, c1, c2, w_bd, w_ck, bI_0, bI_1, bI_bo, bo_0, bo_1, decide_true, decide_false, if_true, if_false, ite_true, ite_false, not_true_eq_false, not_false_eq_true, Bool.true_eq_false, Bool.false_eq_true]
        exact q1
      | true =>
        obtain ⟨τ2, s1, s2⟩ := hS τ1 hl
        by_cases h3 : τ 110 (18 + p) ≤ nI v
        · obtain ⟨τ3, q1, q2⟩ := ih (p + 1) n nx τ2 (by omega) (by omega) (lM_tr hl s2)
          refine ⟨τ3, ?_, q2⟩
          simp (disch := omega) only [Md_wakesOn_32, Md_wakesOn_32_B, Md_wakesOn_67, Md_has_v, h1, h2, h3, s1, t110, h0', h0, decide_eq_false (Int32.not_lt.mpr h3), bI_f, bI_t, show ¬ ((1 : Int32) = 0) by decide, Bool.false_and, Bool.and_false, Bool.false_or, z_c0, z_c1, nI_leI, nI_ltI, nI_eq, ix_n, cl_n, nI_add, pk_mul, nI_1, n_lt0, n_0le, n_le0, n_0lt, n_eq0, n_1le, n_le1, n_lt1, n_1lt, n_eq1, n_m1, n_m1a, L_2, L_3, L_4, L_5, L_6, L_7, L_8, L_9, L_10, L_11, L_12, L_14, L_15, L_16, L_17, L_18, L_20, L_21, L_24, L_26, L_30, L_32, L_34, L_35, L_36, L_37, L_38, L_39, L_40, L_41, L_42, L_43, L_44, L_45, L_46, L_47, L_48, L_57, L_59, L_60, L_61, L_62, L_64, L_65, L_68, L_76, L_80, L_84, L_90, L_92, L_96, L_97, L_98, L_99, L_100, L_104, L_122, L_139, L_140, L_162, L_163, L_164, L_200, L_241, L_255, L_256, L_280, L_284, L_300, L_301, L_303, L_309, L_360, L_400, L_401, L_402, L_403, L_404, L_405, L_406, L_407, L_408, L_999, L_1600, L_3120, L_8596, L_8880, L_9999, L_10000, L_30211, L_99999, L_1000000, c1, c2, c3, w_bd, w_ck, bI_0, bI_1, bI_bo, bo_0, bo_1, decide_true, decide_false, if_true, if_false, ite_true, ite_false, not_true_eq_false, not_false_eq_true, Bool.true_eq_false, Bool.false_eq_true]
          exact q1
        · obtain ⟨τ3, q1, q2⟩ := ih (p + 1) n (nx ||| ((1 : Int32) <<< (nI s &&& 31))) τ2 (by omega) (by omega) (lM_tr hl s2)
          refine ⟨τ3, ?_, q2⟩
          simp (disch := omega) only [Md_wakesOn_32, Md_wakesOn_32_B, Md_wakesOn_67, Md_has_v, h1, h2, h3, s1, t110, h0', h0, decide_eq_true (Int32.not_le.mp h3), bI_f, bI_t, show ¬ ((1 : Int32) = 0) by decide, Bool.true_and, Bool.and_true, Bool.true_or, z_c0, z_c1, nI_leI, nI_ltI, nI_eq, ix_n, cl_n, nI_add, pk_mul, nI_1, n_lt0, n_0le, n_le0, n_0lt, n_eq0, n_1le, n_le1, n_lt1, n_1lt, n_eq1, n_m1, n_m1a, L_2, L_3, L_4, L_5, L_6, L_7, L_8, L_9, L_10, L_11, L_12, L_14, L_15, L_16, L_17, L_18, L_20, L_21, L_24, L_26, L_30, L_32, L_34, L_35, L_36, L_37, L_38, L_39, L_40, L_41, L_42, L_43, L_44, L_45, L_46, L_47, L_48, L_57, L_59, L_60, L_61, L_62, L_64, L_65, L_68, L_76, L_80, L_84, L_90, L_92, L_96, L_97, L_98, L_99, L_100, L_104, L_122, L_139, L_140, L_162, L_163, L_164, L_200, L_241, L_255, L_256, L_280, L_284, L_300, L_301, L_303, L_309, L_360, L_400, L_401, L_402, L_403, L_404, L_405, L_406, L_407, L_408, L_999, L_1600, L_3120, L_8596, L_8880, L_9999, L_10000, L_30211, L_99999, L_1000000, c1, c2, c3, w_bd, w_ck, bI_0, bI_1, bI_bo, bo_0, bo_1, decide_true, decide_false, if_true, if_false, ite_true, ite_false, not_true_eq_false, not_false_eq_true, Bool.true_eq_false, Bool.false_eq_true]
          rw [q1]
          have e : nx ||| ((1 : Int32) <<< (nI s &&& 31)) ||| ((1 : Int32) <<< (nI s &&& 31)) = nx ||| ((1 : Int32) <<< (nI s &&& 31)) := b_ext (fun i hi => by rw [b_or, b_or, Bool.or_assoc, Bool.or_self])
          split <;> simp only [e]
/-- the reference's edges -/
def edM (τ : gx_R) (P : Nat) (snd : Nat → Nat) (g : Int32) (s q : Nat) : Bool := decide (s < P ∧ q < P) && (decide (τ 135 s = 2) && (!bt g s && (bt (τ 110 (34 + s)) q && decide (nI (snd s) < τ 110 (18 + q)))))
theorem edM_iff {τ : gx_R} {P : Nat} {snd : Nat → Nat} {g : Int32} {s q : Nat} : edM τ P snd g s q = true ↔ s < P ∧ q < P ∧ τ 135 s = 2 ∧ bt g s = false ∧ bt (τ 110 (34 + s)) q = true ∧ nI (snd s) < τ 110 (18 + q) := by
  simp only [edM, Bool.and_eq_true, decide_eq_true_eq, Bool.not_eq_true', and_assoc]
theorem wo_mid {P : Nat} {snd : Nat → Nat} (hP : P ≤ 8) {τ : gx_R} (h0 : τ 110 0 = nI P) (hS : ∀ s, s < P → τ 135 s = 2 → ∀ τ1, lM τ τ1 → ∃ τ2, Md_soundOf (nI s) τ1 = some (nI (snd s), τ2) ∧ lM τ1 τ2) {K : Int32 → Int32 → Int32 → gx_R → Option (Int32 × gx_R)} {g w : Int32} : ∀ m s n nx τ1, s + m = P → m < n → lM τ τ1 → ∃ z τ2, Md_wakesOn_10 K n g w nx (nI s) τ1 = Md_wakesOn_71 K g w z τ2 ∧ lM τ τ2 ∧ ∀ i, i < 32 → (bt z i = true ↔ bt nx i = true ∨ (s ≤ i ∧ i < P ∧ bt w i = false ∧ ∃ q, bt w q = true ∧ edM τ P snd g i q = true)) := by
  intro m
  induction m with
  | zero =>
    intro s n nx τ1 hs hn hl
    obtain ⟨n, rfl⟩ : ∃ q, n = q + 1 := ⟨n - 1, by omega⟩
    obtain rfl : s = P := by omega
    have h0' : τ1 110 0 = nI s := by rw [hl 110 (by omega) (by omega)]; exact h0
    refine ⟨nx, τ1, ?_, hl, fun i hi => ⟨Or.inl, fun h => ?_⟩⟩
    · simp (disch := omega) only [Md_wakesOn_10, Md_wakesOn_10_B, h0', z_c0, z_c1, nI_leI, nI_ltI, nI_eq, ix_n, cl_n, nI_add, pk_mul, nI_1, n_lt0, n_0le, n_le0, n_0lt, n_eq0, n_1le, n_le1, n_lt1, n_1lt, n_eq1, n_m1, n_m1a, L_2, L_3, L_4, L_5, L_6, L_7, L_8, L_9, L_10, L_11, L_12, L_14, L_15, L_16, L_17, L_18, L_20, L_21, L_24, L_26, L_30, L_32, L_34, L_35, L_36, L_37, L_38, L_39, L_40, L_41, L_42, L_43, L_44, L_45, L_46, L_47, L_48, L_57, L_59, L_60, L_61, L_62, L_64, L_65, L_68, L_76, L_80, L_84, L_90, L_92, L_96, L_97, L_98, L_99, L_100, L_104, L_122, L_139, L_140, L_162, L_163, L_164, L_200, L_241, L_255, L_256, L_280, L_284, L_300, L_301, L_303, L_309, L_360, L_400, L_401, L_402, L_403, L_404, L_405, L_406, L_407, L_408, L_999, L_1600, L_3120, L_8596, L_8880, L_9999, L_10000, L_30211, L_99999, L_1000000, Nat.le_refl, w_bd, w_ck, bI_0, bI_1, bI_bo, bo_0, bo_1, decide_true, decide_false, if_true, if_false, ite_true, ite_false, not_true_eq_false, not_false_eq_true, Bool.true_eq_false, Bool.false_eq_true]
    · rcases h with h | ⟨h1, h2, -⟩
      · exact h
      · omega
  | succ m ih =>
    intro s n nx τ1 hs hn hl
    obtain ⟨n, rfl⟩ : ∃ q, n = q + 1 := ⟨n - 1, by omega⟩
    have h0' : τ1 110 0 = nI P := by rw [hl 110 (by omega) (by omega)]; exact h0
    have t135 : τ1 135 = τ 135 := hl 135 (by omega) (by omega)
    have c1 : ¬ P ≤ s := by omega
    have c2 : s < 8 := by omega
    have skip : (¬ (τ 135 s = 2 ∧ bt w s = false ∧ bt g s = false)) → ∃ z τ2, Md_wakesOn_10 K n g w nx (nI (s + 1)) τ1 = Md_wakesOn_71 K g w z τ2 ∧ lM τ τ2 ∧ ∀ i, i < 32 → (bt z i = true ↔ bt nx i = true ∨ (s ≤ i ∧ i < P ∧ bt w i = false ∧ ∃ q, bt w q = true ∧ edM τ P snd g i q = true)) := by
      intro hn2
      obtain ⟨z, τ2, q1, q2, q3⟩ := ih (s + 1) n nx τ1 (by omega) (by omega) hl
      refine ⟨z, τ2, q1, q2, fun i hi => (q3 i hi).trans ⟨fun h => ?_, fun h => ?_⟩⟩
      · rcases h with h | ⟨h1, h2, h3⟩
        · exact Or.inl h
        · exact Or.inr ⟨by omega, h2, h3⟩
      · rcases h with h | ⟨h1, h2, h3, q, h4, h5⟩
        · exact Or.inl h
        · by_cases e : i = s
          · subst e
            obtain ⟨-, -, e1, e2, -⟩ := edM_iff.mp h5
            exact absurd ⟨e1, h3, e2⟩ hn2
          · exact Or.inr ⟨by omega, h2, h3, q, h4, h5⟩
    by_cases hd : τ 135 s = 2
    · have hd2 : τ1 135 s = nI 2 := by rw [t135]; exact hd
      cases hw : bt w s with
      | true =>
        obtain ⟨z, τ2, q1, q2, q3⟩ := skip (fun h => by rw [hw] at h; cases h.2.1)
        refine ⟨z, τ2, ?_, q2, q3⟩
        simp (disch := omega) only [Md_wakesOn_10, Md_wakesOn_10_B, Md_wakesOn_69, Md_has_v, hw, hd2, h0', bI_t, show ¬ ((1 : Int32) = 0) by decide, z_c0, z_c1, nI_leI, nI_ltI, nI_eq, ix_n, cl_n, nI_add, pk_mul, nI_1, n_lt0, n_0le, n_le0, n_0lt, n_eq0, n_1le, n_le1, n_lt1, n_1lt, n_eq1, n_m1, n_m1a, L_2, L_3, L_4, L_5, L_6, L_7, L_8, L_9, L_10, L_11, L_12, L_14, L_15, L_16, L_17, L_18, L_20, L_21, L_24, L_26, L_30, L_32, L_34, L_35, L_36, L_37, L_38, L_39, L_40, L_41, L_42, L_43, L_44, L_45, L_46, L_47, L_48, L_57, L_59, L_60, L_61, L_62, L_64, L_65, L_68, L_76, L_80, L_84, L_90, L_92, L_96, L_97, L_98, L_99, L_100, L_104, L_122, L_139, L_140, L_162, L_163, L_164, L_200, L_241, L_255, L_256, L_280, L_284, L_300, L_301, L_303, L_309, L_360, L_400, L_401, L_402, L_403, L_404, L_405, L_406, L_407, L_408, L_999, L_1600, L_3120, L_8596, L_8880, L_9999, L_10000, L_30211, L_99999, L_1000000, c1, c2, w_bd, w_ck, bI_0, bI_1, bI_bo, bo_0, bo_1, decide_true, decide_false, if_true, if_false, ite_true, ite_false, not_true_eq_false, not_false_eq_true, Bool.true_eq_false, Bool.false_eq_true]
        exact q1
      | false =>
        cases hg : bt g s with
        | true =>
          obtain ⟨z, τ2, q1, q2, q3⟩ := skip (fun h => by rw [hg] at h; cases h.2.2)
          refine ⟨z, τ2, ?_, q2, q3⟩
          simp (disch := omega) only [Md_wakesOn_10, Md_wakesOn_10_B, Md_wakesOn_69, Md_has_v, hw, hg, hd2, h0', bI_t, bI_f, show ¬ ((1 : Int32) = 0) by decide, z_c0, z_c1, nI_leI, nI_ltI, nI_eq, ix_n, cl_n, nI_add, pk_mul, nI_1, n_lt0, n_0le, n_le0, n_0lt, n_eq0, n_1le, n_le1, n_lt1, n_1lt, n_eq1, n_m1, n_m1a, L_2, L_3, L_4, L_5, L_6, L_7, L_8, L_9, L_10, L_11, L_12, L_14, L_15, L_16, L_17, L_18, L_20, L_21, L_24, L_26, L_30, L_32, L_34, L_35, L_36, L_37, L_38, L_39, L_40, L_41, L_42, L_43, L_44, L_45, L_46, L_47, L_48, L_57, L_59, L_60, L_61, L_62, L_64, L_65, L_68, L_76, L_80, L_84, L_90, L_92, L_96, L_97, L_98, L_99, L_100, L_104, L_122, L_139, L_140, L_162, L_163, L_164, L_200, L_241, L_255, L_256, L_280, L_284, L_300, L_301, L_303, L_309, L_360, L_400, L_401, L_402, L_403, L_404, L_405, L_406, L_407, L_408, L_999, L_1600, L_3120, L_8596, L_8880, L_9999, L_10000, L_30211, L_99999, L_1000000, c1, c2, w_bd, w_ck, bI_0, bI_1, bI_bo, bo_0, bo_1, decide_true, decide_false, if_true, if_false, ite_true, ite_false, not_true_eq_false, not_false_eq_true, Bool.true_eq_false, Bool.false_eq_true]
          exact q1
        | false =>
          obtain ⟨τ2, q1, q2⟩ := wo_in (K := Md_wakesOn_69 (Md_wakesOn_10 K n)) hP (show s < P by omega) h0 (hS s (by omega) hd) (g := g) (w := w) P 0 z_FU nx τ1 (by omega) (Nat.lt_of_le_of_lt hP (Nat.lt_of_lt_of_le (by decide) z_FU_ge)) hl
          obtain ⟨z, τ3, y1, y2, y3⟩ := ih (s + 1) n (match anF (fun q => bt w q && (bt (τ 110 (34 + s)) q && decide (nI (snd s) < τ 110 (18 + q)))) 0 P with | true => nx ||| ((1 : Int32) <<< (nI s &&& 31)) | false => nx) τ2 (by omega) (by omega) q2
          refine ⟨z, τ3, ?_, y2, fun i hi => (y3 i hi).trans ?_⟩
          · simp (disch := omega) only [Md_wakesOn_10, Md_wakesOn_10_B, Md_has_v, hw, hg, hd2, h0', bI_f, z_c0, z_c1, nI_leI, nI_ltI, nI_eq, ix_n, cl_n, nI_add, pk_mul, nI_1, n_lt0, n_0le, n_le0, n_0lt, n_eq0, n_1le, n_le1, n_lt1, n_1lt, n_eq1, n_m1, n_m1a, L_2, L_3, L_4, L_5, L_6, L_7, L_8, L_9, L_10, L_11, L_12, L_14, L_15, L_16, L_17, L_18, L_20, L_21, L_24, L_26, L_30, L_32, L_34, L_35, L_36, L_37, L_38, L_39, L_40, L_41, L_42, L_43, L_44, L_45, L_46, L_47, L_48, L_57, L_59, L_60, L_61, L_62, L_64, L_65, L_68, L_76, L_80, L_84, L_90, L_92, L_96, L_97, L_98, L_99, L_100, L_104, L_122, L_139, L_140, L_162, L_163, L_164, L_200, L_241, L_255, L_256, L_280, L_284, L_300, L_301, L_303, L_309, L_360, L_400, L_401, L_402, L_403, L_404, L_405, L_406, L_407, L_408, L_999, L_1600, L_3120, L_8596, L_8880, L_9999, L_10000, L_30211, L_99999, L_1000000, c1, c2, w_bd, w_ck, bI_0, bI_1, bI_bo, bo_0, bo_1, decide_true, decide_false, if_true, if_false, ite_true, ite_false, not_true_eq_false, not_false_eq_true, Bool.true_eq_false, Bool.false_eq_true]
            refine q1.trans ?_
            rw [Md_wakesOn_69, nI_1]
            exact y1
          · cases ha : anF (fun q => bt w q && (bt (τ 110 (34 + s)) q && decide (nI (snd s) < τ 110 (18 + q)))) 0 P with
            | true =>
              obtain ⟨q, a1, a2, a3⟩ := anF_iff.mp ha
              simp only [Bool.and_eq_true, decide_eq_true_eq] at a3
              constructor
              · rintro (h | ⟨h1, h2, h3⟩)
                · rcases or_bit (show s < 32 by omega) hi h with h | h
                  · exact Or.inl h
                  · subst h
                    exact Or.inr ⟨by omega, by omega, hw, q, a3.1, edM_iff.mpr ⟨by omega, by omega, hd, hg, a3.2.1, a3.2.2⟩⟩
                · exact Or.inr ⟨by omega, h2, h3⟩
              · rintro (h | ⟨h1, h2, h3⟩)
                · exact Or.inl (sub_or _ _ i hi h)
                · by_cases e : i = s
                  · subst e
                    refine Or.inl ?_
                    show bt (nx ||| ((1 : Int32) <<< (nI i &&& 31))) i = true
                    rw [b_or, b_bit hi hi, decide_eq_true rfl, Bool.or_true]
                  · exact Or.inr ⟨by omega, h2, h3⟩
            | false =>
              constructor
              · rintro (h | ⟨h1, h2, h3⟩)
                · exact Or.inl h
                · exact Or.inr ⟨by omega, h2, h3⟩
              · rintro (h | ⟨h1, h2, h3, q, h4, h5⟩)
                · exact Or.inl h
                · by_cases e : i = s
                  · subst e
                    obtain ⟨-, e0, -, -, e1, e2⟩ := edM_iff.mp h5
                    have : anF (fun q => bt w q && (bt (τ 110 (34 + i)) q && decide (nI (snd i) < τ 110 (18 + q)))) 0 P = true := anF_iff.mpr ⟨q, by omega, by omega, by simp only [h4, e1, e2, decide_true, Bool.and_self]⟩
                    rw [ha] at this; cases this
                  · exact Or.inr ⟨by omega, h2, h3, q, h4, h5⟩
    · obtain ⟨z, τ2, q1, q2, q3⟩ := skip (fun h => hd h.1)
      refine ⟨z, τ2, ?_, q2, q3⟩
      have hd2 : ¬ τ1 135 s = nI 2 := by rw [t135]; exact hd
      simp (disch := omega) only [Md_wakesOn_10, Md_wakesOn_10_B, Md_wakesOn_69, hd2, h0', z_c0, z_c1, nI_leI, nI_ltI, nI_eq, ix_n, cl_n, nI_add, pk_mul, nI_1, n_lt0, n_0le, n_le0, n_0lt, n_eq0, n_1le, n_le1, n_lt1, n_1lt, n_eq1, n_m1, n_m1a, L_2, L_3, L_4, L_5, L_6, L_7, L_8, L_9, L_10, L_11, L_12, L_14, L_15, L_16, L_17, L_18, L_20, L_21, L_24, L_26, L_30, L_32, L_34, L_35, L_36, L_37, L_38, L_39, L_40, L_41, L_42, L_43, L_44, L_45, L_46, L_47, L_48, L_57, L_59, L_60, L_61, L_62, L_64, L_65, L_68, L_76, L_80, L_84, L_90, L_92, L_96, L_97, L_98, L_99, L_100, L_104, L_122, L_139, L_140, L_162, L_163, L_164, L_200, L_241, L_255, L_256, L_280, L_284, L_300, L_301, L_303, L_309, L_360, L_400, L_401, L_402, L_403, L_404, L_405, L_406, L_407, L_408, L_999, L_1600, L_3120, L_8596, L_8880, L_9999, L_10000, L_30211, L_99999, L_1000000, c1, c2, w_bd, w_ck, bI_0, bI_1, bI_bo, bo_0, bo_1, decide_true, decide_false, if_true, if_false, ite_true, ite_false, not_true_eq_false, not_false_eq_true, Bool.true_eq_false, Bool.false_eq_true]
      exact q1
theorem wo_L {P : Nat} {snd : Nat → Nat} (hP : P ≤ 8) {τ : gx_R} (h0 : τ 110 0 = nI P) (hS : ∀ s, s < P → τ 135 s = 2 → ∀ τ1, lM τ τ1 → ∃ τ2, Md_soundOf (nI s) τ1 = some (nI (snd s), τ2) ∧ lM τ1 τ2) {g f : Int32} : ∀ m n w τ1, 8 ≤ cn (bt w) 8 + m → m + 1 < n → lM τ τ1 → (∀ i, i < 32 → bt w i = true → i < 8) → sub f w → (∀ y, sub f y → clos (edM τ P snd g) y → sub w y) → ∃ x τ2, Md_wakesOn_4 n g w 1 τ1 = some (x, τ2) ∧ lM τ τ2 ∧ Lst (edM τ P snd g) f x := by
  intro m
  induction m with
  | zero =>
    intro n w τ1 hc hn hl w8 h1 h2
    obtain ⟨n, rfl⟩ : ∃ q, n = q + 1 := ⟨n - 1, by omega⟩
    obtain ⟨z, τ2, q1, q2, q3⟩ := wo_mid hP h0 hS (K := Md_wakesOn_4 n) (g := g) (w := w) P 0 z_FU w τ1 (by omega) (Nat.lt_of_le_of_lt hP (Nat.lt_of_lt_of_le (by decide) z_FU_ge)) hl
    have hall : ∀ i, i < 8 → bt w i = true := by
      intro i hi
      cases hb : bt w i with
      | true => rfl
      | false =>
        have : cn (bt w) 8 < cn (fun _ => true) 8 := cn_lt 8 (fun _ _ _ => rfl) ⟨i, hi, hb, rfl⟩
        have := cn_le (fun _ => true) 8
        omega
    have hz : z = w := sub_eq (fun i hi hb => by
      rcases (q3 i hi).mp hb with h | ⟨-, h, h3, -⟩
      · exact h
      · rw [hall i (by omega)] at h3; cases h3) (fun i hi hb => (q3 i hi).mpr (Or.inl hb))
    refine ⟨w, τ2, ?_, q2, h1, fun s q hs _ _ _ => hall s hs, h2⟩
    obtain ⟨k, rfl⟩ : ∃ k, n = k + 1 := ⟨n - 1, by omega⟩
    rw [Md_wakesOn_4, Md_wakesOn_4_B, if_neg (by decide)]
    refine q1.trans ?_
    rw [hz, Md_wakesOn_71, if_pos rfl, Md_wakesOn_77, Md_wakesOn_4, Md_wakesOn_4_B, if_pos rfl]
  | succ m ih =>
    intro n w τ1 hc hn hl w8 h1 h2
    obtain ⟨n, rfl⟩ : ∃ q, n = q + 1 := ⟨n - 1, by omega⟩
    obtain ⟨z, τ2, q1, q2, q3⟩ := wo_mid hP h0 hS (K := Md_wakesOn_4 n) (g := g) (w := w) P 0 z_FU w τ1 (by omega) (Nat.lt_of_le_of_lt hP (Nat.lt_of_lt_of_le (by decide) z_FU_ge)) hl
    have hwz : sub w z := fun i hi hb => (q3 i hi).mpr (Or.inl hb)
    by_cases hz : z = w
    · refine ⟨w, τ2, ?_, q2, h1, fun s q hs hq he hb => ?_, h2⟩
      · obtain ⟨k, rfl⟩ : ∃ k, n = k + 1 := ⟨n - 1, by omega⟩
        rw [Md_wakesOn_4, Md_wakesOn_4_B, if_neg (by decide)]
        refine q1.trans ?_
        rw [hz, Md_wakesOn_71, if_pos rfl, Md_wakesOn_77, Md_wakesOn_4, Md_wakesOn_4_B, if_pos rfl]
      · cases hws : bt w s with
        | true => rfl
        | false =>
          have : bt z s = true := (q3 s (by omega)).mpr (Or.inr ⟨by omega, (edM_iff.mp he).1, hws, q, hb, he⟩)
          rw [hz, hws] at this; cases this
    · have hcz : cn (bt w) 8 < cn (bt z) 8 := by
        refine cn_lt 8 (fun i hi => hwz i (by omega)) ?_
        rcases Classical.em (∃ i, i < 8 ∧ bt w i = false ∧ bt z i = true) with h | h
        · exact h
        · refine absurd (sub_eq (fun i hi hb => ?_) hwz) hz
          rcases (q3 i hi).mp hb with h3 | ⟨-, h3, h4, -⟩
          · exact h3
          · exact absurd ⟨i, by omega, h4, hb⟩ h
      obtain ⟨x, τ3, y1, y2, y3⟩ := ih n z τ2 (by omega) (by omega) q2 (fun i hi hb => by
        rcases (q3 i hi).mp hb with h3 | ⟨-, h3, -⟩
        · exact w8 i hi h3
        · omega) (sub_tr h1 hwz) (fun y z1 z2 i hi hb => by
        rcases (q3 i hi).mp hb with h3 | ⟨-, h3, -, q, h4, h5⟩
        · exact h2 y z1 z2 i hi h3
        · have h6 := (edM_iff.mp h5).2.1
          exact z2 i q (by omega) (by omega) h5 (h2 y z1 z2 q (by omega) h4))
      refine ⟨x, τ3, ?_, y2, y3⟩
      rw [Md_wakesOn_4, Md_wakesOn_4_B, if_neg (by decide)]
      refine q1.trans ?_
      rw [Md_wakesOn_71, if_neg hz, Md_wakesOn_77]
      exact y1
theorem wakesOn_v {P : Nat} {snd : Nat → Nat} (hP : P ≤ 8) {τ : gx_R} (h0 : τ 110 0 = nI P) (hS : ∀ s, s < P → τ 135 s = 2 → ∀ τ1, lM τ τ1 → ∃ τ2, Md_soundOf (nI s) τ1 = some (nI (snd s), τ2) ∧ lM τ1 τ2) (g : Int32) {f : Int32} (hf : ∀ i, i < 32 → bt f i = true → i < 8) {τ1 : gx_R} (hl : lM τ τ1) : ∃ x τ2, Md_wakesOn f g τ1 = some (x, τ2) ∧ lM τ τ2 ∧ Lst (edM τ P snd g) f x :=
  wo_L hP h0 hS 8 z_FU f τ1 (by omega) (Nat.lt_of_lt_of_le (by decide) z_FU_ge) hl hf (sub_rf f) (fun y h _ => h)
/-! the reference's noise -/
def nzM (τ : gx_R) (s v q : Nat) : Bool := bt (τ 109 50) q && (bt (τ 110 (34 + s)) q && decide (nI v < τ 110 (48 + (τ 136 q).toNatClampNeg)))
theorem rn_in {K : Int32 → Int32 → gx_R → Option (Int32 × gx_R)} {P W s v : Nat} (hP : P ≤ 8) (hs : s < P) (hW : W ≤ 6) {τ : gx_R} (h0 : τ 110 0 = nI P) (hw : ∀ q, q < 32 → bt (τ 109 50) q = true → ∃ w, w < W ∧ τ 136 q = nI w) (hS : ∀ τ1, lM τ τ1 → ∃ τ2, Md_soundOf (nI s) τ1 = some (nI v, τ2) ∧ lM τ1 τ2) : ∀ m p n nx τ1, p + m = P → m < n → lM τ τ1 → ∃ τ2, Md_wokenByNoise_18 K n nx (nI s) (nI p) τ1 = K (match anF (nzM τ s v) p m with | true => nx ||| ((1 : Int32) <<< (nI s &&& 31)) | false => nx) (nI s) τ2 ∧ lM τ τ2 := by
  intro m
  induction m with
  | zero =>
    intro p n nx τ1 hp hn hl
    obtain ⟨n, rfl⟩ : ∃ q, n = q + 1 := ⟨n - 1, by omega⟩
    obtain rfl : p = P := by omega
    have h0' : τ1 110 0 = nI p := by rw [hl 110 (by omega) (by omega)]; exact h0
    refine ⟨τ1, ?_, hl⟩
    simp (disch := omega) only [Md_wokenByNoise_18, Md_wokenByNoise_18_B, h0', z_c0, z_c1, nI_leI, nI_ltI, nI_eq, ix_n, cl_n, nI_add, pk_mul, nI_1, n_lt0, n_0le, n_le0, n_0lt, n_eq0, n_1le, n_le1, n_lt1, n_1lt, n_eq1, n_m1, n_m1a, L_2, L_3, L_4, L_5, L_6, L_7, L_8, L_9, L_10, L_11, L_12, L_14, L_15, L_16, L_17, L_18, L_20, L_21, L_24, L_26, L_30, L_32, L_34, L_35, L_36, L_37, L_38, L_39, L_40, L_41, L_42, L_43, L_44, L_45, L_46, L_47, L_48, L_57, L_59, L_60, L_61, L_62, L_64, L_65, L_68, L_76, L_80, L_84, L_90, L_92, L_96, L_97, L_98, L_99, L_100, L_104, L_122, L_139, L_140, L_162, L_163, L_164, L_200, L_241, L_255, L_256, L_280, L_284, L_300, L_301, L_303, L_309, L_360, L_400, L_401, L_402, L_403, L_404, L_405, L_406, L_407, L_408, L_999, L_1600, L_3120, L_8596, L_8880, L_9999, L_10000, L_30211, L_99999, L_1000000, Nat.le_refl, anF, w_bd, w_ck, bI_0, bI_1, bI_bo, bo_0, bo_1, decide_true, decide_false, if_true, if_false, ite_true, ite_false, not_true_eq_false, not_false_eq_true, Bool.true_eq_false, Bool.false_eq_true]
  | succ m ih =>
    intro p n nx τ1 hp hn hl
    obtain ⟨n, rfl⟩ : ∃ q, n = q + 1 := ⟨n - 1, by omega⟩
    have h0' : τ1 110 0 = nI P := by rw [hl 110 (by omega) (by omega)]; exact h0
    have t110 : τ1 110 = τ 110 := hl 110 (by omega) (by omega)
    have t109 : τ1 109 = τ 109 := hl 109 (by omega) (by omega)
    have t136 : τ1 136 = τ 136 := hl 136 (by omega) (by omega)
    have c1 : ¬ P ≤ p := by omega
    have c2 : 34 + s < 8880 := by omega
    have c4 : p < 8 := by omega
    rw [anF]
    cases h1 : bt (τ 109 50) p with
    | false =>
      obtain ⟨τ2, q1, q2⟩ := ih (p + 1) n nx τ1 (by omega) (by omega) hl
      have hz : nzM τ s v p = false := by unfold nzM; rw [h1, Bool.false_and]
      refine ⟨τ2, ?_, q2⟩
      simp (disch := omega) only [Md_wokenByNoise_18, Md_wokenByNoise_18_B, Md_wokenByNoise_57, Md_has_v, t109, h1, hz, h0', bI_f, Bool.false_or, z_c0, z_c1, nI_leI, nI_ltI, nI_eq, ix_n, cl_n, nI_add, pk_mul, nI_1, n_lt0, n_0le, n_le0, n_0lt, n_eq0, n_1le, n_le1, n_lt1, n_1lt, n_eq1, n_m1, n_m1a, L_2, L_3, L_4, L_5, L_6, L_7, L_8, L_9, L_10, L_11, L_12, L_14, L_15, L_16, L_17, L_18, L_20, L_21, L_24, L_26, L_30, L_32, L_34, L_35, L_36, L_37, L_38, L_39, L_40, L_41, L_42, L_43, L_44, L_45, L_46, L_47, L_48, L_57, L_59, L_60, L_61, L_62, L_64, L_65, L_68, L_76, L_80, L_84, L_90, L_92, L_96, L_97, L_98, L_99, L_100, L_104, L_122, L_139, L_140, L_162, L_163, L_164, L_200, L_241, L_255, L_256, L_280, L_284, L_300, L_301, L_303, L_309, L_360, L_400, L_401, L_402, L_403, L_404, L_405, L_406, L_407, L_408, L_999, L_1600, L_3120, L_8596, L_8880, L_9999, L_10000, L_30211, L_99999, L_1000000, c1, w_bd, w_ck, bI_0, bI_1, bI_bo, bo_0, bo_1, decide_true, decide_false, if_true, if_false, ite_true, ite_false, not_true_eq_false, not_false_eq_true, Bool.true_eq_false, Bool.false_eq_true]
      exact q1
    | true =>
      cases h2 : bt (τ 110 (34 + s)) p with
      | false =>
        obtain ⟨τ2, q1, q2⟩ := ih (p + 1) n nx τ1 (by omega) (by omega) hl
        have hz : nzM τ s v p = false := by unfold nzM; rw [h2, Bool.false_and, Bool.and_false]
        refine ⟨τ2, ?_, q2⟩
        simp (disch := omega) only [Md_wokenByNoise_18, Md_wokenByNoise_18_B, Md_wokenByNoise_57, Md_has_v, t109, h1, h2, hz, t110, h0', h0, bI_f, bI_t, show ¬ ((1 : Int32) = 0) by decide, Bool.false_or, z_c0, z_c1, nI_leI, nI_ltI, nI_eq, ix_n, cl_n, nI_add, pk_mul, nI_1, n_lt0, n_0le, n_le0, n_0lt, n_eq0, n_1le, n_le1, n_lt1, n_1lt, n_eq1, n_m1, n_m1a, L_2, L_3, L_4, L_5, L_6, L_7, L_8, L_9, L_10, L_11, L_12, L_14, L_15, L_16, L_17, L_18, L_20, L_21, L_24, L_26, L_30, L_32, L_34, L_35, L_36, L_37, L_38, L_39, L_40, L_41, L_42, L_43, L_44, L_45, L_46, L_47, L_48, L_57, L_59, L_60, L_61, L_62, L_64, L_65, L_68, L_76, L_80, L_84, L_90, L_92, L_96, L_97, L_98, L_99, L_100, L_104, L_122, L_139, L_140, L_162, L_163, L_164, L_200, L_241, L_255, L_256, L_280, L_284, L_300, L_301, L_303, L_309, L_360, L_400, L_401, L_402, L_403, L_404, L_405, L_406, L_407, L_408, L_999, L_1600, L_3120, L_8596, L_8880, L_9999, L_10000, L_30211, L_99999, L_1000000, c1, c2, w_bd, w_ck, bI_0, bI_1, bI_bo, bo_0, bo_1, decide_true, decide_false, if_true, if_false, ite_true, ite_false, not_true_eq_false, not_false_eq_true, Bool.true_eq_false, Bool.false_eq_true]
        exact q1
      | true =>
        obtain ⟨τ2, s1, s2⟩ := hS τ1 hl
        obtain ⟨w, w1, w2⟩ := hw p (by omega) h1
        have c3 : 48 + w < 8880 := by omega
        by_cases h3 : τ 110 (48 + w) ≤ nI v
        · obtain ⟨τ3, q1, q2⟩ := ih (p + 1) n nx τ2 (by omega) (by omega) (lM_tr hl s2)
          have hz : nzM τ s v p = false := by unfold nzM; rw [w2, cl_n (by omega), decide_eq_false (Int32.not_lt.mpr h3), Bool.and_false, Bool.and_false]
          refine ⟨τ3, ?_, q2⟩
          simp (disch := omega) only [Md_wokenByNoise_18, Md_wokenByNoise_18_B, Md_wokenByNoise_57, Md_has_v, t109, h1, h2, h3, hz, s1, t110, t136, w2, h0', h0, bI_t, show ¬ ((1 : Int32) = 0) by decide, Bool.false_or, z_c0, z_c1, nI_leI, nI_ltI, nI_eq, ix_n, cl_n, nI_add, pk_mul, nI_1, n_lt0, n_0le, n_le0, n_0lt, n_eq0, n_1le, n_le1, n_lt1, n_1lt, n_eq1, n_m1, n_m1a, L_2, L_3, L_4, L_5, L_6, L_7, L_8, L_9, L_10, L_11, L_12, L_14, L_15, L_16, L_17, L_18, L_20, L_21, L_24, L_26, L_30, L_32, L_34, L_35, L_36, L_37, L_38, L_39, L_40, L_41, L_42, L_43, L_44, L_45, L_46, L_47, L_48, L_57, L_59, L_60, L_61, L_62, L_64, L_65, L_68, L_76, L_80, L_84, L_90, L_92, L_96, L_97, L_98, L_99, L_100, L_104, L_122, L_139, L_140, L_162, L_163, L_164, L_200, L_241, L_255, L_256, L_280, L_284, L_300, L_301, L_303, L_309, L_360, L_400, L_401, L_402, L_403, L_404, L_405, L_406, L_407, L_408, L_999, L_1600, L_3120, L_8596, L_8880, L_9999, L_10000, L_30211, L_99999, L_1000000, c1, c2, c3, c4, w_bd, w_ck, bI_0, bI_1, bI_bo, bo_0, bo_1, decide_true, decide_false, if_true, if_false, ite_true, ite_false, not_true_eq_false, not_false_eq_true, Bool.true_eq_false, Bool.false_eq_true]
          exact q1
        · obtain ⟨τ3, q1, q2⟩ := ih (p + 1) n (nx ||| ((1 : Int32) <<< (nI s &&& 31))) τ2 (by omega) (by omega) (lM_tr hl s2)
          have hz : nzM τ s v p = true := by unfold nzM; rw [w2, cl_n (by omega), decide_eq_true (Int32.not_le.mp h3), h1, h2]; rfl
          refine ⟨τ3, ?_, q2⟩
          simp (disch := omega) only [Md_wokenByNoise_18, Md_wokenByNoise_18_B, Md_wokenByNoise_57, Md_has_v, t109, h1, h2, h3, hz, s1, t110, t136, w2, h0', h0, bI_t, show ¬ ((1 : Int32) = 0) by decide, Bool.true_or, z_c0, z_c1, nI_leI, nI_ltI, nI_eq, ix_n, cl_n, nI_add, pk_mul, nI_1, n_lt0, n_0le, n_le0, n_0lt, n_eq0, n_1le, n_le1, n_lt1, n_1lt, n_eq1, n_m1, n_m1a, L_2, L_3, L_4, L_5, L_6, L_7, L_8, L_9, L_10, L_11, L_12, L_14, L_15, L_16, L_17, L_18, L_20, L_21, L_24, L_26, L_30, L_32, L_34, L_35, L_36, L_37, L_38, L_39, L_40, L_41, L_42, L_43, L_44, L_45, L_46, L_47, L_48, L_57, L_59, L_60, L_61, L_62, L_64, L_65, L_68, L_76, L_80, L_84, L_90, L_92, L_96, L_97, L_98, L_99, L_100, L_104, L_122, L_139, L_140, L_162, L_163, L_164, L_200, L_241, L_255, L_256, L_280, L_284, L_300, L_301, L_303, L_309, L_360, L_400, L_401, L_402, L_403, L_404, L_405, L_406, L_407, L_408, L_999, L_1600, L_3120, L_8596, L_8880, L_9999, L_10000, L_30211, L_99999, L_1000000, c1, c2, c3, c4, w_bd, w_ck, bI_0, bI_1, bI_bo, bo_0, bo_1, decide_true, decide_false, if_true, if_false, ite_true, ite_false, not_true_eq_false, not_false_eq_true, Bool.true_eq_false, Bool.false_eq_true]
          rw [q1]
          have e : nx ||| ((1 : Int32) <<< (nI s &&& 31)) ||| ((1 : Int32) <<< (nI s &&& 31)) = nx ||| ((1 : Int32) <<< (nI s &&& 31)) := b_ext (fun i hi => by rw [b_or, b_or, Bool.or_assoc, Bool.or_self])
          split <;> simp only [e]
theorem rn_L {P W : Nat} {snd : Nat → Nat} (hP : P ≤ 8) (hW : W ≤ 6) {τ : gx_R} (h0 : τ 110 0 = nI P) (hw : ∀ q, q < 32 → bt (τ 109 50) q = true → ∃ w, w < W ∧ τ 136 q = nI w) (hS : ∀ s, s < P → τ 135 s = 2 → ∀ τ1, lM τ τ1 → ∃ τ2, Md_soundOf (nI s) τ1 = some (nI (snd s), τ2) ∧ lM τ1 τ2) : ∀ m s n τ1, s + m = P → m < n → lM τ τ1 → ∃ τ2, Md_wokenByNoise_4 n (mk (fun p => decide (τ 135 p = 2) && anF (nzM τ p (snd p)) 0 P) s) (nI s) τ1 = some (mk (fun p => decide (τ 135 p = 2) && anF (nzM τ p (snd p)) 0 P) P, τ2) ∧ lM τ τ2 := by
  intro m
  induction m with
  | zero =>
    intro s n τ1 hs hn hl
    obtain ⟨n, rfl⟩ : ∃ q, n = q + 1 := ⟨n - 1, by omega⟩
    obtain rfl : s = P := by omega
    have h0' : τ1 110 0 = nI s := by rw [hl 110 (by omega) (by omega)]; exact h0
    refine ⟨τ1, ?_, hl⟩
    simp (disch := omega) only [Md_wokenByNoise_4, Md_wokenByNoise_4_B, h0', z_c0, z_c1, nI_leI, nI_ltI, nI_eq, ix_n, cl_n, nI_add, pk_mul, nI_1, n_lt0, n_0le, n_le0, n_0lt, n_eq0, n_1le, n_le1, n_lt1, n_1lt, n_eq1, n_m1, n_m1a, L_2, L_3, L_4, L_5, L_6, L_7, L_8, L_9, L_10, L_11, L_12, L_14, L_15, L_16, L_17, L_18, L_20, L_21, L_24, L_26, L_30, L_32, L_34, L_35, L_36, L_37, L_38, L_39, L_40, L_41, L_42, L_43, L_44, L_45, L_46, L_47, L_48, L_57, L_59, L_60, L_61, L_62, L_64, L_65, L_68, L_76, L_80, L_84, L_90, L_92, L_96, L_97, L_98, L_99, L_100, L_104, L_122, L_139, L_140, L_162, L_163, L_164, L_200, L_241, L_255, L_256, L_280, L_284, L_300, L_301, L_303, L_309, L_360, L_400, L_401, L_402, L_403, L_404, L_405, L_406, L_407, L_408, L_999, L_1600, L_3120, L_8596, L_8880, L_9999, L_10000, L_30211, L_99999, L_1000000, Nat.le_refl, w_bd, w_ck, bI_0, bI_1, bI_bo, bo_0, bo_1, decide_true, decide_false, if_true, if_false, ite_true, ite_false, not_true_eq_false, not_false_eq_true, Bool.true_eq_false, Bool.false_eq_true]
  | succ m ih =>
    intro s n τ1 hs hn hl
    obtain ⟨n, rfl⟩ : ∃ q, n = q + 1 := ⟨n - 1, by omega⟩
    have h0' : τ1 110 0 = nI P := by rw [hl 110 (by omega) (by omega)]; exact h0
    have t135 : τ1 135 = τ 135 := hl 135 (by omega) (by omega)
    have c1 : ¬ P ≤ s := by omega
    have c2 : s < 8 := by omega
    by_cases hd : τ 135 s = 2
    · have hd2 : τ1 135 s = nI 2 := by rw [t135]; exact hd
      obtain ⟨τ2, q1, q2⟩ := rn_in (K := Md_wokenByNoise_59 (Md_wokenByNoise_4 n)) hP (show s < P by omega) hW h0 hw (hS s (by omega) hd) P 0 z_FU (mk (fun p => decide (τ 135 p = 2) && anF (nzM τ p (snd p)) 0 P) s) τ1 (by omega) (Nat.lt_of_le_of_lt hP (Nat.lt_of_lt_of_le (by decide) z_FU_ge)) hl
      obtain ⟨τ3, y1, y2⟩ := ih (s + 1) n τ2 (by omega) (by omega) q2
      refine ⟨τ3, ?_, y2⟩
      simp (disch := omega) only [Md_wokenByNoise_4, Md_wokenByNoise_4_B, hd2, h0', z_c0, z_c1, nI_leI, nI_ltI, nI_eq, ix_n, cl_n, nI_add, pk_mul, nI_1, n_lt0, n_0le, n_le0, n_0lt, n_eq0, n_1le, n_le1, n_lt1, n_1lt, n_eq1, n_m1, n_m1a, L_2, L_3, L_4, L_5, L_6, L_7, L_8, L_9, L_10, L_11, L_12, L_14, L_15, L_16, L_17, L_18, L_20, L_21, L_24, L_26, L_30, L_32, L_34, L_35, L_36, L_37, L_38, L_39, L_40, L_41, L_42, L_43, L_44, L_45, L_46, L_47, L_48, L_57, L_59, L_60, L_61, L_62, L_64, L_65, L_68, L_76, L_80, L_84, L_90, L_92, L_96, L_97, L_98, L_99, L_100, L_104, L_122, L_139, L_140, L_162, L_163, L_164, L_200, L_241, L_255, L_256, L_280, L_284, L_300, L_301, L_303, L_309, L_360, L_400, L_401, L_402, L_403, L_404, L_405, L_406, L_407, L_408, L_999, L_1600, L_3120, L_8596, L_8880, L_9999, L_10000, L_30211, L_99999, L_1000000, c1, c2, w_bd, w_ck, bI_0, bI_1, bI_bo, bo_0, bo_1, decide_true, decide_false, if_true, if_false, ite_true, ite_false, not_true_eq_false, not_false_eq_true, Bool.true_eq_false, Bool.false_eq_true]
      refine q1.trans ?_
      rw [Md_wokenByNoise_59, nI_1]
      cases ha : anF (nzM τ s (snd s)) 0 P with
      | true =>
        rw [mk_t (by rw [ha, decide_eq_true hd]; rfl)] at y1
        exact y1
      | false =>
        rw [mk_f (by rw [ha, Bool.and_false])] at y1
        exact y1
    · have hd2 : ¬ τ1 135 s = nI 2 := by rw [t135]; exact hd
      obtain ⟨τ3, y1, y2⟩ := ih (s + 1) n τ1 (by omega) (by omega) hl
      rw [mk_f (by rw [decide_eq_false hd, Bool.false_and])] at y1
      refine ⟨τ3, ?_, y2⟩
      simp (disch := omega) only [Md_wokenByNoise_4, Md_wokenByNoise_4_B, Md_wokenByNoise_59, hd2, h0', z_c0, z_c1, nI_leI, nI_ltI, nI_eq, ix_n, cl_n, nI_add, pk_mul, nI_1, n_lt0, n_0le, n_le0, n_0lt, n_eq0, n_1le, n_le1, n_lt1, n_1lt, n_eq1, n_m1, n_m1a, L_2, L_3, L_4, L_5, L_6, L_7, L_8, L_9, L_10, L_11, L_12, L_14, L_15, L_16, L_17, L_18, L_20, L_21, L_24, L_26, L_30, L_32, L_34, L_35, L_36, L_37, L_38, L_39, L_40, L_41, L_42, L_43, L_44, L_45, L_46, L_47, L_48, L_57, L_59, L_60, L_61, L_62, L_64, L_65, L_68, L_76, L_80, L_84, L_90, L_92, L_96, L_97, L_98, L_99, L_100, L_104, L_122, L_139, L_140, L_162, L_163, L_164, L_200, L_241, L_255, L_256, L_280, L_284, L_300, L_301, L_303, L_309, L_360, L_400, L_401, L_402, L_403, L_404, L_405, L_406, L_407, L_408, L_999, L_1600, L_3120, L_8596, L_8880, L_9999, L_10000, L_30211, L_99999, L_1000000, c1, c2, w_bd, w_ck, bI_0, bI_1, bI_bo, bo_0, bo_1, decide_true, decide_false, if_true, if_false, ite_true, ite_false, not_true_eq_false, not_false_eq_true, Bool.true_eq_false, Bool.false_eq_true]
      exact y1
