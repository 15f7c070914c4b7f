/-! ===== how sound they sleep, and who wakes whom ===== -/
/-- how sound each that is asleep sleeps: the same number wherever it is asked -/
def SndR (b : Nat) (σ τ : gx_R) (P : Nat) (snd : Nat → Nat) : Prop := ∀ p, p < P → σ (b + 1) p = 2 → snd p ≤ 99 ∧
  (∀ σ1, eC σ σ1 → ∃ σ2, La_soundOf (nI p) (σ (b + 3) p) (σ b 6) σ1 = some (nI (snd p), σ2) ∧ lC σ1 σ2) ∧
  (∀ τ1, eM τ τ1 → τ1 109 42 = τ 109 42 → τ1 137 p = τ 137 p → ∃ τ2, Md_soundOf (nI p) τ1 = some (nI (snd p), τ2) ∧ lM τ1 τ2)
theorem snd_ex {b P W T H : Nat} (hb : b = 9 ∨ b = 56) (hH : H ≤ 2000) {σ τ : gx_R} {nd : gx_F} (hE : EnvR σ τ P W T) (hN : NowR b σ τ nd P W H) : ∃ snd, SndR b σ τ P snd := by
  have hP := hE.1.1.1
  have : ∀ p : Nat, ∃ v : Nat, p < P → σ (b + 1) p = 2 → v ≤ 99 ∧
      (∀ σ1, eC σ σ1 → ∃ σ2, La_soundOf (nI p) (σ (b + 3) p) (σ b 6) σ1 = some (nI v, σ2) ∧ lC σ1 σ2) ∧
      (∀ τ1, eM τ τ1 → τ1 109 42 = τ 109 42 → τ1 137 p = τ 137 p → ∃ τ2, Md_soundOf (nI p) τ1 = some (nI v, τ2) ∧ lM τ1 τ2) := by
    intro p
    by_cases hp : p < P
    · obtain ⟨o, d, ho, hd, g1, g2⟩ := hN.2.2.2.2.2.2.2.2.1 p hp
      obtain ⟨i1, i2, i3⟩ := hN.2.2.2.2.2.1
      obtain ⟨e1, e2, e3⟩ := hN.1 p (by omega)
      have k42 : τ 109 42 = nI H := i1.trans i3
      have k137 : τ 137 p = nI o := e2.trans g1
      obtain ⟨v, σ0, τ0, h1, h2, h3, h4, h5⟩ := sound_v hE (p := p) (o := o) (H := H) hp (by omega) (by omega) k42 k137
      refine ⟨v, fun _ _ => ⟨h1, fun σ1 hc => ?_, fun τ1 hm t1 t2 => ?_⟩⟩
      · obtain ⟨v2, σ2, τ2, j1, j2, j3, j4, j5⟩ := sound_v (EnvR_fr hc (eM_rf τ) hE) (p := p) (o := o) (H := H) hp (by omega) (by omega) k42 k137
        rw [h3] at j3
        have : nI v = nI v2 := congrArg Prod.fst (Option.some.inj j3)
        rw [g1, i3, this]
        exact ⟨σ2, j2, j4⟩
      · obtain ⟨v2, σ2, τ2, j1, j2, j3, j4, j5⟩ := sound_v (EnvR_fr (eC_rf σ) hm hE) (p := p) (o := o) (H := H) hp (by omega) (by omega) (t1.trans k42) (t2.trans k137)
        rw [h2] at j2
        have : nI v = nI v2 := congrArg Prod.fst (Option.some.inj j2)
        rw [this]
        exact ⟨τ2, j3, j5⟩
    · exact ⟨0, fun h => absurd h hp⟩
  obtain ⟨f, hf⟩ := Classical.skolem.mp this
  exact ⟨f, hf⟩
theorem SndR_fr {b P : Nat} {σ τ σ' τ' : gx_R} {snd : Nat → Nat} (h : eC σ σ') (h1 : σ' (b + 1) = σ (b + 1)) (h2 : σ' (b + 3) = σ (b + 3)) (h3 : σ' b 6 = σ b 6) (h4 : eM τ τ') (h5 : τ' 109 42 = τ 109 42) (h6 : τ' 137 = τ 137) (r : SndR b σ τ P snd) : SndR b σ' τ' P snd := by
  intro p hp hs
  rw [h1] at hs
  obtain ⟨r1, r2, r3⟩ := r p hp hs
  refine ⟨r1, fun σ1 hc => ?_, fun τ1 hm t1 t2 => ?_⟩
  · rw [h2, h3]; exact r2 σ1 (eC_tr h hc)
  · exact r3 τ1 (eM_tr h4 hm) (t1.trans h5) (t2.trans (by rw [h6]))
/-- whose voices wake p, if it sleeps as sound as s -/
def ldB (σ : gx_R) (p s q : Nat) : Bool := bt (σ 6 p) q && decide (nI s < σ 4 q)
theorem lis_in {b p s : Nat} (hp : p < 8) : ∀ m q n (K : Nat → Int32 → gx_R → Option (Unit × gx_R)) (σ : gx_R), q + m = 8 → m < n → σ 54 p = nI s → ∃ σ', Cl_listen_33 (Cl_listen_69 K) n b (nI p) (nI q) σ = K b (nI (p + 1)) σ' ∧ (∀ c, c ≠ 55 → σ' c = σ c) ∧ (∀ j, j ≠ p → σ' 55 j = σ 55 j) ∧ ∀ i, i < 32 → bt (σ' 55 p) i = (bt (σ 55 p) i || (decide (q ≤ i ∧ i < 8) && ldB σ p s i)) := by
  intro m
  induction m with
  | zero =>
    intro q n K σ hq hn hs
    obtain ⟨n, rfl⟩ : ∃ q, n = q + 1 := ⟨n - 1, by omega⟩
    obtain rfl : q = 8 := by omega
    refine ⟨σ, ?_, fun _ _ => rfl, fun _ _ => rfl, fun i hi => ?_⟩
    · simp (disch := omega) only [Cl_listen_33, Cl_listen_33_B, Cl_listen_69, z_c0, z_c1, nI_leI, nI_ltI, nI_eq, ix_n, cl_n, nI_add, pk_mul, nI_1, n_lt0, n_0le, n_le0, n_0lt, n_eq0, n_1le, n_le1, n_lt1, n_1lt, n_eq1, n_m1, n_m1a, L_2, L_3, L_4, L_5, L_6, L_7, L_8, L_9, L_10, L_11, L_12, L_14, L_15, L_16, L_17, L_18, L_20, L_21, L_24, L_26, L_30, L_32, L_34, L_35, L_36, L_37, L_38, L_39, L_40, L_41, L_42, L_43, L_44, L_45, L_46, L_47, L_48, L_57, L_59, L_60, L_61, L_62, L_64, L_65, L_68, L_76, L_80, L_84, L_90, L_92, L_96, L_97, L_98, L_99, L_100, L_104, L_122, L_139, L_140, L_162, L_163, L_164, L_200, L_241, L_255, L_256, L_280, L_284, L_300, L_301, L_303, L_309, L_360, L_400, L_401, L_402, L_403, L_404, L_405, L_406, L_407, L_408, L_999, L_1600, L_3120, L_8596, L_8880, L_9999, L_10000, L_30211, L_99999, L_1000000, Nat.le_refl, w_bd, w_ck, bI_0, bI_1, bI_bo, bo_0, bo_1, decide_true, decide_false, if_true, if_false, ite_true, ite_false, not_true_eq_false, not_false_eq_true, Bool.true_eq_false, Bool.false_eq_true]
    · rw [decide_eq_false (by omega), Bool.false_and, Bool.or_false]
  | succ m ih =>
    intro q n K σ hq hn hs
    obtain ⟨n, rfl⟩ : ∃ q, n = q + 1 := ⟨n - 1, by omega⟩
    have c1 : ¬ 8 ≤ q := by omega
    have c2 : q < 8 := by omega
    cases hl : ldB σ p s q with
    | true =>
      obtain ⟨l1, l2⟩ := Bool.and_eq_true_iff.mp hl
      have l3 : ¬ σ 4 q ≤ nI s := Int32.not_le.mpr (of_decide_eq_true l2)
      obtain ⟨σ', q1, q2, q3, q4⟩ := ih (q + 1) n K (gx_up σ 55 p (σ 55 p ||| ((1 : Int32) <<< (nI q &&& 31)))) (by omega) (by omega) (by rw [gx_up_ne (by omega)]; exact hs)
      refine ⟨σ', ?_, fun c h => (q2 c h).trans (gx_up_ne h), fun j h => (q3 j h).trans (up_p _ _ _ h), fun i hi => ?_⟩
      · simp (disch := omega) only [Cl_listen_33, Cl_listen_33_B, Cl_listen_67, h_1, l1, hs, l3, z_c0, z_c1, nI_leI, nI_ltI, nI_eq, ix_n, cl_n, nI_add, pk_mul, nI_1, n_lt0, n_0le, n_le0, n_0lt, n_eq0, n_1le, n_le1, n_lt1, n_1lt, n_eq1, n_m1, n_m1a, L_2, L_3, L_4, L_5, L_6, L_7, L_8, L_9, L_10, L_11, L_12, L_14, L_15, L_16, L_17, L_18, L_20, L_21, L_24, L_26, L_30, L_32, L_34, L_35, L_36, L_37, L_38, L_39, L_40, L_41, L_42, L_43, L_44, L_45, L_46, L_47, L_48, L_57, L_59, L_60, L_61, L_62, L_64, L_65, L_68, L_76, L_80, L_84, L_90, L_92, L_96, L_97, L_98, L_99, L_100, L_104, L_122, L_139, L_140, L_162, L_163, L_164, L_200, L_241, L_255, L_256, L_280, L_284, L_300, L_301, L_303, L_309, L_360, L_400, L_401, L_402, L_403, L_404, L_405, L_406, L_407, L_408, L_999, L_1600, L_3120, L_8596, L_8880, L_9999, L_10000, L_30211, L_99999, L_1000000, hp, c1, c2, w_bd, w_ck, bI_0, bI_1, bI_bo, bo_0, bo_1, decide_true, decide_false, if_true, if_false, ite_true, ite_false, not_true_eq_false, not_false_eq_true, Bool.true_eq_false, Bool.false_eq_true]
        exact q1
      · rw [q4 i hi, up_e, b_or, b_bit (by omega) hi]
        have e : ldB (gx_up σ 55 p (σ 55 p ||| ((1 : Int32) <<< (nI q &&& 31)))) p s i = ldB σ p s i := by
          unfold ldB; rw [gx_up_ne (by omega), gx_up_ne (by omega)]
        rw [e]
        by_cases h : i = q
        · subst h
          rw [decide_eq_true rfl, decide_eq_true (show i ≤ i ∧ i < 8 by omega), hl]; simp
        · rw [decide_eq_false h, Bool.or_false]
          congr 2
          exact decide_eq_decide.mpr (by omega)
    | false =>
      obtain ⟨σ', q1, q2, q3, q4⟩ := ih (q + 1) n K σ (by omega) (by omega) hs
      refine ⟨σ', ?_, q2, q3, fun i hi => ?_⟩
      · simp (disch := omega) only [Cl_listen_33, Cl_listen_33_B, Cl_listen_67, h_1, hs, z_c0, z_c1, nI_leI, nI_ltI, nI_eq, ix_n, cl_n, nI_add, pk_mul, nI_1, n_lt0, n_0le, n_le0, n_0lt, n_eq0, n_1le, n_le1, n_lt1, n_1lt, n_eq1, n_m1, n_m1a, L_2, L_3, L_4, L_5, L_6, L_7, L_8, L_9, L_10, L_11, L_12, L_14, L_15, L_16, L_17, L_18, L_20, L_21, L_24, L_26, L_30, L_32, L_34, L_35, L_36, L_37, L_38, L_39, L_40, L_41, L_42, L_43, L_44, L_45, L_46, L_47, L_48, L_57, L_59, L_60, L_61, L_62, L_64, L_65, L_68, L_76, L_80, L_84, L_90, L_92, L_96, L_97, L_98, L_99, L_100, L_104, L_122, L_139, L_140, L_162, L_163, L_164, L_200, L_241, L_255, L_256, L_280, L_284, L_300, L_301, L_303, L_309, L_360, L_400, L_401, L_402, L_403, L_404, L_405, L_406, L_407, L_408, L_999, L_1600, L_3120, L_8596, L_8880, L_9999, L_10000, L_30211, L_99999, L_1000000, hp, c1, c2, w_bd, w_ck, bI_0, bI_1, bI_bo, bo_0, bo_1, decide_true, decide_false, if_true, if_false, ite_true, ite_false, not_true_eq_false, not_false_eq_true, Bool.true_eq_false, Bool.false_eq_true]
        rcases Bool.and_eq_false_iff.mp hl with l1 | l2
        · rw [if_neg (by rw [l1]; decide)]; exact q1
        · have l3 : σ 4 q ≤ nI s := Int32.not_lt.mp (of_decide_eq_false l2)
          by_cases l1 : bt (σ 6 p) q = true
          · rw [if_pos l1, if_pos l3]; exact q1
          · rw [if_neg l1]; exact q1
      · rw [q4 i hi]
        by_cases h : i = q
        · subst h
          rw [hl]; simp
        · congr 2
          exact decide_eq_decide.mpr (by omega)
/-- what listen lays down -/
def LisR (b : Nat) (σ : gx_R) (P : Nat) (snd : Nat → Nat) : Prop := ∀ p, p < P → σ (b + 1) p = 2 → σ 54 p = nI (snd p) ∧ ∀ i, i < 32 → bt (σ 55 p) i = (decide (i < 8) && ldB σ p (snd p) i)
theorem lis_t {b P : Nat} {σ : gx_R} (h : ∀ p, P ≤ p → p < 8 → σ (b + 1) p = 0) : ∀ m j n, j + m = 8 → P ≤ j → m < n → Cl_listen_2 n b (nI j) σ = some ((), σ) := by
  intro m
  induction m with
  | zero =>
    intro j n hj hP hn
    obtain ⟨n, rfl⟩ : ∃ q, n = q + 1 := ⟨n - 1, by omega⟩
    obtain rfl : j = 8 := by omega
    simp (disch := omega) only [Cl_listen_2, Cl_listen_2_B, z_c0, z_c1, nI_leI, nI_ltI, nI_eq, ix_n, cl_n, nI_add, pk_mul, nI_1, n_lt0, n_0le, n_le0, n_0lt, n_eq0, n_1le, n_le1, n_lt1, n_1lt, n_eq1, n_m1, n_m1a, L_2, L_3, L_4, L_5, L_6, L_7, L_8, L_9, L_10, L_11, L_12, L_14, L_15, L_16, L_17, L_18, L_20, L_21, L_24, L_26, L_30, L_32, L_34, L_35, L_36, L_37, L_38, L_39, L_40, L_41, L_42, L_43, L_44, L_45, L_46, L_47, L_48, L_57, L_59, L_60, L_61, L_62, L_64, L_65, L_68, L_76, L_80, L_84, L_90, L_92, L_96, L_97, L_98, L_99, L_100, L_104, L_122, L_139, L_140, L_162, L_163, L_164, L_200, L_241, L_255, L_256, L_280, L_284, L_300, L_301, L_303, L_309, L_360, L_400, L_401, L_402, L_403, L_404, L_405, L_406, L_407, L_408, L_999, L_1600, L_3120, L_8596, L_8880, L_9999, L_10000, L_30211, L_99999, L_1000000, Nat.le_refl, w_bd, w_ck, bI_0, bI_1, bI_bo, bo_0, bo_1, decide_true, decide_false, if_true, if_false, ite_true, ite_false, not_true_eq_false, not_false_eq_true, Bool.true_eq_false, Bool.false_eq_true]
  | succ m ih =>
    intro j n hj hP hn
    obtain ⟨n, rfl⟩ : ∃ q, n = q + 1 := ⟨n - 1, by omega⟩
    have c1 : ¬ 8 ≤ j := by omega
    have c2 : j < 8 := by omega
    simp +decide (disch := omega) only [Cl_listen_2, Cl_listen_2_B, Cl_listen_69, h j hP c2, L_8, nI_leI, ix_n, cl_n, nI_1, c1, c2, w_bd, w_ck, bI_0, bI_1, bI_bo, bo_0, bo_1, decide_true, decide_false, if_true, if_false, ite_true, ite_false, not_true_eq_false, not_false_eq_true, Bool.true_eq_false, Bool.false_eq_true]
    exact ih (j + 1) n (by omega) (by omega) (by omega)
theorem lis_L {b P : Nat} (hb : b = 9 ∨ b = 56) (hP : P ≤ 8) {snd : Nat → Nat} {σ0 τ0 : gx_R} (hS : SndR b σ0 τ0 P snd) (h0 : ∀ p, P ≤ p → p < 8 → σ0 (b + 1) p = 0) : ∀ m k n σ, k + m = P → 8 - k < n → (∀ c, c ≠ 51 → c ≠ 52 → c ≠ 54 → c ≠ 55 → σ c = σ0 c) → LisR b σ k snd → ∃ σ', Cl_listen_2 n b (nI k) σ = some ((), σ') ∧ (∀ c, c ≠ 51 → c ≠ 52 → c ≠ 54 → c ≠ 55 → σ' c = σ0 c) ∧ LisR b σ' P snd := by
  intro m
  induction m with
  | zero =>
    intro k n σ hk hn hf hL
    obtain rfl : k = P := by omega
    exact ⟨σ, lis_t (fun p h1 h2 => by rw [hf (b + 1) (by omega) (by omega) (by omega) (by omega)]; exact h0 p h1 h2) (8 - k) k n (by omega) (by omega) hn, hf, hL⟩
  | succ m ih =>
    intro k n σ hk hn hf hL
    obtain ⟨n, rfl⟩ : ∃ q, n = q + 1 := ⟨n - 1, by omega⟩
    have c1 : ¬ 8 ≤ k := by omega
    have c3 : k < 8 := by omega
    have ed := hf (b + 1) (by omega) (by omega) (by omega) (by omega)
    by_cases hs : σ (b + 1) k = 2
    · obtain ⟨s1, s2, s3⟩ := hS k (by omega) (by rw [← ed]; exact hs)
      obtain ⟨σ1, a1, a2⟩ := s2 σ (fun c hc => hf c (by omega) (by omega) (by omega) (by omega))
      obtain ⟨σ2, q1, q2, q3, q4⟩ := lis_in (b := b) c3 8 0 z_FU (Cl_listen_2 n) (gx_up (gx_up σ1 54 k (nI (snd k))) 55 k 0) (by omega) (Nat.lt_of_lt_of_le (by decide) z_FU_ge) (by rw [gx_up_ne (by omega), up_e])
      have f2 : ∀ c, c ≠ 51 → c ≠ 52 → c ≠ 54 → c ≠ 55 → σ2 c = σ0 c := fun c d1 d2 d3 d4 => by rw [q2 c d4, gx_up_ne d4, gx_up_ne d3, a2 c d1 d2, hf c d1 d2 d3 d4]
      have g6 : σ2 6 = σ 6 := by rw [f2 6 (by omega) (by omega) (by omega) (by omega), hf 6 (by omega) (by omega) (by omega) (by omega)]
      have g4 : σ2 4 = σ 4 := by rw [f2 4 (by omega) (by omega) (by omega) (by omega), hf 4 (by omega) (by omega) (by omega) (by omega)]
      obtain ⟨σ', z1, z2, z3⟩ := ih (k + 1) n σ2 (by omega) (by omega) f2 (fun p hp hd => by
        by_cases hpk : p = k
        · subst hpk
          refine ⟨by rw [q2 54 (by omega), gx_up_ne (by omega), up_e], fun i hi => ?_⟩
          rw [q4 i hi, up_e, b_0, Bool.false_or]
          have e : ldB (gx_up (gx_up σ1 54 p (nI (snd p))) 55 p 0) p (snd p) i = ldB σ2 p (snd p) i := by
            unfold ldB
            rw [q2 6 (by omega), q2 4 (by omega)]
          rw [e]
          congr 1
          exact decide_eq_decide.mpr (by omega)
        · have hd' : σ (b + 1) p = 2 := by rw [ed, ← f2 (b + 1) (by omega) (by omega) (by omega) (by omega)]; exact hd
          obtain ⟨y1, y2⟩ := hL p (by omega) hd'
          refine ⟨by rw [q2 54 (by omega), gx_up_ne (by omega), up_p _ _ _ hpk, a2 54 (by omega) (by omega)]; exact y1, fun i hi => ?_⟩
          rw [q3 p hpk, up_p _ _ _ hpk, gx_up_ne (by omega), a2 55 (by omega) (by omega), y2 i hi]
          unfold ldB
          rw [g6, g4])
      refine ⟨σ', ?_, z2, z3⟩
      have hs1 : σ (b + 1) k = nI 2 := hs
      rw [← hf (b + 3) (by omega) (by omega) (by omega) (by omega), ← hf b (by omega) (by omega) (by omega) (by omega)] at a1
      simp (disch := omega) only [Cl_listen_2, Cl_listen_2_B, hs1, a1, z_c0, z_c1, nI_leI, nI_ltI, nI_eq, ix_n, cl_n, nI_add, pk_mul, nI_1, n_lt0, n_0le, n_le0, n_0lt, n_eq0, n_1le, n_le1, n_lt1, n_1lt, n_eq1, n_m1, n_m1a, L_2, L_3, L_4, L_5, L_6, L_7, L_8, L_9, L_10, L_11, L_12, L_14, L_15, L_16, L_17, L_18, L_20, L_21, L_24, L_26, L_30, L_32, L_34, L_35, L_36, L_37, L_38, L_39, L_40, L_41, L_42, L_43, L_44, L_45, L_46, L_47, L_48, L_57, L_59, L_60, L_61, L_62, L_64, L_65, L_68, L_76, L_80, L_84, L_90, L_92, L_96, L_97, L_98, L_99, L_100, L_104, L_122, L_139, L_140, L_162, L_163, L_164, L_200, L_241, L_255, L_256, L_280, L_284, L_300, L_301, L_303, L_309, L_360, L_400, L_401, L_402, L_403, L_404, L_405, L_406, L_407, L_408, L_999, L_1600, L_3120, L_8596, L_8880, L_9999, L_10000, L_30211, L_99999, L_1000000, c1, c3, w_bd, w_ck, bI_0, bI_1, bI_bo, bo_0, bo_1, decide_true, decide_false, if_true, if_false, ite_true, ite_false, not_true_eq_false, not_false_eq_true, Bool.true_eq_false, Bool.false_eq_true]
      exact q1.trans z1
    · obtain ⟨σ', z1, z2, z3⟩ := ih (k + 1) n σ (by omega) (by omega) hf (fun p hp hd => by
        by_cases hpk : p = k
        · subst hpk; exact absurd hd hs
        · exact hL p (by omega) hd)
      refine ⟨σ', ?_, z2, z3⟩
      have hs1 : ¬ σ (b + 1) k = nI 2 := hs
      simp (disch := omega) only [Cl_listen_2, Cl_listen_2_B, Cl_listen_69, hs1, z_c0, z_c1, nI_leI, nI_ltI, nI_eq, ix_n, cl_n, nI_add, pk_mul, nI_1, n_lt0, n_0le, n_le0, n_0lt, n_eq0, n_1le, n_le1, n_lt1, n_1lt, n_eq1, n_m1, n_m1a, L_2, L_3, L_4, L_5, L_6, L_7, L_8, L_9, L_10, L_11, L_12, L_14, L_15, L_16, L_17, L_18, L_20, L_21, L_24, L_26, L_30, L_32, L_34, L_35, L_36, L_37, L_38, L_39, L_40, L_41, L_42, L_43, L_44, L_45, L_46, L_47, L_48, L_57, L_59, L_60, L_61, L_62, L_64, L_65, L_68, L_76, L_80, L_84, L_90, L_92, L_96, L_97, L_98, L_99, L_100, L_104, L_122, L_139, L_140, L_162, L_163, L_164, L_200, L_241, L_255, L_256, L_280, L_284, L_300, L_301, L_303, L_309, L_360, L_400, L_401, L_402, L_403, L_404, L_405, L_406, L_407, L_408, L_999, L_1600, L_3120, L_8596, L_8880, L_9999, L_10000, L_30211, L_99999, L_1000000, c1, c3, w_bd, w_ck, bI_0, bI_1, bI_bo, bo_0, bo_1, decide_true, decide_false, if_true, if_false, ite_true, ite_false, not_true_eq_false, not_false_eq_true, Bool.true_eq_false, Bool.false_eq_true]
      exact z1
theorem listen_v {b P : Nat} (hb : b = 9 ∨ b = 56) (hP : P ≤ 8) {snd : Nat → Nat} {σ τ : gx_R} (hS : SndR b σ τ P snd) (h0 : ∀ p, P ≤ p → p < 8 → σ (b + 1) p = 0) : ∃ σ', Cl_listen b σ = some ((), σ') ∧ (∀ c, c ≠ 51 → c ≠ 52 → c ≠ 54 → c ≠ 55 → σ' c = σ c) ∧ LisR b σ' P snd := lis_L hb hP hS h0 P 0 z_FU σ (by omega) (Nat.lt_of_le_of_lt (show 8 - 0 ≤ 8 by omega) (Nat.lt_of_lt_of_le (by decide) z_FU_ge)) (fun _ _ _ _ _ => rfl) (fun p hp => absurd hp (by omega))
/-- any from k on, m of them -/
def anF (f : Nat → Bool) : Nat → Nat → Bool
  | _, 0 => false
  | k, m + 1 => f k || anF f (k + 1) m
theorem anF_iff {f : Nat → Bool} : ∀ {m k : Nat}, anF f k m = true ↔ ∃ i, k ≤ i ∧ i < k + m ∧ f i = true := by
  intro m
  induction m with
  | zero => intro k; exact ⟨fun h => (by cases h), fun ⟨i, h1, h2, _⟩ => by omega⟩
  | succ m ih =>
    intro k
    rw [anF, Bool.or_eq_true, ih]
    constructor
    · rintro (h | ⟨i, h1, h2, h3⟩)
      · exact ⟨k, by omega, by omega, h⟩
      · exact ⟨i, by omega, by omega, h3⟩
    · rintro ⟨i, h1, h2, h3⟩
      by_cases e : i = k
      · exact Or.inl (by rw [← e]; exact h3)
      · exact Or.inr ⟨i, by omega, by omega, h3⟩
/-- whom noise wakes -/
def nzB (b : Nat) (σ : gx_R) (rn : Int32) (p s q : Nat) : Bool := bt (σ 6 p) q && bt rn q && decide (nI s < σ 8 (σ (b + 2) q).toNatClampNeg)
theorem noise_L {b P W : Nat} (hP : P ≤ 8) (hW : W ≤ 6) {σ : gx_R} (f0 : σ 2 1 = nI W) {rn : Int32} {p s : Nat} (hr : BitsIn rn P (σ (b + 1))) (hw : ∀ q, q < P → σ (b + 1) q = 1 → ∃ w, w < W ∧ σ (b + 2) q = nI w) : ∀ m q n, q + m = 8 → m < n → Cl_isNoiseAbove_2 n b (σ 6 p &&& rn) (nI s) (nI q) σ = some (bI (anF (nzB b σ rn p s) q m), σ) := by
  intro m
  induction m with
  | zero =>
    intro q n hq hn
    obtain ⟨n, rfl⟩ : ∃ q, n = q + 1 := ⟨n - 1, by omega⟩
    obtain rfl : q = 8 := by omega
    simp (disch := omega) only [Cl_isNoiseAbove_2, Cl_isNoiseAbove_2_B, z_c0, z_c1, nI_leI, nI_ltI, nI_eq, ix_n, cl_n, nI_add, pk_mul, nI_1, n_lt0, n_0le, n_le0, n_0lt, n_eq0, n_1le, n_le1, n_lt1, n_1lt, n_eq1, n_m1, n_m1a, L_2, L_3, L_4, L_5, L_6, L_7, L_8, L_9, L_10, L_11, L_12, L_14, L_15, L_16, L_17, L_18, L_20, L_21, L_24, L_26, L_30, L_32, L_34, L_35, L_36, L_37, L_38, L_39, L_40, L_41, L_42, L_43, L_44, L_45, L_46, L_47, L_48, L_57, L_59, L_60, L_61, L_62, L_64, L_65, L_68, L_76, L_80, L_84, L_90, L_92, L_96, L_97, L_98, L_99, L_100, L_104, L_122, L_139, L_140, L_162, L_163, L_164, L_200, L_241, L_255, L_256, L_280, L_284, L_300, L_301, L_303, L_309, L_360, L_400, L_401, L_402, L_403, L_404, L_405, L_406, L_407, L_408, L_999, L_1600, L_3120, L_8596, L_8880, L_9999, L_10000, L_30211, L_99999, L_1000000, Nat.le_refl, anF, bI_f, w_bd, w_ck, bI_0, bI_1, bI_bo, bo_0, bo_1, decide_true, decide_false, if_true, if_false, ite_true, ite_false, not_true_eq_false, not_false_eq_true, Bool.true_eq_false, Bool.false_eq_true]
  | succ m ih =>
    intro q n hq hn
    obtain ⟨n, rfl⟩ : ∃ q, n = q + 1 := ⟨n - 1, by omega⟩
    have ih := ih (q + 1) n (by omega) (by omega)
    have c1 : ¬ 8 ≤ q := by omega
    have c2 : q < 8 := by omega
    simp (disch := omega) only [Cl_isNoiseAbove_2, Cl_isNoiseAbove_2_B, Cl_isNoiseAbove_31, h_1, b_and, z_c0, z_c1, nI_leI, nI_ltI, nI_eq, ix_n, cl_n, nI_add, pk_mul, nI_1, n_lt0, n_0le, n_le0, n_0lt, n_eq0, n_1le, n_le1, n_lt1, n_1lt, n_eq1, n_m1, n_m1a, L_2, L_3, L_4, L_5, L_6, L_7, L_8, L_9, L_10, L_11, L_12, L_14, L_15, L_16, L_17, L_18, L_20, L_21, L_24, L_26, L_30, L_32, L_34, L_35, L_36, L_37, L_38, L_39, L_40, L_41, L_42, L_43, L_44, L_45, L_46, L_47, L_48, L_57, L_59, L_60, L_61, L_62, L_64, L_65, L_68, L_76, L_80, L_84, L_90, L_92, L_96, L_97, L_98, L_99, L_100, L_104, L_122, L_139, L_140, L_162, L_163, L_164, L_200, L_241, L_255, L_256, L_280, L_284, L_300, L_301, L_303, L_309, L_360, L_400, L_401, L_402, L_403, L_404, L_405, L_406, L_407, L_408, L_999, L_1600, L_3120, L_8596, L_8880, L_9999, L_10000, L_30211, L_99999, L_1000000, c1, c2, w_bd, w_ck, bI_0, bI_1, bI_bo, bo_0, bo_1, decide_true, decide_false, if_true, if_false, ite_true, ite_false, not_true_eq_false, not_false_eq_true, Bool.true_eq_false, Bool.false_eq_true]
    cases hb : (bt (σ 6 p) q && bt rn q) with
    | true =>
      obtain ⟨y1, y2⟩ := hr q (by omega) (Bool.and_eq_true_iff.mp hb).2
      obtain ⟨w, w1, w2⟩ := hw q y1 y2
      have w6 : w < 6 := by omega
      rw [if_pos rfl, w2, Fo_isWork_v f0 hW, w_bd, ix_t w1 (by omega), bI_t, if_neg (by decide), ix_t w6 (by omega), w_ck, cl_n (by omega)]
      by_cases c3 : σ 8 w ≤ nI s
      · rw [if_pos c3, ih]
        have : nzB b σ rn p s q = false := by
          unfold nzB
          rw [w2, cl_n (by omega), decide_eq_false (Int32.not_lt.mpr c3), Bool.and_false]
        rw [anF, this, Bool.false_or]
      · rw [if_neg c3]
        have : nzB b σ rn p s q = true := by
          unfold nzB
          rw [w2, cl_n (by omega), decide_eq_true (Int32.not_le.mp c3), hb]; rfl
        rw [anF, this, Bool.true_or]; rfl
    | false =>
      rw [if_neg (by decide), ih]
      have : nzB b σ rn p s q = false := by
        unfold nzB; rw [hb, Bool.false_and]
      rw [anF, this, Bool.false_or]
theorem wbn_L {b P W : Nat} (hP : P ≤ 8) (hW : W ≤ 6) {σ : gx_R} (f0 : σ 2 1 = nI W) {snd : Nat → Nat} (hr : BitsIn (σ 53 4) P (σ (b + 1))) (hw : ∀ q, q < P → σ (b + 1) q = 1 → ∃ w, w < W ∧ σ (b + 2) q = nI w) (hL : LisR b σ P snd) (h0 : ∀ p, P ≤ p → p < 8 → σ (b + 1) p = 0) : ∀ m k n, k + m = 8 → m < n → Cl_wokenByNoise_4 n b (mk (fun p => decide (σ (b + 1) p = 2) && anF (nzB b σ (σ 53 4) p (snd p)) 0 8) k) (nI k) σ = some (mk (fun p => decide (σ (b + 1) p = 2) && anF (nzB b σ (σ 53 4) p (snd p)) 0 8) 8, σ) := by
  intro m
  induction m with
  | zero =>
    intro k n hk hn
    obtain ⟨n, rfl⟩ : ∃ q, n = q + 1 := ⟨n - 1, by omega⟩
    obtain rfl : k = 8 := by omega
    simp (disch := omega) only [Cl_wokenByNoise_4, Cl_wokenByNoise_4_B, z_c0, z_c1, nI_leI, nI_ltI, nI_eq, ix_n, cl_n, nI_add, pk_mul, nI_1, n_lt0, n_0le, n_le0, n_0lt, n_eq0, n_1le, n_le1, n_lt1, n_1lt, n_eq1, n_m1, n_m1a, L_2, L_3, L_4, L_5, L_6, L_7, L_8, L_9, L_10, L_11, L_12, L_14, L_15, L_16, L_17, L_18, L_20, L_21, L_24, L_26, L_30, L_32, L_34, L_35, L_36, L_37, L_38, L_39, L_40, L_41, L_42, L_43, L_44, L_45, L_46, L_47, L_48, L_57, L_59, L_60, L_61, L_62, L_64, L_65, L_68, L_76, L_80, L_84, L_90, L_92, L_96, L_97, L_98, L_99, L_100, L_104, L_122, L_139, L_140, L_162, L_163, L_164, L_200, L_241, L_255, L_256, L_280, L_284, L_300, L_301, L_303, L_309, L_360, L_400, L_401, L_402, L_403, L_404, L_405, L_406, L_407, L_408, L_999, L_1600, L_3120, L_8596, L_8880, L_9999, L_10000, L_30211, L_99999, L_1000000, Nat.le_refl, w_bd, w_ck, bI_0, bI_1, bI_bo, bo_0, bo_1, decide_true, decide_false, if_true, if_false, ite_true, ite_false, not_true_eq_false, not_false_eq_true, Bool.true_eq_false, Bool.false_eq_true]
  | succ m ih =>
    intro k n hk hn
    obtain ⟨n, rfl⟩ : ∃ q, n = q + 1 := ⟨n - 1, by omega⟩
    have ih := ih (k + 1) n (by omega) (by omega)
    have c1 : ¬ 8 ≤ k := by omega
    have c2 : k < 8 := by omega
    by_cases hs : σ (b + 1) k = 2
    · have hs1 : σ (b + 1) k = nI 2 := hs
      have hkP : k < P := by
        rcases Nat.lt_or_ge k P with h | h
        · exact h
        · rw [h0 k h c2] at hs; exact absurd hs (by decide)
      have hsn := (hL k hkP hs).1
      have hno := noise_L (p := k) (s := snd k) hP hW f0 hr hw 8 0 z_FU (by omega) (Nat.lt_of_lt_of_le (by decide) z_FU_ge)
      simp (disch := omega) only [Cl_wokenByNoise_4, Cl_wokenByNoise_4_B, Cl_wokenByNoise_35, hs1, z_c0, z_c1, nI_leI, nI_ltI, nI_eq, ix_n, cl_n, nI_add, pk_mul, nI_1, n_lt0, n_0le, n_le0, n_0lt, n_eq0, n_1le, n_le1, n_lt1, n_1lt, n_eq1, n_m1, n_m1a, L_2, L_3, L_4, L_5, L_6, L_7, L_8, L_9, L_10, L_11, L_12, L_14, L_15, L_16, L_17, L_18, L_20, L_21, L_24, L_26, L_30, L_32, L_34, L_35, L_36, L_37, L_38, L_39, L_40, L_41, L_42, L_43, L_44, L_45, L_46, L_47, L_48, L_57, L_59, L_60, L_61, L_62, L_64, L_65, L_68, L_76, L_80, L_84, L_90, L_92, L_96, L_97, L_98, L_99, L_100, L_104, L_122, L_139, L_140, L_162, L_163, L_164, L_200, L_241, L_255, L_256, L_280, L_284, L_300, L_301, L_303, L_309, L_360, L_400, L_401, L_402, L_403, L_404, L_405, L_406, L_407, L_408, L_999, L_1600, L_3120, L_8596, L_8880, L_9999, L_10000, L_30211, L_99999, L_1000000, c1, c2, w_bd, w_ck, bI_0, bI_1, bI_bo, bo_0, bo_1, decide_true, decide_false, if_true, if_false, ite_true, ite_false, not_true_eq_false, not_false_eq_true, Bool.true_eq_false, Bool.false_eq_true]
      rw [hsn, show Cl_isNoiseAbove b (σ 6 k &&& σ 53 4) (nI (snd k)) σ = _ from hno, w_bd]
      cases ha : anF (nzB b σ (σ 53 4) k (snd k)) 0 8 with
      | true =>
        rw [mk_t (by rw [ha, decide_eq_true hs]; rfl)] at ih
        rw [bI_t, if_neg (by decide)]; exact ih
      | false =>
        rw [mk_f (by rw [ha, Bool.and_false])] at ih
        rw [bI_f, if_pos rfl]; exact ih
    · have hs1 : ¬ σ (b + 1) k = nI 2 := hs
      rw [mk_f (by rw [decide_eq_false hs, Bool.false_and])] at ih
      simp (disch := omega) only [Cl_wokenByNoise_4, Cl_wokenByNoise_4_B, Cl_wokenByNoise_35, hs1, z_c0, z_c1, nI_leI, nI_ltI, nI_eq, ix_n, cl_n, nI_add, pk_mul, nI_1, n_lt0, n_0le, n_le0, n_0lt, n_eq0, n_1le, n_le1, n_lt1, n_1lt, n_eq1, n_m1, n_m1a, L_2, L_3, L_4, L_5, L_6, L_7, L_8, L_9, L_10, L_11, L_12, L_14, L_15, L_16, L_17, L_18, L_20, L_21, L_24, L_26, L_30, L_32, L_34, L_35, L_36, L_37, L_38, L_39, L_40, L_41, L_42, L_43, L_44, L_45, L_46, L_47, L_48, L_57, L_59, L_60, L_61, L_62, L_64, L_65, L_68, L_76, L_80, L_84, L_90, L_92, L_96, L_97, L_98, L_99, L_100, L_104, L_122, L_139, L_140, L_162, L_163, L_164, L_200, L_241, L_255, L_256, L_280, L_284, L_300, L_301, L_303, L_309, L_360, L_400, L_401, L_402, L_403, L_404, L_405, L_406, L_407, L_408, L_999, L_1600, L_3120, L_8596, L_8880, L_9999, L_10000, L_30211, L_99999, L_1000000, c1, c2, w_bd, w_ck, bI_0, bI_1, bI_bo, bo_0, bo_1, decide_true, decide_false, if_true, if_false, ite_true, ite_false, not_true_eq_false, not_false_eq_true, Bool.true_eq_false, Bool.false_eq_true]
      exact ih
