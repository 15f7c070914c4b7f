/-! ===== the reference's text, copied ===== -/
theorem ck98 (T k : Nat) (f : Nat) (τ : gx_R) (hT : T < 4) (hk : k < 24) (hq : ¬ τ 109 30 ≤ nI k) : Md_text_98 (f + 1) (nI T) (nI k) τ = Md_text_98 f (nI T) (nI (k + 1)) (gx_up (gx_up (gx_up (gx_up (gx_up τ 114 (24 * T + k) (τ 126 k)) 115 (24 * T + k) (nI (400 * T) + τ 127 k)) 116 (24 * T + k) (τ 128 k)) 117 (24 * T + k) (τ 129 k)) 118 (24 * T + k) (τ 130 k)) := by
  have e24 : (24 : Int32) * nI T + nI k = nI (24 * T + k) := by rw [show (24 : Int32) * nI T = nI (24 * T) from pk_mul 24 T, nI_add]
  have e400 : (400 : Int32) * nI T = nI (400 * T) := pk_mul 400 T
  have i1 : z_ix (nI k) 24 = true := by rw [ix_n (by omega), decide_eq_true hk]
  have i2 : z_ix (nI (24 * T + k)) 96 = true := by rw [ix_n (by omega), decide_eq_true (show 24 * T + k < 96 by omega)]
  rw [Md_text_98, Md_text_98_B, if_neg hq]
  simp +decide (disch := omega) only [e24, e400, i1, i2, w_ck, cl_n, up_c, show nI k + 1 = nI (k + 1) from nI_add k 1]
theorem lp98 {T q : Nat} (hT : T < 4) (hq : q ≤ 24) : ∀ m k f τ, k + m = q → m < f → τ 109 30 = nI q → ∃ τ', Md_text_98 f (nI T) (nI k) τ = Md_text_168 (nI T) τ' ∧ (∀ c, ¬ (114 ≤ c ∧ c ≤ 118) → τ' c = τ c) ∧ (∀ c j, ¬ (24 * T + k ≤ j ∧ j < 24 * T + q) → τ' c j = τ c j) ∧ ∀ j, k ≤ j → j < q → τ' 114 (24 * T + j) = τ 126 j ∧ τ' 115 (24 * T + j) = nI (400 * T) + τ 127 j ∧ τ' 116 (24 * T + j) = τ 128 j ∧ τ' 117 (24 * T + j) = τ 129 j ∧ τ' 118 (24 * T + j) = τ 130 j := by
  intro m
  induction m with
  | zero =>
    intro k f τ h1 h2 h3
    obtain ⟨f, rfl⟩ : ∃ g, f = g + 1 := ⟨f - 1, by omega⟩
    refine ⟨τ, ?_, fun _ _ => rfl, fun _ _ _ => rfl, fun j j1 j2 => by omega⟩
    rw [Md_text_98, Md_text_98_B, if_pos (show τ 109 30 ≤ nI k by rw [h3]; exact (nI_leI (by omega) (by omega)).mpr (by omega))]
  | succ m ih =>
    intro k f τ h1 h2 h3
    obtain ⟨f, rfl⟩ : ∃ g, f = g + 1 := ⟨f - 1, by omega⟩
    obtain ⟨τ1, hτ1⟩ : ∃ τ1, τ1 = (gx_up (gx_up (gx_up (gx_up (gx_up τ 114 (24 * T + k) (τ 126 k)) 115 (24 * T + k) (nI (400 * T) + τ 127 k)) 116 (24 * T + k) (τ 128 k)) 117 (24 * T + k) (τ 129 k)) 118 (24 * T + k) (τ 130 k)) := ⟨_, rfl⟩
    have s1 : ∀ c, ¬ (114 ≤ c ∧ c ≤ 118) → τ1 c = τ c := fun c hc => by rw [hτ1, gx_up_ne (by omega), gx_up_ne (by omega), gx_up_ne (by omega), gx_up_ne (by omega), gx_up_ne (by omega)]
    have s2 : ∀ c j, j ≠ 24 * T + k → τ1 c j = τ c j := fun c j hj => by
      have u : ∀ (ρ : gx_R) (d : Nat) (v : Int32), gx_up ρ d (24 * T + k) v c j = ρ c j := fun ρ d v => by
        by_cases e : c = d
        · subst e; exact up_p _ _ _ hj
        · exact up_c _ _ _ _ e
      rw [hτ1]
      simp only [u]
    have s3 : τ1 114 (24 * T + k) = τ 126 k ∧ τ1 115 (24 * T + k) = nI (400 * T) + τ 127 k ∧ τ1 116 (24 * T + k) = τ 128 k ∧ τ1 117 (24 * T + k) = τ 129 k ∧ τ1 118 (24 * T + k) = τ 130 k := by
      rw [hτ1]
      refine ⟨?_, ?_, ?_, ?_, ?_⟩ <;> simp +decide (disch := omega) only [up_c, up_e]
    obtain ⟨τ', e1, e2, e3, e4⟩ := ih (k + 1) f τ1 (by omega) (by omega) (by rw [s1 109 (by omega)]; exact h3)
    refine ⟨τ', ?_, fun c hc => by rw [e2 c hc, s1 c hc], fun c j hj => by rw [e3 c j (by omega), s2 c j (by omega)], fun j j1 j2 => ?_⟩
    · rw [ck98 T k f τ hT (by omega) (fun z => by rw [h3] at z; have := (nI_leI (by omega) (by omega)).mp z; omega), ← hτ1]; exact e1
    · by_cases c : j = k
      · subst c
        rw [e3 114 _ (by omega), e3 115 _ (by omega), e3 116 _ (by omega), e3 117 _ (by omega), e3 118 _ (by omega)]; exact s3
      · have := e4 j (by omega) j2
        rw [s1 126 (by omega), s1 127 (by omega), s1 128 (by omega), s1 129 (by omega), s1 130 (by omega)] at this
        exact this
theorem ck170 (T i : Nat) (f : Nat) (τ : gx_R) (hT : T < 4) (hi : i < 400) (hq : ¬ τ 109 37 ≤ nI i) : Md_text_170 (f + 1) (nI T) (nI i) τ = Md_text_170 f (nI T) (nI (i + 1)) (gx_up (gx_up τ 119 (400 * T + i) (τ 131 i)) 120 (400 * T + i) (if τ 131 i = 403 ∨ τ 131 i = 404 then τ 132 i + nI (400 * T) else τ 132 i)) := by
  have e400 : (400 : Int32) * nI T = nI (400 * T) := pk_mul 400 T
  have e4 : nI (400 * T) + nI i = nI (400 * T + i) := nI_add _ _
  have i1 : z_ix (nI i) 400 = true := by rw [ix_n (by omega), decide_eq_true hi]
  have i2 : z_ix (nI (400 * T + i)) 1600 = true := by rw [ix_n (by omega), decide_eq_true (show 400 * T + i < 1600 by omega)]
  have c1 : (nI i).toNatClampNeg = i := cl_n (by omega)
  have c2 : (nI (400 * T + i)).toNatClampNeg = 400 * T + i := cl_n (by omega)
  have n1 : nI i + 1 = nI (i + 1) := nI_add i 1
  have a189 : ∀ s : Int32, Md_text_189 (Md_text_170 f) (nI T) (nI i) s τ = Md_text_170 f (nI T) (nI (i + 1)) (gx_up (gx_up τ 119 (400 * T + i) (τ 131 i)) 120 (400 * T + i) (if s = 0 then τ 132 i else τ 132 i + nI (400 * T))) := fun s => by
    rw [Md_text_189]
    by_cases c : s = 0
    · rw [if_pos c, if_pos c]
      simp +decide (disch := omega) only [i1, w_ck, e4, e400, i2, Md_text_220, c1, c2, up_c, n1, Int32.add_zero]
    · rw [if_neg c, if_neg c]
      simp +decide (disch := omega) only [i1, w_ck, e4, e400, i2, Md_text_220, c1, c2, up_c, n1]
  rw [Md_text_170, Md_text_170_B, if_neg hq, i1, w_ck, c1]
  by_cases d1 : τ 131 i = 403
  · rw [if_pos d1, if_pos (Or.inl d1), Md_text_186, a189, if_neg (show ¬ (1 : Int32) = 0 by decide)]
  · rw [if_neg d1, w_ck]
    by_cases d2 : τ 131 i = 404
    · rw [if_pos d2, if_pos (Or.inr d2), Md_text_186, a189, if_neg (show ¬ (1 : Int32) = 0 by decide)]
    · rw [if_neg d2, if_neg (show ¬ (τ 131 i = 403 ∨ τ 131 i = 404) from fun z => z.elim d1 d2), a189, if_pos (show (0 : Int32) = 0 from rfl)]
theorem lp170 {T rn : Nat} (hT : T < 4) (hr : rn ≤ 400) : ∀ m i f τ, i + m = rn → m < f → τ 109 37 = nI rn → ∃ τ', Md_text_170 f (nI T) (nI i) τ = Md_text_224 (nI T) τ' ∧ (∀ c, c ≠ 119 → c ≠ 120 → τ' c = τ c) ∧ (∀ c j, ¬ (400 * T + i ≤ j ∧ j < 400 * T + rn) → τ' c j = τ c j) ∧ ∀ j, i ≤ j → j < rn → τ' 119 (400 * T + j) = τ 131 j ∧ τ' 120 (400 * T + j) = if τ 131 j = 403 ∨ τ 131 j = 404 then τ 132 j + nI (400 * T) else τ 132 j := by
  intro m
  induction m with
  | zero =>
    intro i f τ h1 h2 h3
    obtain ⟨f, rfl⟩ : ∃ g, f = g + 1 := ⟨f - 1, by omega⟩
    refine ⟨τ, ?_, fun _ _ _ => rfl, fun _ _ _ => rfl, fun j j1 j2 => by omega⟩
    rw [Md_text_170, Md_text_170_B, if_pos (show τ 109 37 ≤ nI i by rw [h3]; exact (nI_leI (by omega) (by omega)).mpr (by omega))]
  | succ m ih =>
    intro i f τ h1 h2 h3
    obtain ⟨f, rfl⟩ : ∃ g, f = g + 1 := ⟨f - 1, by omega⟩
    obtain ⟨V, hV⟩ : ∃ V, V = (if τ 131 i = 403 ∨ τ 131 i = 404 then τ 132 i + nI (400 * T) else τ 132 i) := ⟨_, rfl⟩
    obtain ⟨τ1, hτ1⟩ : ∃ τ1, τ1 = gx_up (gx_up τ 119 (400 * T + i) (τ 131 i)) 120 (400 * T + i) V := ⟨_, rfl⟩
    have s1 : ∀ c, c ≠ 119 → c ≠ 120 → τ1 c = τ c := fun c c1 c2 => by rw [hτ1, gx_up_ne c2, gx_up_ne c1]
    have s2 : ∀ c j, j ≠ 400 * T + i → τ1 c j = τ c j := fun c j hj => by
      have u : ∀ (ρ : gx_R) (d : Nat) (v : Int32), gx_up ρ d (400 * T + i) v c j = ρ c j := fun ρ d v => by
        by_cases e : c = d
        · subst e; exact up_p _ _ _ hj
        · exact up_c _ _ _ _ e
      rw [hτ1]
      simp only [u]
    obtain ⟨τ', e1, e2, e3, e4⟩ := ih (i + 1) f τ1 (by omega) (by omega) (by rw [s1 109 (by omega) (by omega)]; exact h3)
    refine ⟨τ', ?_, fun c c1 c2 => by rw [e2 c c1 c2, s1 c c1 c2], fun c j hj => by rw [e3 c j (by omega), s2 c j (by omega)], fun j j1 j2 => ?_⟩
    · rw [ck170 T i f τ hT (by omega) (fun z => by rw [h3] at z; have := (nI_leI (by omega) (by omega)).mp z; omega), ← hV, ← hτ1]; exact e1
    · by_cases c : j = i
      · subst c
        rw [e3 119 _ (by omega), e3 120 _ (by omega), ← hV, hτ1, up_e, up_c _ _ _ _ (by omega), up_e]
        exact ⟨rfl, rfl⟩
      · have := e4 j (by omega) j2
        rw [s1 131 (by omega) (by omega), s1 132 (by omega) (by omega)] at this
        exact this
/-- the reading has ended well: the text is kept -/
theorem keep_N {τ : gx_R} {T q rn : Nat} (hT : T < 4) (hq : q ≤ 24) (hr : rn ≤ 400) (h19 : τ 109 19 = 0) (h2 : τ 110 2 = nI T) (h30 : τ 109 30 = nI q) (h37 : τ 109 37 = nI rn) : ∃ τ', Md_text_72 τ = some (nI T, τ') ∧ (∀ c, c ≠ 109 → c ≠ 110 → ¬ (113 ≤ c ∧ c ≤ 120) → τ' c = τ c) ∧ (τ' 109 4 = 0 ∧ τ' 109 5 = τ 109 20 ∧ ∀ j, j ≠ 4 → j ≠ 5 → τ' 109 j = τ 109 j) ∧ (τ' 110 2 = nI (T + 1) ∧ ∀ j, j ≠ 2 → τ' 110 j = τ 110 j) ∧ (τ' 113 T = nI q ∧ ∀ j, j ≠ T → τ' 113 j = τ 113 j) ∧ (∀ c j, 114 ≤ c → c ≤ 118 → ¬ (24 * T ≤ j ∧ j < 24 * T + q) → τ' c j = τ c j) ∧ (∀ c j, 119 ≤ c → c ≤ 120 → ¬ (400 * T ≤ j ∧ j < 400 * T + rn) → τ' c j = τ c j) ∧ (∀ j, j < q → τ' 114 (24 * T + j) = τ 126 j ∧ τ' 115 (24 * T + j) = nI (400 * T) + τ 127 j ∧ τ' 116 (24 * T + j) = τ 128 j ∧ τ' 117 (24 * T + j) = τ 129 j ∧ τ' 118 (24 * T + j) = τ 130 j) ∧ ∀ j, j < rn → τ' 119 (400 * T + j) = τ 131 j ∧ τ' 120 (400 * T + j) = if τ 131 j = 403 ∨ τ 131 j = 404 then τ 132 j + nI (400 * T) else τ 132 j := by
  have hf := z_FU_ge
  obtain ⟨τ1, hτ1⟩ : ∃ τ1, τ1 = gx_up (gx_up (gx_up τ 109 4 (τ 109 19)) 109 5 (τ 109 20)) 113 T (τ 109 30) := ⟨_, rfl⟩
  have s1 : ∀ c, c ≠ 109 → c ≠ 113 → τ1 c = τ c := fun c c1 c2 => by rw [hτ1, gx_up_ne c2, gx_up_ne c1, gx_up_ne c1]
  have s2 : τ1 109 4 = 0 ∧ τ1 109 5 = τ 109 20 ∧ ∀ j, j ≠ 4 → j ≠ 5 → τ1 109 j = τ 109 j := by
    rw [hτ1]
    exact ⟨by rw [up_c _ _ _ _ (by omega), up_p _ _ _ (by omega), up_e, h19], by rw [up_c _ _ _ _ (by omega), up_e], fun j j1 j2 => by rw [up_c _ _ _ _ (by omega), up_p _ _ _ j2, up_p _ _ _ j1]⟩
  have s3 : τ1 113 T = nI q ∧ ∀ j, j ≠ T → τ1 113 j = τ 113 j := by
    rw [hτ1]
    exact ⟨by rw [up_e, h30], fun j hj => by rw [up_p _ _ _ hj, up_c _ _ _ _ (by omega), up_c _ _ _ _ (by omega)]⟩
  obtain ⟨τ2, a1, a2, a3, a4⟩ := lp98 hT hq q 0 z_FU τ1 (by omega) (by omega) (by rw [s2.2.2 30 (by omega) (by omega)]; exact h30)
  obtain ⟨τ3, b1, b2, b3, b4⟩ := lp170 hT hr rn 0 z_FU τ2 (by omega) (by omega) (by rw [a2 109 (by omega), s2.2.2 37 (by omega) (by omega)]; exact h37)
  have f3 : ∀ c, c ≠ 109 → c ≠ 113 → ¬ (114 ≤ c ∧ c ≤ 120) → τ3 c = τ c := fun c c1 c2 c3 => by rw [b2 c (by omega) (by omega), a2 c (by omega), s1 c c1 c2]
  have e110 : τ3 110 2 = nI T := by rw [f3 110 (by omega) (by omega) (by omega)]; exact h2
  have w : ∀ j, τ3 109 j = τ1 109 j := fun j => by rw [b2 109 (by omega) (by omega), a2 109 (by omega)]
  refine ⟨gx_up τ3 110 2 (nI (T + 1)), ?_, fun c c1 c2 c3 => by rw [gx_up_ne c2, f3 c c1 (by omega) (by omega)], ⟨?_, ?_, fun j j1 j2 => ?_⟩, ⟨up_e _ _ _ _, fun j hj => ?_⟩, ⟨?_, fun j hj => ?_⟩, fun c j c1 c2 hj => ?_, fun c j c1 c2 hj => ?_, fun j hj => ?_, fun j hj => ?_⟩
  · rw [Md_text_72]
    have z1 : (gx_up (gx_up τ 109 4 (τ 109 19)) 109 5 ((gx_up τ 109 4 (τ 109 19)) 109 20)) = gx_up (gx_up τ 109 4 (τ 109 19)) 109 5 (τ 109 20) := by rw [up_p _ _ _ (by omega)]
    rw [z1]
    have z2 : (gx_up (gx_up τ 109 4 (τ 109 19)) 109 5 (τ 109 20)) 109 19 = 0 := by rw [up_p _ _ _ (by omega), up_p _ _ _ (by omega), h19]
    have z3 : (gx_up (gx_up τ 109 4 (τ 109 19)) 109 5 (τ 109 20)) 110 ((2 : Int32).toNatClampNeg) = nI T := by
      rw [up_c _ _ _ _ (by omega), up_c _ _ _ _ (by omega)]; exact h2
    have z4 : (gx_up (gx_up τ 109 4 (τ 109 19)) 109 5 (τ 109 20)) 109 30 = τ 109 30 := by rw [up_p _ _ _ (by omega), up_p _ _ _ (by omega)]
    rw [z2, if_pos (show (0 : Int32) ≤ 0 by decide), z3, ix_n (by omega), decide_eq_true hT, w_ck, cl_n (by omega), z4, ← hτ1]
    refine Eq.trans a1 ?_
    rw [Md_text_168]
    refine Eq.trans b1 ?_
    rw [Md_text_224]
    show some (nI T, gx_up τ3 110 2 (τ3 110 2 + 1)) = _
    rw [e110, show nI T + 1 = nI (T + 1) from nI_add T 1]
  · rw [up_c _ _ _ _ (by omega), w]; exact s2.1
  · rw [up_c _ _ _ _ (by omega), w]; exact s2.2.1
  · rw [up_c _ _ _ _ (by omega), w]; exact s2.2.2 j j1 j2
  · rw [up_p _ _ _ hj, f3 110 (by omega) (by omega) (by omega)]
  · rw [up_c _ _ _ _ (by omega), b2 113 (by omega) (by omega), a2 113 (by omega)]; exact s3.1
  · rw [up_c _ _ _ _ (by omega), b2 113 (by omega) (by omega), a2 113 (by omega)]; exact s3.2 j hj
  · rw [up_c _ _ _ _ (by omega), b2 c (by omega) (by omega), a3 c j (by omega), s1 c (by omega) (by omega)]
  · rw [up_c _ _ _ _ (by omega), b3 c j (by omega), a2 c (by omega), s1 c (by omega) (by omega)]
  · have := a4 j (Nat.zero_le _) hj
    rw [s1 126 (by omega) (by omega), s1 127 (by omega) (by omega), s1 128 (by omega) (by omega), s1 129 (by omega) (by omega), s1 130 (by omega) (by omega)] at this
    rw [up_c _ _ _ _ (by omega), up_c _ _ _ _ (by omega), up_c _ _ _ _ (by omega), up_c _ _ _ _ (by omega), up_c _ _ _ _ (by omega), b2 114 (by omega) (by omega), b2 115 (by omega) (by omega), b2 116 (by omega) (by omega), b2 117 (by omega) (by omega), b2 118 (by omega) (by omega)]
    exact this
  · have := b4 j (Nat.zero_le _) hj
    rw [a2 131 (by omega), a2 132 (by omega), s1 131 (by omega) (by omega), s1 132 (by omega) (by omega)] at this
    rw [up_c _ _ _ _ (by omega), up_c _ _ _ _ (by omega)]
    exact this
