/-! ===== a clause begins ===== -/
theorem CR_re {b : Nat → Nat} {nb T c0 : Nat} {σ0 σ : gx_R} {t n : Nat} {ck ca : Nat → Nat} (h : CR b nb T c0 σ0 σ t n ck ca) (ck' ca' : Nat → Nat) : CR b nb T (c0 + n) σ σ t 0 ck' ca' := by
  obtain ⟨⟨h1, h1b, h1c, h1d, h1e, h1f⟩, h2, h3, h4, h5, h6, h7, h8, h9⟩ := h
  refine ⟨⟨h1, fun i hi => ?_, h1c, ?_, ?_, ?_⟩, h2, h3, h4, h5, fun j hj => absurd hj (Nat.not_lt_zero j), ⟨⟨fun _ _ _ _ => rfl, fun _ _ _ _ _ => rfl, fun _ _ => rfl⟩, ⟨rfl, rfl⟩, fun _ _ => rfl⟩⟩
  · rw [h7.1 41 (by omega) (by omega) (by omega), h7.1 40 (by omega) (by omega) (by omega), h7.1 42 (by omega) (by omega) (by omega)]; exact h1b i hi
  · rw [h7.1 41 (by omega) (by omega) (by omega)]; exact h1d
  · rw [h7.1 40 (by omega) (by omega) (by omega)]; exact h1e
  · rw [h7.2.1 6 (by omega) (by omega) (by omega) (by omega)]; exact h1f
theorem MR_re {b : Nat → Nat} {nb r0 : Nat} {τ0 τ : gx_R} {t : Nat} {st n : Nat} {ck ca : Nat → Nat} (h : MR b nb r0 τ0 τ t [] [] st n ck ca) (ck' ca' : Nat → Nat) : MR b nb (r0 + n) τ τ t [] [] st 0 ck' ca' := by
  obtain ⟨m1, m2, m3, ⟨m4, m5⟩, m6, m7, m8, m9, m10, m11, m12⟩ := h
  exact ⟨TpM_c (m12.1 112 (by omega) (by omega) (by omega) (by omega)) (m12.2.2 14 (by omega) (by omega) (by omega) (by omega) (by omega) (by omega)) m1, ⟨by rw [m12.2.2 19 (by omega) (by omega) (by omega) (by omega) (by omega) (by omega)]; exact m2.1, by rw [m12.2.2 20 (by omega) (by omega) (by omega) (by omega) (by omega) (by omega)]; exact m2.2⟩, m3, ⟨m4, m5⟩, m6, m7, m8, m9, m10, fun j hj => absurd hj (Nat.not_lt_zero j), ⟨fun _ _ _ _ _ => rfl, fun _ _ => ⟨rfl, rfl⟩, fun _ _ _ _ _ _ _ => rfl⟩⟩
theorem m19 {b : Nat → Nat} {nb r0 : Nat} {τ0 τ : gx_R} {t : Nat} {fr ws : List (Nat × Nat)} {st n : Nat} {ck ca : Nat → Nat} (h : MR b nb r0 τ0 τ t fr ws st n ck ca) : τ 109 19 = 0 := by
  rw [h.2.2.2.2.2.2.2.2.2.2.2.2 19 (by omega) (by omega) (by omega) (by omega) (by omega) (by omega)]; exact h.2.1.1
theorem C_end {b : Nat → Nat} {nb r0 : Nat} {τ0 τ : gx_R} {t : Nat} {fr ws : List (Nat × Nat)} {n : Nat} {ck ca : Nat → Nat} (h : MR b nb r0 τ0 τ t fr ws 4 n ck ca) (hk : kd b nb t = 44) (f : Nat) : Md_text_44 (f + 1) τ = Md_text_72 τ := by
  have h28 : τ 109 28 = nI 4 := h.2.2.2.2.2.2.2.1
  have h17 : τ 109 17 = 0 := (kr_e h.2.2.1.2.2.2).mpr hk
  rw [Md_text_44, Md_text_44_B, if_pos (m19 h), if_pos (show τ 109 28 = 4 from h28), if_pos h17]
theorem C_go {b : Nat → Nat} {nb r0 : Nat} {τ0 τ : gx_R} {t : Nat} {fr ws : List (Nat × Nat)} {n : Nat} {ck ca : Nat → Nat} (h : MR b nb r0 τ0 τ t fr ws 4 n ck ca) (hk : kd b nb t ≠ 44) (f : Nat) : Md_text_44 (f + 1) τ = z_bd (Md_clause τ) (fun _ σ => Md_text_44 f σ) := by
  have h28 : τ 109 28 = nI 4 := h.2.2.2.2.2.2.2.1
  have h17 : ¬ τ 109 17 = 0 := fun z => hk ((kr_e h.2.2.1.2.2.2).mp z)
  rw [Md_text_44, Md_text_44_B, if_pos (m19 h), if_pos (show τ 109 28 = 4 from h28), if_neg h17, Md_text_54, h28, if_neg (show ¬ nI 4 = 0 by decide), if_neg (show ¬ nI 4 = 1 by decide), if_neg (show ¬ nI 4 = 2 by decide), if_neg (show ¬ nI 4 = 3 by decide)]
theorem EM_end {b : Nat → Nat} {nb : Nat} {τ0 τ : gx_R} {f t : Nat} (h : EM b nb τ0 τ f t) (g : Nat) : EndF b nb τ0 (Md_text_44 (g + 1) τ) f t := ⟨τ, by rw [Md_text_44, Md_text_44_B, if_neg (EM_n h).1], ⟨h.1.1, Nat.pos_iff_ne_zero.mp h.1.2.1, h.1.2.2⟩, h.2.1, h.2.2.1⟩
theorem rI_9 : ∀ k, k < 30 → (rI k ≤ 9 ↔ k ≤ 9) ∧ (k ≤ 9 → rI k = k) ∧ rI k < 30 := by decide +kernel
/-- whether the token is the name of a clause -/
theorem nm_9 {b : Nat → Nat} {nb t : Nat} {τ : gx_R} (h : LexR τ b nb t) : (τ 109 17 = 1 ∧ τ 109 18 ≤ 9) ↔ kd b nb t ≤ 9 := by
  have hk := h.2.2.2
  have ekd : (if tkS b nb t = nb then 44 else tkK b nb (tkS b nb t)) = kd b nb t := rfl
  rw [ekd] at hk
  rcases hk with ⟨k1, k2, k3⟩ | ⟨k1, k2, k3⟩ | ⟨k1, k1', k2, k3⟩ | ⟨k1, k2⟩ | ⟨k1, k2⟩
  · have := rI_9 _ k1
    rw [k2, k3]
    constructor
    · rintro ⟨-, z⟩
      exact this.1.mp ((nI_leI (b := 9) (by omega) (by omega)).mp z)
    · intro z
      exact ⟨rfl, (nI_leI (b := 9) (by omega) (by omega)).mpr (this.1.mpr z)⟩
  · rw [k2]; exact ⟨fun z => absurd z.1 (by decide), fun z => by omega⟩
  · rw [k2]; exact ⟨fun z => absurd z.1 (by decide), fun z => by omega⟩
  · rw [k2]; exact ⟨fun z => absurd z.1 (by decide), fun z => by omega⟩
  · constructor
    · rintro ⟨z, -⟩
      rcases k2 with k2 | ⟨k2, -⟩ <;> rw [k2] at z <;> exact absurd z (by decide)
    · intro z; omega
theorem C_bad {b : Nat → Nat} {nb r0 : Nat} {τ0 τ : gx_R} {t : Nat} {fr ws : List (Nat × Nat)} {n : Nat} {ck ca : Nat → Nat} (h : MR b nb r0 τ0 τ t fr ws 4 n ck ca) (hk : kd b nb t ≠ 44) (h9 : ¬ kd b nb t ≤ 9) (f : Nat) : EndF b nb τ0 (Md_text_44 (f + 2) τ) 1 t := by
  obtain ⟨τ1, e1, e2⟩ := errs_M h 1 (by omega)
  have e1 : Md_errs 1 τ = some ((), τ1) := e1
  have e8 : Md_clause_8 τ = some ((), τ1) := by rw [Md_clause_8, e1, w_bd]
  have ec : Md_clause τ = some ((), τ1) := by
    rw [Md_clause]
    by_cases c1 : τ 109 17 = 1
    · rw [if_pos c1]
      by_cases c2 : τ 109 18 ≤ 9
      · exact absurd ((nm_9 h.2.2.1).mp ⟨c1, c2⟩) h9
      · rw [if_neg c2, e8]
    · rw [if_neg c1, e8]
  rw [C_go h hk, ec, w_bd]
  exact EM_end e2 f
/-! whether a law was told -/
theorem wt_1 {τ : gx_R} {q : Nat} (hq : τ 109 30 = nI q) (hq2 : q ≤ 24) (x : Int32) : ∀ m i f, q - i ≤ m → i ≤ 24 → m < f → Md_wasTold_4 f x 1 (nI i) τ = some (1, τ) := by
  intro m
  induction m with
  | zero =>
    intro i f h1 h2 h3
    obtain ⟨f, rfl⟩ : ∃ g, f = g + 1 := ⟨f - 1, by omega⟩
    rw [Md_wasTold_4, Md_wasTold_4_B, hq, if_pos ((nI_leI (by omega) (by omega)).mpr (by omega)), bo_1, w_ck]
  | succ m ih =>
    intro i f h1 h2 h3
    obtain ⟨f, rfl⟩ : ∃ g, f = g + 1 := ⟨f - 1, by omega⟩
    by_cases c : q ≤ i
    · rw [Md_wasTold_4, Md_wasTold_4_B, hq, if_pos ((nI_leI (by omega) (by omega)).mpr c), bo_1, w_ck]
    · rw [Md_wasTold_4, Md_wasTold_4_B, hq, if_neg (fun z => c ((nI_leI (by omega) (by omega)).mp z)), if_neg (show ¬ (1 : Int32) = 0 by decide), Md_wasTold_16, Md_wasTold_19, show nI i + 1 = nI (i + 1) from nI_add _ 1]
      exact ih (i + 1) f (by omega) (by omega) (by omega)
theorem wt_0 {τ : gx_R} {q : Nat} (hq : τ 109 30 = nI q) (hq2 : q ≤ 24) (x : Int32) : ∀ m i f, q - i ≤ m → i ≤ 24 → m < f → ((∀ k, i ≤ k → k < q → ¬ τ 126 k = x) → Md_wasTold_4 f x 0 (nI i) τ = some (0, τ)) ∧ ((∃ k, i ≤ k ∧ k < q ∧ τ 126 k = x) → Md_wasTold_4 f x 0 (nI i) τ = some (1, τ)) := by
  intro m
  induction m with
  | zero =>
    intro i f h1 h2 h3
    obtain ⟨f, rfl⟩ : ∃ g, f = g + 1 := ⟨f - 1, by omega⟩
    refine ⟨fun _ => ?_, fun ⟨k, k1, k2, _⟩ => by omega⟩
    rw [Md_wasTold_4, Md_wasTold_4_B, hq, if_pos ((nI_leI (by omega) (by omega)).mpr (by omega)), bo_0, w_ck]
  | succ m ih =>
    intro i f h1 h2 h3
    obtain ⟨f, rfl⟩ : ∃ g, f = g + 1 := ⟨f - 1, by omega⟩
    by_cases c : q ≤ i
    · refine ⟨fun _ => ?_, fun ⟨k, k1, k2, _⟩ => by omega⟩
      rw [Md_wasTold_4, Md_wasTold_4_B, hq, if_pos ((nI_leI (by omega) (by omega)).mpr c), bo_0, w_ck]
    · obtain ⟨i1, i2⟩ := ih (i + 1) f (by omega) (by omega) (by omega)
      have e : Md_wasTold_4 (f + 1) x 0 (nI i) τ = if τ 126 i = x then Md_wasTold_4 f x 1 (nI (i + 1)) τ else Md_wasTold_4 f x 0 (nI (i + 1)) τ := by
        rw [Md_wasTold_4, Md_wasTold_4_B, hq, if_neg (fun z => c ((nI_leI (by omega) (by omega)).mp z)), if_pos rfl, ix_n (by omega), decide_eq_true (show i < 24 by omega), w_ck, cl_n (by omega), Md_wasTold_16, Md_wasTold_19, Md_wasTold_19, show nI i + 1 = nI (i + 1) from nI_add _ 1]
      rw [e]
      by_cases d : τ 126 i = x
      · rw [if_pos d]
        exact ⟨fun h => absurd d (h i (Nat.le_refl _) (by omega)), fun _ => wt_1 hq hq2 x m (i + 1) f (by omega) (by omega) (by omega)⟩
      · rw [if_neg d]
        refine ⟨fun h => i1 (fun k k1 k2 => h k (by omega) k2), fun ⟨k, k1, k2, k3⟩ => i2 ⟨k, ?_, k2, k3⟩⟩
        by_cases z : k = i
        · rw [z] at k3; exact absurd k3 d
        · omega
