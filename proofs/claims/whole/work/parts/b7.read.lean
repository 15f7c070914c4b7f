/-! ===== a clause; all clauses ===== -/
theorem clause_v {b : Nat → Nat} {nb T : Nat} {σb τb σ τ : gx_R} {t q cn rn : Nat} (h : TI b nb T σb τb σ τ t q cn rn) (hk : kd b nb t ≠ 44) : CFail b nb T σb τb t τ (Re_clause σ) ∨ CNext b nb T σb τb t τ (Re_clause σ) := by
  have h' := h
  obtain ⟨⟨ck, ca, hC⟩, ⟨ck', ca', hM⟩, ⟨hq, hq43, hq30⟩, ⟨hcr, hrt⟩, hRc, hRd, hCl, hLw⟩ := h
  have htT : t ≤ T := hC.2.1
  obtain ⟨F1, F2, F3⟩ := name_F hC hq43 hq
  by_cases c9 : kd b nb t ≤ 9
  · have E := fun g => name_E hM hq30 hq c9 g
    by_cases c4 : kd b nb t < 4
    · rcases hLw _ c4 with ⟨r1, r2⟩ | ⟨c0, r0, k, r1, r2, r3, r4, r5, r6⟩
      · by_cases cq : q < 24
        · exact clause_l h' cq c4 r1 r2
        · exact Or.inl ⟨6, t, 2, σ, Nat.le_refl _, htT, by omega, hRc, F3 (by omega) c9 (fun _ => r1), fun f => EndF_t hRd ((E f).2 (by omega) (fun _ => r2))⟩
      · obtain ⟨len, tp, ⟨z1, z2, z3, z4⟩, -⟩ := r6
        exact Or.inl ⟨4, t, 2, σ, Nat.le_refl _, htT, by omega, hRc, F2 c4 (fun z => by rw [r4] at z; exact (n_m1 (by omega)).mp z), fun f => EndF_t hRd ((E f).1 c4 ⟨k, r1, r2⟩)⟩
    · by_cases cq : q < 24
      · exact clause_d h' cq ⟨by omega, c9⟩
      · exact Or.inl ⟨6, t, 2, σ, Nat.le_refl _, htT, by omega, hRc, F3 (by omega) c9 (fun z => absurd z c4), fun f => EndF_t hRd ((E f).2 (by omega) (fun z => absurd z c4))⟩
  · exact Or.inl ⟨1, t, 2, σ, Nat.le_refl _, htT, by omega, hRc, F1 c9, fun f => EndF_t hRd (C_bad hM hk c9 f)⟩
theorem read_v {b : Nat → Nat} {nb T : Nat} {σb τb : gx_R} : ∀ m t i fu q cn rn σ τ, T - t ≤ m → m < fu → i ≤ t → TI b nb T σb τb σ τ t q cn rn → CFail b nb T σb τb t τ (Re_read_29 fu (nI i) σ) ∨ ∃ σ' τ' t' k q' cn' rn', Re_read_29 fu (nI i) σ = some (1, σ') ∧ (∀ f, Md_text_44 (f + k) τ = Md_text_72 τ') ∧ k ≤ 8 * (t' - t) + 1 ∧ t' ≤ T ∧ t ≤ t' ∧ kd b nb t' = 44 ∧ TI b nb T σb τb σ' τ' t' q' cn' rn' := by
  intro m
  induction m with
  | zero =>
    intro t i fu q cn rn σ τ h1 h2 h3 h
    obtain ⟨fu, rfl⟩ : ∃ g, fu = g + 1 := ⟨fu - 1, by omega⟩
    have h' := h
    obtain ⟨⟨ck, ca, hC⟩, ⟨ck', ca', hM⟩, -⟩ := h
    have hT := hC.1.1
    have htT : t ≤ T := hC.2.1
    have e44 : kd b nb t = 44 := by rw [show t = T by omega]; unfold kd; exact if_pos hC.1.2.2.1
    have h8 : σ 39 8 = nI (kd b nb t) := hC.2.2.2.1
    refine Or.inr ⟨σ, τ, t, 1, q, cn, rn, ?_, fun f => C_end hM e44 f, by omega, htT, Nat.le_refl _, e44, h'⟩
    rw [Re_read_29, Re_read_29_B, if_neg (show ¬ (300 : Int32) < nI i from fun z => by have := (nI_ltI (a := 300) (by omega) (by omega)).mp z; omega), h8, e44, if_pos (show nI 44 = 44 from rfl)]
  | succ m ih =>
    intro t i fu q cn rn σ τ h1 h2 h3 h
    obtain ⟨fu, rfl⟩ : ∃ g, fu = g + 1 := ⟨fu - 1, by omega⟩
    have h' := h
    obtain ⟨⟨ck, ca, hC⟩, ⟨ck', ca', hM⟩, -⟩ := h
    have hT := hC.1.1
    have htT : t ≤ T := hC.2.1
    have h100 := @kd_100 b nb t
    have h8 : σ 39 8 = nI (kd b nb t) := hC.2.2.2.1
    have i3 : ¬ (300 : Int32) < nI i := fun z => by have := (nI_ltI (a := 300) (by omega) (by omega)).mp z; omega
    by_cases e44 : kd b nb t = 44
    · refine Or.inr ⟨σ, τ, t, 1, q, cn, rn, ?_, fun f => C_end hM e44 f, by omega, htT, Nat.le_refl _, e44, h'⟩
      rw [Re_read_29, Re_read_29_B, if_neg i3, h8, e44, if_pos (show nI 44 = 44 from rfl)]
    · have er : Re_read_29 (fu + 1) (nI i) σ = z_bd (Re_clause σ) (fun r9 σ10 => if r9 = 0 then some ((0 : Int32), σ10) else Re_read_29 fu (nI (i + 1)) σ10) := by
        rw [Re_read_29, Re_read_29_B, if_neg i3, h8, if_neg (show ¬ nI (kd b nb t) = 44 from fun z => e44 ((kI h100 44 (by omega)).mp z)), show nI i + 1 = nI (i + 1) from nI_add _ 1]
      rcases clause_v h' e44 with ⟨e, t', k, σB, f1, f2, f3, f4, ⟨σ2, f5, f5'⟩, f6⟩ | ⟨σ2, τ2, t2, k2, q2, cn2, rn2, g1, g2, g3, g4, g5⟩
      · exact Or.inl ⟨e, t', k, σB, f1, f2, f3, f4, ⟨σ2, by rw [er, f5, w_bd, if_pos rfl], f5'⟩, f6⟩
      · rcases ih t2 (i + 1) fu q2 cn2 rn2 σ2 τ2 (by omega) (by omega) (by omega) g5 with ⟨e, t', k, σB, f1, f2, f3, f4, f5, f6⟩ | ⟨σ3, τ3, t3, k3, q3, cn3, rn3, x1, x2, x3, x4, x5, x6, x7⟩
        · refine Or.inl ⟨e, t', k + k2, σB, by omega, f2, by omega, f4, ?_, fun f => ?_⟩
          · rw [er, g1, w_bd, if_neg (show ¬ (1 : Int32) = 0 by decide)]; exact f5
          · rw [show f + (k + k2) = f + k + k2 by omega, g2]; exact f6 f
        · refine Or.inr ⟨σ3, τ3, t3, k3 + k2, q3, cn3, rn3, ?_, fun f => ?_, by omega, x4, by omega, x6, x7⟩
          · rw [er, g1, w_bd, if_neg (show ¬ (1 : Int32) = 0 by decide)]; exact x1
          · rw [show f + (k3 + k2) = f + k3 + k2 by omega, g2, x2]
