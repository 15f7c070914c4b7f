/-! ===== names that fail: the reference ===== -/
theorem EM_31 {b : Nat → Nat} {nb : Nat} {τ0 τ : gx_R} {f t : Nat} {x : Int32} (h : EM b nb (gx_up τ0 109 31 x) τ f t) (g : Nat) : EndF b nb τ0 (Md_text_44 (g + 1) τ) f t := by
  obtain ⟨τ', e1, e2, e3, e4⟩ := EM_end h g
  exact ⟨τ', e1, e2, e3, fun c c1 c2 => by rw [e4.1 c c1 c2, gx_up_ne c1], fun j hj => by rw [e4.2 j hj, up_p _ _ _ (by omega)]⟩
theorem name_E {b : Nat → Nat} {nb rn q : Nat} {τ : gx_R} {t : Nat} {ck' ca' : Nat → Nat} (hM : MR b nb rn τ τ t [] [] 4 0 ck' ca') (hq : τ 109 30 = nI q) (hq2 : q ≤ 24) (h9 : kd b nb t ≤ 9) (g : Nat) : (kd b nb t < 4 → (∃ k, k < q ∧ τ 126 k = nI (kd b nb t)) → EndF b nb τ (Md_text_44 (g + 2) τ) 4 t) ∧ (q = 24 → (kd b nb t < 4 → ∀ k, k < q → ¬ τ 126 k = nI (kd b nb t)) → EndF b nb τ (Md_text_44 (g + 2) τ) 6 t) := by
  obtain ⟨l1, l2⟩ := nm_x hM.2.2.1 h9
  have k9 : nI (kd b nb t) ≤ 9 := (nI_leI (b := 9) (by omega) (by omega)).mpr h9
  have k3 : ((3 : Int32) < nI (kd b nb t)) ↔ 3 < kd b nb t := nI_ltI (a := 3) (by omega) (by omega)
  refine ⟨fun c d => ?_, fun c d => ?_⟩
  · obtain ⟨τ1, e1, e2⟩ := errs_M (A_31 hM (nI (kd b nb t))) 4 (by omega)
    have e1 : Md_errs 4 (gx_up τ 109 31 (nI (kd b nb t))) = some ((), τ1) := e1
    have ec : Md_clause τ = some ((), τ1) := by
      rw [Md_clause, if_pos l1, l2, if_pos k9, up_e, if_neg (fun z => by have := k3.mp z; omega), (told_v hM hq hq2).2 d, w_bd, if_neg (show ¬ (1 : Int32) = 0 by decide), e1, w_bd, EM_36 e2]
    rw [show g + 2 = g + 1 + 1 from rfl, C_go hM (by omega), ec, w_bd]
    exact EM_31 e2 g
  · obtain ⟨τ1, e1, e2⟩ := errs_M (A_31 hM (nI (kd b nb t))) 6 (by omega)
    have e1 : Md_errs 6 (gx_up τ 109 31 (nI (kd b nb t))) = some ((), τ1) := e1
    have e29 : Md_clause_29 Md_clause_36 (gx_up τ 109 31 (nI (kd b nb t))) = some ((), τ1) := by
      rw [Md_clause_29, up_p _ _ _ (show (30 : Nat) ≠ 31 by omega), hq, c, if_pos (show nI 24 = 24 from rfl), e1, w_bd, EM_36 e2]
    have ec : Md_clause τ = some ((), τ1) := by
      rw [Md_clause, if_pos l1, l2, if_pos k9, up_e]
      by_cases f : 3 < kd b nb t
      · rw [if_pos (k3.mpr f), e29]
      · rw [if_neg (fun z => f (k3.mp z)), (told_v hM hq hq2).1 (d (by omega)), w_bd, if_pos rfl, e29]
    rw [show g + 2 = g + 1 + 1 from rfl, C_go hM (by omega), ec, w_bd]
    exact EM_31 e2 g
