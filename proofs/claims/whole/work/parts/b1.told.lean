/-! ===== the texts while they are read ===== -/
def RcT (σb σ : gx_R) : Prop := (∀ c, c ≠ 39 → ¬ (43 ≤ c ∧ c ≤ 49) → σ c = σb c) ∧ (∀ j, j ≠ 7 → j ≠ 8 → j ≠ 9 → σ 39 j = σb 39 j) ∧ ∀ j, j ≠ 4 → j ≠ 7 → σ 43 j = σb 43 j
def ClR (σ τ : gx_R) (k : Nat) : Prop := ∃ x, x < 10 ∧ σ 44 k = nI x ∧ τ 126 k = nI x ∧ (4 ≤ x → τ 128 k = σ 45 k) ∧ (x = 9 → ∃ h, 1 ≤ h ∧ h ≤ 60 ∧ σ 45 k = nI h) ∧ (x = 4 ∨ x = 5 ∨ x = 8 → τ 129 k = σ 46 k) ∧ (x = 8 → τ 130 k = σ 47 k)
def LwR (σ τ : gx_R) (q cn rn l : Nat) : Prop := (σ 48 l = -1 ∧ ∀ k, k < q → τ 126 k ≠ nI l) ∨ ∃ c0 r0 k, k < q ∧ τ 126 k = nI l ∧ (∀ k', k' < q → τ 126 k' = nI l → k' = k) ∧ σ 48 l = nI c0 ∧ τ 127 k = nI r0 ∧ CodeZ (σ 49) (τ 131) (τ 132) c0 r0 l cn rn
/-- between two clauses: q told, the next token t -/
def TI (b : Nat → Nat) (nb T : Nat) (σb τb σ τ : gx_R) (t q cn rn : Nat) : Prop := (∃ ck ca, CR b nb T cn σ σ t 0 ck ca) ∧ (∃ ck ca, MR b nb rn τ τ t [] [] 4 0 ck ca) ∧ (q ≤ 24 ∧ σ 43 4 = nI q ∧ τ 109 30 = nI q) ∧ (cn ≤ rn ∧ rn ≤ t) ∧ RcT σb σ ∧ RdG τb τ ∧ (∀ k, k < q → ClR σ τ k) ∧ ∀ l, l < 4 → LwR σ τ q cn rn l
theorem RcT_E {σb σ0 σ : gx_R} {c0 : Nat} (h0 : RcT σb σ0) (h : RcF c0 σ0 σ) : RcT σb σ := by
  obtain ⟨h, ⟨h11, h12⟩, -⟩ := h
  refine ⟨fun c c1 c2 => ?_, fun j j1 j2 j3 => ?_, fun j j1 j2 => ?_⟩
  · rw [h.1 c c1 (by omega) (by omega)]; exact h0.1 c c1 c2
  · by_cases d1 : j = 11
    · rw [d1, h11]; exact h0.2.1 11 (by omega) (by omega) (by omega)
    · by_cases d2 : j = 12
      · rw [d2, h12]; exact h0.2.1 12 (by omega) (by omega) (by omega)
      · rw [h.2.1 j j1 j2 d1 d2]; exact h0.2.1 j j1 j2 j3
  · rw [h.2.2 j j2]; exact h0.2.2 j j1 j2
theorem RdG_t {τb τ0 τ : gx_R} (h0 : RdG τb τ0) (h : RdG τ0 τ) : RdG τb τ := ⟨fun c c1 c2 => by rw [h.1 c c1 c2]; exact h0.1 c c1 c2, fun j hj => by rw [h.2 j hj]; exact h0.2 j hj⟩
/-- the machine's start of a clause: name and place are kept, the next token is read -/
theorem C_36 {b : Nat → Nat} {nb r0 q x : Nat} {τ0 τ : gx_R} {t : Nat} {ck ca : Nat → Nat} (h : MR b nb r0 τ0 τ t [] [] 4 0 ck ca) (h31 : τ0 109 31 = nI x) (hq : τ0 109 30 = nI q) (hq2 : q < 24) (hx : x < 10) (hk : kd b nb t ≠ 44) : ∃ τ', MR b nb r0 (gx_up (gx_up τ0 126 q (nI x)) 127 q (nI r0)) τ' (t + 1) [] [] 4 0 ck ca ∧ Md_clause_36 τ = if 3 < x then DD τ' else z_bd (Md_opensFrame (1 : Int32) τ') (fun _ σ37 => some ((), (gx_up σ37 109 28 (1 : Int32)))) := by
  have e31 := (m31 h).trans h31
  have e30 : τ 109 30 = nI q := by rw [h.2.2.2.2.2.2.2.2.2.2.2.2 30 (by omega) (by omega) (by omega) (by omega) (by omega) (by omega)]; exact hq
  have e37 : τ 109 37 = nI r0 := h.2.2.2.2.2.2.2.2.1
  obtain ⟨τ1, x1, x2⟩ := A_next (A_b2 (A_b2 h (c := 126) (j := q) (nI x) (by omega)) (c := 127) (j := q) (nI r0) (by omega)) (kd_lt h.2.2.1.1 hk)
  have f31 : τ1 109 31 = nI x := by
    rw [m31 x2, up_c _ _ _ _ (by omega), up_c _ _ _ _ (by omega)]; exact h31
  refine ⟨τ1, x2, ?_⟩
  rw [Md_clause_36, m19 h, if_pos (show (0 : Int32) ≤ 0 by decide), e30, ix_n (by omega), decide_eq_true hq2, w_ck, cl_n (by omega), up_c _ _ _ _ (show (109 : Nat) ≠ 126 by omega), e30, ix_n (by omega), decide_eq_true hq2, w_ck, cl_n (by omega), up_c _ _ _ _ (show (109 : Nat) ≠ 126 by omega), e31, e37, x1, w_bd, f31]
  by_cases c : 3 < x
  · rw [if_pos (show (3 : Int32) < nI x from (nI_ltI (a := 3) (by omega) (by omega)).mpr c), if_pos c]
    rw [DD]
    cases Md_doing τ1 with
    | none => rfl
    | some r => rfl
  · rw [if_neg (show ¬ (3 : Int32) < nI x from fun z => c ((nI_ltI (a := 3) (by omega) (by omega)).mp z)), if_neg c]
