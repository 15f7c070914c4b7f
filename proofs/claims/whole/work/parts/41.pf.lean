set_option maxHeartbeats 16000000 in
set_option maxRecDepth 20000 in
theorem vv_Cl_pass_110_9 (D : Nat) (hD : 5 ≤ D + 1) (rr : Unit) (σ' : gx_R) (K94 : Nat → Int32 → gx_R → Option (Unit × gx_R)) (hK94 : ∀ (b1 : Nat) (a2 : Int32) (σ : gx_R), (b1 = 9 ∨ b1 = 56) → K94 b1 a2 σ = some (rr, σ') → gx_Ev lay0 (E0 D) tt_34 none σ' 94 [.null, .ref b1, .int a2] [] σ) (a2 : Int32) (σ : gx_R) (hf : Cl_pass_110 K94 9 a2 σ = some (rr, σ')) : gx_Ev lay0 (E0 D) tt_34 none σ' 110 [.null, .ref 9, .int a2] [] σ := by
  unfold Cl_pass_110 at hf
  exact gx_go_ 2 [] [] 94 [.null, .ref 9, .int (a2 + 1)] [] σ rfl trivial (gx_fgt (ls' := [.null, .ref 9, .int (a2 + 1)]) ⟨Or.inl rfl, Or.inr rfl, Or.inr rfl, trivial⟩ (hK94 9 (a2 + 1) σ (Or.inl rfl) hf))
set_option maxHeartbeats 16000000 in
set_option maxRecDepth 20000 in
theorem vv_Cl_pass_110_56 (D : Nat) (hD : 5 ≤ D + 1) (rr : Unit) (σ' : gx_R) (K94 : Nat → Int32 → gx_R → Option (Unit × gx_R)) (hK94 : ∀ (b1 : Nat) (a2 : Int32) (σ : gx_R), (b1 = 9 ∨ b1 = 56) → K94 b1 a2 σ = some (rr, σ') → gx_Ev lay0 (E0 D) tt_34 none σ' 94 [.null, .ref b1, .int a2] [] σ) (a2 : Int32) (σ : gx_R) (hf : Cl_pass_110 K94 56 a2 σ = some (rr, σ')) : gx_Ev lay0 (E0 D) tt_34 none σ' 110 [.null, .ref 56, .int a2] [] σ := by
  unfold Cl_pass_110 at hf
  exact gx_go_ 2 [] [] 94 [.null, .ref 56, .int (a2 + 1)] [] σ rfl trivial (gx_fgt (ls' := [.null, .ref 56, .int (a2 + 1)]) ⟨Or.inl rfl, Or.inr rfl, Or.inr rfl, trivial⟩ (hK94 56 (a2 + 1) σ (Or.inr rfl) hf))
set_option maxHeartbeats 16000000 in
set_option maxRecDepth 20000 in
theorem vv_Cl_pass_110 (D : Nat) (hD : 5 ≤ D + 1) (rr : Unit) (σ' : gx_R) (K94 : Nat → Int32 → gx_R → Option (Unit × gx_R)) (hK94 : ∀ (b1 : Nat) (a2 : Int32) (σ : gx_R), (b1 = 9 ∨ b1 = 56) → K94 b1 a2 σ = some (rr, σ') → gx_Ev lay0 (E0 D) tt_34 none σ' 94 [.null, .ref b1, .int a2] [] σ) (b1 : Nat) (a2 : Int32) (σ : gx_R) (hb1 : b1 = 9 ∨ b1 = 56) (hf : Cl_pass_110 K94 b1 a2 σ = some (rr, σ')) : gx_Ev lay0 (E0 D) tt_34 none σ' 110 [.null, .ref b1, .int a2] [] σ := by
  rcases hb1 with rfl | rfl
  · exact vv_Cl_pass_110_9 D hD rr σ'  K94 hK94 a2 σ hf
  · exact vv_Cl_pass_110_56 D hD rr σ'  K94 hK94 a2 σ hf
set_option maxHeartbeats 16000000 in
set_option maxRecDepth 20000 in
theorem vv_Cl_pass_112_9 (D : Nat) (hD : 5 ≤ D + 1) (rr : Unit) (σ' : gx_R) (σ : gx_R) (hf : Cl_pass_112 9 σ = some (rr, σ')) : gx_Ev lay0 (E0 D) tt_34 none σ' 112 [.null, .ref 9, .null] [] σ := by
  unfold Cl_pass_112 at hf
  obtain ⟨e1, e2⟩ := z_ret hf
  subst e1
  subst e2
  exact gx_end 7 [] [] rfl trivial
set_option maxHeartbeats 16000000 in
set_option maxRecDepth 20000 in
theorem vv_Cl_pass_112_56 (D : Nat) (hD : 5 ≤ D + 1) (rr : Unit) (σ' : gx_R) (σ : gx_R) (hf : Cl_pass_112 56 σ = some (rr, σ')) : gx_Ev lay0 (E0 D) tt_34 none σ' 112 [.null, .ref 56, .null] [] σ := by
  unfold Cl_pass_112 at hf
  obtain ⟨e1, e2⟩ := z_ret hf
  subst e1
  subst e2
  exact gx_end 7 [] [] rfl trivial
set_option maxHeartbeats 16000000 in
set_option maxRecDepth 20000 in
theorem vv_Cl_pass_112 (D : Nat) (hD : 5 ≤ D + 1) (rr : Unit) (σ' : gx_R) (b1 : Nat) (σ : gx_R) (hb1 : b1 = 9 ∨ b1 = 56) (hf : Cl_pass_112 b1 σ = some (rr, σ')) : gx_Ev lay0 (E0 D) tt_34 none σ' 112 [.null, .ref b1, .null] [] σ := by
  rcases hb1 with rfl | rfl
  · exact vv_Cl_pass_112_9 D hD rr σ'  σ hf
  · exact vv_Cl_pass_112_56 D hD rr σ'  σ hf
set_option maxHeartbeats 16000000 in
set_option maxRecDepth 20000 in
theorem vv_Cl_pass_94_B_9 (D : Nat) (hD : 5 ≤ D + 1) (rr : Unit) (σ' : gx_R) (K94 : Nat → Int32 → gx_R → Option (Unit × gx_R)) (hK94 : ∀ (b1 : Nat) (a2 : Int32) (σ : gx_R), (b1 = 9 ∨ b1 = 56) → K94 b1 a2 σ = some (rr, σ') → gx_Ev lay0 (E0 D) tt_34 none σ' 94 [.null, .ref b1, .int a2] [] σ) (a2 : Int32) (σ : gx_R) (hf : Cl_pass_94_B K94 9 a2 σ = some (rr, σ')) : gx_Ev lay0 (E0 D) tt_34 none σ' 94 [.null, .ref 9, .int a2] [] σ := by
  unfold Cl_pass_94_B at hf
  rcases z_if_inv hf with ⟨h1, hf⟩ | ⟨h1, hf⟩
  · exact gx_go_ 3 [.inl 1] [(8 : Int32) ≤ a2] 112 [.null, .ref 9, .int a2] [] σ rfl ⟨h1, trivial⟩ (gx_fgt (ls' := [.null, .ref 9, .null]) ⟨Or.inl rfl, Or.inr rfl, Or.inl rfl, trivial⟩ (vv_Cl_pass_112 D hD rr σ' 9 σ (Or.inl rfl) hf))
  · obtain ⟨h2, hf⟩ := z_ck_inv hf
    rcases z_if_inv hf with ⟨h3, hf⟩ | ⟨h3, hf⟩
    · exact gx_go_ 8 [.inl 0, .inl 1] [¬ ((8 : Int32) ≤ a2), vp_in a2 8, (σ 10 a2.toNatClampNeg) = 0] 110 [.null, .ref 9, .int a2] [] σ rfl ⟨h1, (z_ix_in h2), h3, trivial⟩ (gx_fgt (ls' := [.null, .ref 9, .int a2]) ⟨Or.inl rfl, Or.inr rfl, Or.inr rfl, trivial⟩ (vv_Cl_pass_110 D hD rr σ' K94 hK94 9 a2 σ (Or.inl rfl) hf))
    · obtain ⟨h4, hf⟩ := z_ck_inv hf
      obtain ⟨h5, hf⟩ := z_ck_inv hf
      exact gx_go_ 16 [.inl 0, .inl 0] [¬ ((8 : Int32) ≤ a2), vp_in a2 8, ¬ ((σ 10 a2.toNatClampNeg) = 0), vp_in a2 8, vp_in a2 8] 110 [.null, .ref 9, .int a2] [] (gx_up σ 12 a2.toNatClampNeg ((σ 12 a2.toNatClampNeg) + (1 : Int32))) rfl ⟨h1, (z_ix_in h2), h3, (z_ix_in h4), (z_ix_in h5), trivial⟩ (gx_fgt (ls' := [.null, .ref 9, .int a2]) ⟨Or.inl rfl, Or.inr rfl, Or.inr rfl, trivial⟩ (vv_Cl_pass_110 D hD rr σ' K94 hK94 9 a2 (gx_up σ 12 a2.toNatClampNeg ((σ 12 a2.toNatClampNeg) + (1 : Int32))) (Or.inl rfl) hf))
set_option maxHeartbeats 16000000 in
set_option maxRecDepth 20000 in
theorem vv_Cl_pass_94_B_56 (D : Nat) (hD : 5 ≤ D + 1) (rr : Unit) (σ' : gx_R) (K94 : Nat → Int32 → gx_R → Option (Unit × gx_R)) (hK94 : ∀ (b1 : Nat) (a2 : Int32) (σ : gx_R), (b1 = 9 ∨ b1 = 56) → K94 b1 a2 σ = some (rr, σ') → gx_Ev lay0 (E0 D) tt_34 none σ' 94 [.null, .ref b1, .int a2] [] σ) (a2 : Int32) (σ : gx_R) (hf : Cl_pass_94_B K94 56 a2 σ = some (rr, σ')) : gx_Ev lay0 (E0 D) tt_34 none σ' 94 [.null, .ref 56, .int a2] [] σ := by
  unfold Cl_pass_94_B at hf
  rcases z_if_inv hf with ⟨h1, hf⟩ | ⟨h1, hf⟩
  · exact gx_go_ 3 [.inl 1] [(8 : Int32) ≤ a2] 112 [.null, .ref 56, .int a2] [] σ rfl ⟨h1, trivial⟩ (gx_fgt (ls' := [.null, .ref 56, .null]) ⟨Or.inl rfl, Or.inr rfl, Or.inl rfl, trivial⟩ (vv_Cl_pass_112 D hD rr σ' 56 σ (Or.inr rfl) hf))
  · obtain ⟨h2, hf⟩ := z_ck_inv hf
    rcases z_if_inv hf with ⟨h3, hf⟩ | ⟨h3, hf⟩
    · exact gx_go_ 8 [.inl 0, .inl 1] [¬ ((8 : Int32) ≤ a2), vp_in a2 8, (σ 57 a2.toNatClampNeg) = 0] 110 [.null, .ref 56, .int a2] [] σ rfl ⟨h1, (z_ix_in h2), h3, trivial⟩ (gx_fgt (ls' := [.null, .ref 56, .int a2]) ⟨Or.inl rfl, Or.inr rfl, Or.inr rfl, trivial⟩ (vv_Cl_pass_110 D hD rr σ' K94 hK94 56 a2 σ (Or.inr rfl) hf))
    · obtain ⟨h4, hf⟩ := z_ck_inv hf
      obtain ⟨h5, hf⟩ := z_ck_inv hf
      exact gx_go_ 16 [.inl 0, .inl 0] [¬ ((8 : Int32) ≤ a2), vp_in a2 8, ¬ ((σ 57 a2.toNatClampNeg) = 0), vp_in a2 8, vp_in a2 8] 110 [.null, .ref 56, .int a2] [] (gx_up σ 59 a2.toNatClampNeg ((σ 59 a2.toNatClampNeg) + (1 : Int32))) rfl ⟨h1, (z_ix_in h2), h3, (z_ix_in h4), (z_ix_in h5), trivial⟩ (gx_fgt (ls' := [.null, .ref 56, .int a2]) ⟨Or.inl rfl, Or.inr rfl, Or.inr rfl, trivial⟩ (vv_Cl_pass_110 D hD rr σ' K94 hK94 56 a2 (gx_up σ 59 a2.toNatClampNeg ((σ 59 a2.toNatClampNeg) + (1 : Int32))) (Or.inr rfl) hf))
set_option maxHeartbeats 16000000 in
set_option maxRecDepth 20000 in
theorem vv_Cl_pass_94_B (D : Nat) (hD : 5 ≤ D + 1) (rr : Unit) (σ' : gx_R) (K94 : Nat → Int32 → gx_R → Option (Unit × gx_R)) (hK94 : ∀ (b1 : Nat) (a2 : Int32) (σ : gx_R), (b1 = 9 ∨ b1 = 56) → K94 b1 a2 σ = some (rr, σ') → gx_Ev lay0 (E0 D) tt_34 none σ' 94 [.null, .ref b1, .int a2] [] σ) (b1 : Nat) (a2 : Int32) (σ : gx_R) (hb1 : b1 = 9 ∨ b1 = 56) (hf : Cl_pass_94_B K94 b1 a2 σ = some (rr, σ')) : gx_Ev lay0 (E0 D) tt_34 none σ' 94 [.null, .ref b1, .int a2] [] σ := by
  rcases hb1 with rfl | rfl
  · exact vv_Cl_pass_94_B_9 D hD rr σ'  K94 hK94 a2 σ hf
  · exact vv_Cl_pass_94_B_56 D hD rr σ'  K94 hK94 a2 σ hf
set_option maxHeartbeats 16000000 in
set_option maxRecDepth 20000 in
theorem vv_Cl_pass_94 (D : Nat) (hD : 5 ≤ D + 1) (rr : Unit) (σ' : gx_R) : ∀ (n : Nat) (b1 : Nat) (a2 : Int32) (σ : gx_R), (b1 = 9 ∨ b1 = 56) → Cl_pass_94 n b1 a2 σ = some (rr, σ') → gx_Ev lay0 (E0 D) tt_34 none σ' 94 [.null, .ref b1, .int a2] [] σ := by
  intro n
  induction n with
  | zero => intro b1 a2 σ hb1 hf; cases hf
  | succ n ih => intro b1 a2 σ hb1 hf; exact vv_Cl_pass_94_B D hD rr σ'  (Cl_pass_94 n) ih b1 a2 σ hb1 hf
set_option maxHeartbeats 16000000 in
set_option maxRecDepth 20000 in
theorem vv_Cl_pass_75_9 (D : Nat) (hD : 5 ≤ D + 1) (rr : Unit) (σ' : gx_R) (K33 : Nat → Int32 → gx_R → Option (Unit × gx_R)) (hK33 : ∀ (b1 : Nat) (a2 : Int32) (σ : gx_R), (b1 = 9 ∨ b1 = 56) → K33 b1 a2 σ = some (rr, σ') → gx_Ev lay0 (E0 D) tt_34 none σ' 33 [.ref 53, .ref b1, .int a2] [] σ) (a2 : Int32) (σ : gx_R) (hf : Cl_pass_75 K33 9 a2 σ = some (rr, σ')) : gx_Ev lay0 (E0 D) tt_34 none σ' 75 [.ref 53, .ref 9, .int a2] [] σ := by
  unfold Cl_pass_75 at hf
  exact gx_go_ 2 [] [] 33 [.ref 53, .ref 9, .int (a2 + 1)] [] σ rfl trivial (gx_fgt (ls' := [.ref 53, .ref 9, .int (a2 + 1)]) ⟨Or.inr rfl, Or.inr rfl, Or.inr rfl, trivial⟩ (hK33 9 (a2 + 1) σ (Or.inl rfl) hf))
set_option maxHeartbeats 16000000 in
set_option maxRecDepth 20000 in
theorem vv_Cl_pass_75_56 (D : Nat) (hD : 5 ≤ D + 1) (rr : Unit) (σ' : gx_R) (K33 : Nat → Int32 → gx_R → Option (Unit × gx_R)) (hK33 : ∀ (b1 : Nat) (a2 : Int32) (σ : gx_R), (b1 = 9 ∨ b1 = 56) → K33 b1 a2 σ = some (rr, σ') → gx_Ev lay0 (E0 D) tt_34 none σ' 33 [.ref 53, .ref b1, .int a2] [] σ) (a2 : Int32) (σ : gx_R) (hf : Cl_pass_75 K33 56 a2 σ = some (rr, σ')) : gx_Ev lay0 (E0 D) tt_34 none σ' 75 [.ref 53, .ref 56, .int a2] [] σ := by
  unfold Cl_pass_75 at hf
  exact gx_go_ 2 [] [] 33 [.ref 53, .ref 56, .int (a2 + 1)] [] σ rfl trivial (gx_fgt (ls' := [.ref 53, .ref 56, .int (a2 + 1)]) ⟨Or.inr rfl, Or.inr rfl, Or.inr rfl, trivial⟩ (hK33 56 (a2 + 1) σ (Or.inr rfl) hf))
set_option maxHeartbeats 16000000 in
set_option maxRecDepth 20000 in
theorem vv_Cl_pass_75 (D : Nat) (hD : 5 ≤ D + 1) (rr : Unit) (σ' : gx_R) (K33 : Nat → Int32 → gx_R → Option (Unit × gx_R)) (hK33 : ∀ (b1 : Nat) (a2 : Int32) (σ : gx_R), (b1 = 9 ∨ b1 = 56) → K33 b1 a2 σ = some (rr, σ') → gx_Ev lay0 (E0 D) tt_34 none σ' 33 [.ref 53, .ref b1, .int a2] [] σ) (b1 : Nat) (a2 : Int32) (σ : gx_R) (hb1 : b1 = 9 ∨ b1 = 56) (hf : Cl_pass_75 K33 b1 a2 σ = some (rr, σ')) : gx_Ev lay0 (E0 D) tt_34 none σ' 75 [.ref 53, .ref b1, .int a2] [] σ := by
  rcases hb1 with rfl | rfl
  · exact vv_Cl_pass_75_9 D hD rr σ'  K33 hK33 a2 σ hf
  · exact vv_Cl_pass_75_56 D hD rr σ'  K33 hK33 a2 σ hf
set_option maxHeartbeats 16000000 in
set_option maxRecDepth 20000 in
theorem vv_Cl_pass_29_9 (D : Nat) (hD : 5 ≤ D + 1) (rr : Unit) (σ' : gx_R) (K13 : Nat → Int32 → gx_R → Option (Unit × gx_R)) (hK13 : ∀ (b1 : Nat) (a2 : Int32) (σ : gx_R), (b1 = 9 ∨ b1 = 56) → K13 b1 a2 σ = some (rr, σ') → gx_Ev lay0 (E0 D) tt_34 none σ' 13 [.ref 53, .ref b1, .int a2] [] σ) (a2 : Int32) (σ : gx_R) (hf : Cl_pass_29 K13 9 a2 σ = some (rr, σ')) : gx_Ev lay0 (E0 D) tt_34 none σ' 29 [.ref 53, .ref 9, .int a2] [] σ := by
  unfold Cl_pass_29 at hf
  exact gx_go_ 2 [] [] 13 [.ref 53, .ref 9, .int (a2 + 1)] [] σ rfl trivial (gx_fgt (ls' := [.ref 53, .ref 9, .int (a2 + 1)]) ⟨Or.inr rfl, Or.inr rfl, Or.inr rfl, trivial⟩ (hK13 9 (a2 + 1) σ (Or.inl rfl) hf))
set_option maxHeartbeats 16000000 in
set_option maxRecDepth 20000 in
theorem vv_Cl_pass_29_56 (D : Nat) (hD : 5 ≤ D + 1) (rr : Unit) (σ' : gx_R) (K13 : Nat → Int32 → gx_R → Option (Unit × gx_R)) (hK13 : ∀ (b1 : Nat) (a2 : Int32) (σ : gx_R), (b1 = 9 ∨ b1 = 56) → K13 b1 a2 σ = some (rr, σ') → gx_Ev lay0 (E0 D) tt_34 none σ' 13 [.ref 53, .ref b1, .int a2] [] σ) (a2 : Int32) (σ : gx_R) (hf : Cl_pass_29 K13 56 a2 σ = some (rr, σ')) : gx_Ev lay0 (E0 D) tt_34 none σ' 29 [.ref 53, .ref 56, .int a2] [] σ := by
  unfold Cl_pass_29 at hf
  exact gx_go_ 2 [] [] 13 [.ref 53, .ref 56, .int (a2 + 1)] [] σ rfl trivial (gx_fgt (ls' := [.ref 53, .ref 56, .int (a2 + 1)]) ⟨Or.inr rfl, Or.inr rfl, Or.inr rfl, trivial⟩ (hK13 56 (a2 + 1) σ (Or.inr rfl) hf))
set_option maxHeartbeats 16000000 in
set_option maxRecDepth 20000 in
theorem vv_Cl_pass_29 (D : Nat) (hD : 5 ≤ D + 1) (rr : Unit) (σ' : gx_R) (K13 : Nat → Int32 → gx_R → Option (Unit × gx_R)) (hK13 : ∀ (b1 : Nat) (a2 : Int32) (σ : gx_R), (b1 = 9 ∨ b1 = 56) → K13 b1 a2 σ = some (rr, σ') → gx_Ev lay0 (E0 D) tt_34 none σ' 13 [.ref 53, .ref b1, .int a2] [] σ) (b1 : Nat) (a2 : Int32) (σ : gx_R) (hb1 : b1 = 9 ∨ b1 = 56) (hf : Cl_pass_29 K13 b1 a2 σ = some (rr, σ')) : gx_Ev lay0 (E0 D) tt_34 none σ' 29 [.ref 53, .ref b1, .int a2] [] σ := by
  rcases hb1 with rfl | rfl
  · exact vv_Cl_pass_29_9 D hD rr σ'  K13 hK13 a2 σ hf
  · exact vv_Cl_pass_29_56 D hD rr σ'  K13 hK13 a2 σ hf
set_option maxHeartbeats 16000000 in
set_option maxRecDepth 20000 in
theorem vv_Cl_pass_77_9 (D : Nat) (hD : 5 ≤ D + 1) (rr : Unit) (σ' : gx_R) (σ : gx_R) (hf : Cl_pass_77 9 σ = some (rr, σ')) : gx_Ev lay0 (E0 D) tt_34 none σ' 77 [.ref 53, .ref 9, .null] [] σ := by
  unfold Cl_pass_77 at hf
  obtain ⟨⟨⟩, σ2, h3, hf⟩ := z_bd_inv hf
  obtain ⟨r4, σ5, h6, hf⟩ := z_bd_inv hf
  obtain ⟨r7, σ8, h9, hf⟩ := z_bd_inv hf
  obtain ⟨⟨⟩, σ11, h12, hf⟩ := z_bd_inv hf
  exact gx_go_ 17 [.inr (none, σ2), .inr (some (.int r4), σ5), .inr (some (.int r7), σ8), .inr (none, σ11)] [E0 D 38 [.ref 53, .ref 9] σ (none) σ2, E0 D 36 [.ref 53, .ref 9] σ2 (some (.int r4)) σ5, E0 D 39 [.ref 53, .int r4, .int (σ5 53 6)] σ5 (some (.int r7)) σ8, E0 D 10 [.ref 9, .int ((σ2 53 5) ||| r7)] σ8 (none) σ11] 94 [.ref 53, .ref 9, .int (0 : Int32)] [] σ11 rfl ⟨(ww_Cl_listen D (by omega) 9 σ () σ2 (Or.inl rfl) h3), (ww_Cl_wokenByNoise D (by omega) 9 σ2 r4 σ5 (Or.inl rfl) h6), (ww_Cl_spread D (by omega) r4 (σ5 53 6) σ5 r7 σ8 h9), (ww_Ni_makeIdle D (by omega) 9 ((σ2 53 5) ||| r7) σ8 () σ11 (Or.inl rfl) h12), trivial⟩ (gx_fgt (ls' := [.null, .ref 9, .int (0 : Int32)]) ⟨Or.inl rfl, Or.inr rfl, Or.inr rfl, trivial⟩ (vv_Cl_pass_94 D hD rr σ' z_FU 9 (0 : Int32) σ11 (Or.inl rfl) hf))
set_option maxHeartbeats 16000000 in
set_option maxRecDepth 20000 in
theorem vv_Cl_pass_77_56 (D : Nat) (hD : 5 ≤ D + 1) (rr : Unit) (σ' : gx_R) (σ : gx_R) (hf : Cl_pass_77 56 σ = some (rr, σ')) : gx_Ev lay0 (E0 D) tt_34 none σ' 77 [.ref 53, .ref 56, .null] [] σ := by
  unfold Cl_pass_77 at hf
  obtain ⟨⟨⟩, σ2, h3, hf⟩ := z_bd_inv hf
  obtain ⟨r4, σ5, h6, hf⟩ := z_bd_inv hf
  obtain ⟨r7, σ8, h9, hf⟩ := z_bd_inv hf
  obtain ⟨⟨⟩, σ11, h12, hf⟩ := z_bd_inv hf
  exact gx_go_ 17 [.inr (none, σ2), .inr (some (.int r4), σ5), .inr (some (.int r7), σ8), .inr (none, σ11)] [E0 D 38 [.ref 53, .ref 56] σ (none) σ2, E0 D 36 [.ref 53, .ref 56] σ2 (some (.int r4)) σ5, E0 D 39 [.ref 53, .int r4, .int (σ5 53 6)] σ5 (some (.int r7)) σ8, E0 D 10 [.ref 56, .int ((σ2 53 5) ||| r7)] σ8 (none) σ11] 94 [.ref 53, .ref 56, .int (0 : Int32)] [] σ11 rfl ⟨(ww_Cl_listen D (by omega) 56 σ () σ2 (Or.inr rfl) h3), (ww_Cl_wokenByNoise D (by omega) 56 σ2 r4 σ5 (Or.inr rfl) h6), (ww_Cl_spread D (by omega) r4 (σ5 53 6) σ5 r7 σ8 h9), (ww_Ni_makeIdle D (by omega) 56 ((σ2 53 5) ||| r7) σ8 () σ11 (Or.inr rfl) h12), trivial⟩ (gx_fgt (ls' := [.null, .ref 56, .int (0 : Int32)]) ⟨Or.inl rfl, Or.inr rfl, Or.inr rfl, trivial⟩ (vv_Cl_pass_94 D hD rr σ' z_FU 56 (0 : Int32) σ11 (Or.inr rfl) hf))
set_option maxHeartbeats 16000000 in
set_option maxRecDepth 20000 in
theorem vv_Cl_pass_77 (D : Nat) (hD : 5 ≤ D + 1) (rr : Unit) (σ' : gx_R) (b1 : Nat) (σ : gx_R) (hb1 : b1 = 9 ∨ b1 = 56) (hf : Cl_pass_77 b1 σ = some (rr, σ')) : gx_Ev lay0 (E0 D) tt_34 none σ' 77 [.ref 53, .ref b1, .null] [] σ := by
  rcases hb1 with rfl | rfl
  · exact vv_Cl_pass_77_9 D hD rr σ'  σ hf
  · exact vv_Cl_pass_77_56 D hD rr σ'  σ hf
set_option maxHeartbeats 16000000 in
set_option maxRecDepth 20000 in
theorem vv_Cl_pass_33_B_9 (D : Nat) (hD : 5 ≤ D + 1) (rr : Unit) (σ' : gx_R) (K33 : Nat → Int32 → gx_R → Option (Unit × gx_R)) (hK33 : ∀ (b1 : Nat) (a2 : Int32) (σ : gx_R), (b1 = 9 ∨ b1 = 56) → K33 b1 a2 σ = some (rr, σ') → gx_Ev lay0 (E0 D) tt_34 none σ' 33 [.ref 53, .ref b1, .int a2] [] σ) (a2 : Int32) (σ : gx_R) (hf : Cl_pass_33_B K33 9 a2 σ = some (rr, σ')) : gx_Ev lay0 (E0 D) tt_34 none σ' 33 [.ref 53, .ref 9, .int a2] [] σ := by
  unfold Cl_pass_33_B at hf
  rcases z_if_inv hf with ⟨h1, hf⟩ | ⟨h1, hf⟩
  · exact gx_go_ 3 [.inl 1] [(8 : Int32) ≤ a2] 77 [.ref 53, .ref 9, .int a2] [] σ rfl ⟨h1, trivial⟩ (gx_fgt (ls' := [.ref 53, .ref 9, .null]) ⟨Or.inr rfl, Or.inr rfl, Or.inl rfl, trivial⟩ (vv_Cl_pass_77 D hD rr σ' 9 σ (Or.inl rfl) hf))
  · obtain ⟨h2, hf⟩ := z_ck_inv hf
    rcases z_if_inv hf with ⟨h3, hf⟩ | ⟨h3, hf⟩
    · obtain ⟨r4, σ5, h6, hf⟩ := z_bd_inv hf
      obtain ⟨r7, σ8, h9, hf⟩ := z_bd_inv hf
      rcases z_if_inv hf with ⟨h10, hf⟩ | ⟨h10, hf⟩
      · exact gx_go_ 28 [.inl 0, .inl 1, .inr (some (.int r4), σ5), .inr (some (.int r7), σ8), .inl 1] [¬ ((8 : Int32) ≤ a2), vp_in a2 8, (σ 10 a2.toNatClampNeg) = (1 : Int32), E0 D 30 [.ref 50, .ref 9, .int a2] σ (some (.int r4)) σ5, E0 D 29 [.ref 50, .ref 9, .int a2] σ5 (some (.int r7)) σ8, r4 < r7] 75 [.ref 53, .ref 9, .int a2] [] (gx_up σ8 53 5 ((σ8 53 5) ||| ((1 : Int32) <<< (a2 &&& 31)))) rfl ⟨h1, (z_ix_in h2), h3, (ww_La_fuelNow D (by omega) 9 a2 σ r4 σ5 (Or.inl rfl) h6), (ww_La_burnNow D (by omega) 9 a2 σ5 r7 σ8 (Or.inl rfl) h9), h10, trivial⟩ (gx_fgt (ls' := [.ref 53, .ref 9, .int a2]) ⟨Or.inr rfl, Or.inr rfl, Or.inr rfl, trivial⟩ (vv_Cl_pass_75 D hD rr σ' K33 hK33 9 a2 (gx_up σ8 53 5 ((σ8 53 5) ||| ((1 : Int32) <<< (a2 &&& 31)))) (Or.inl rfl) hf))
      · obtain ⟨⟨⟩, σ12, h13, hf⟩ := z_bd_inv hf
        exact gx_go_ 33 [.inl 0, .inl 1, .inr (some (.int r4), σ5), .inr (some (.int r7), σ8), .inl 0, .inr (none, σ12)] [¬ ((8 : Int32) ≤ a2), vp_in a2 8, (σ 10 a2.toNatClampNeg) = (1 : Int32), E0 D 30 [.ref 50, .ref 9, .int a2] σ (some (.int r4)) σ5, E0 D 29 [.ref 50, .ref 9, .int a2] σ5 (some (.int r7)) σ8, ¬ (r4 < r7), E0 D 35 [.ref 53, .ref 9, .int a2] (gx_up σ8 53 4 ((σ8 53 4) ||| ((1 : Int32) <<< (a2 &&& 31)))) (none) σ12] 75 [.ref 53, .ref 9, .int a2] [] σ12 rfl ⟨h1, (z_ix_in h2), h3, (ww_La_fuelNow D (by omega) 9 a2 σ r4 σ5 (Or.inl rfl) h6), (ww_La_burnNow D (by omega) 9 a2 σ5 r7 σ8 (Or.inl rfl) h9), h10, (ww_Cl_goForward D (by omega) 9 a2 (gx_up σ8 53 4 ((σ8 53 4) ||| ((1 : Int32) <<< (a2 &&& 31)))) () σ12 (Or.inl rfl) h13), trivial⟩ (gx_fgt (ls' := [.ref 53, .ref 9, .int a2]) ⟨Or.inr rfl, Or.inr rfl, Or.inr rfl, trivial⟩ (vv_Cl_pass_75 D hD rr σ' K33 hK33 9 a2 σ12 (Or.inl rfl) hf))
    · exact gx_go_ 10 [.inl 0, .inl 0] [¬ ((8 : Int32) ≤ a2), vp_in a2 8, ¬ ((σ 10 a2.toNatClampNeg) = (1 : Int32))] 75 [.ref 53, .ref 9, .int a2] [] σ rfl ⟨h1, (z_ix_in h2), h3, trivial⟩ (gx_fgt (ls' := [.ref 53, .ref 9, .int a2]) ⟨Or.inr rfl, Or.inr rfl, Or.inr rfl, trivial⟩ (vv_Cl_pass_75 D hD rr σ' K33 hK33 9 a2 σ (Or.inl rfl) hf))
set_option maxHeartbeats 16000000 in
set_option maxRecDepth 20000 in
theorem vv_Cl_pass_33_B_56 (D : Nat) (hD : 5 ≤ D + 1) (rr : Unit) (σ' : gx_R) (K33 : Nat → Int32 → gx_R → Option (Unit × gx_R)) (hK33 : ∀ (b1 : Nat) (a2 : Int32) (σ : gx_R), (b1 = 9 ∨ b1 = 56) → K33 b1 a2 σ = some (rr, σ') → gx_Ev lay0 (E0 D) tt_34 none σ' 33 [.ref 53, .ref b1, .int a2] [] σ) (a2 : Int32) (σ : gx_R) (hf : Cl_pass_33_B K33 56 a2 σ = some (rr, σ')) : gx_Ev lay0 (E0 D) tt_34 none σ' 33 [.ref 53, .ref 56, .int a2] [] σ := by
  unfold Cl_pass_33_B at hf
  rcases z_if_inv hf with ⟨h1, hf⟩ | ⟨h1, hf⟩
  · exact gx_go_ 3 [.inl 1] [(8 : Int32) ≤ a2] 77 [.ref 53, .ref 56, .int a2] [] σ rfl ⟨h1, trivial⟩ (gx_fgt (ls' := [.ref 53, .ref 56, .null]) ⟨Or.inr rfl, Or.inr rfl, Or.inl rfl, trivial⟩ (vv_Cl_pass_77 D hD rr σ' 56 σ (Or.inr rfl) hf))
  · obtain ⟨h2, hf⟩ := z_ck_inv hf
    rcases z_if_inv hf with ⟨h3, hf⟩ | ⟨h3, hf⟩
    · obtain ⟨r4, σ5, h6, hf⟩ := z_bd_inv hf
      obtain ⟨r7, σ8, h9, hf⟩ := z_bd_inv hf
      rcases z_if_inv hf with ⟨h10, hf⟩ | ⟨h10, hf⟩
      · exact gx_go_ 28 [.inl 0, .inl 1, .inr (some (.int r4), σ5), .inr (some (.int r7), σ8), .inl 1] [¬ ((8 : Int32) ≤ a2), vp_in a2 8, (σ 57 a2.toNatClampNeg) = (1 : Int32), E0 D 30 [.ref 50, .ref 56, .int a2] σ (some (.int r4)) σ5, E0 D 29 [.ref 50, .ref 56, .int a2] σ5 (some (.int r7)) σ8, r4 < r7] 75 [.ref 53, .ref 56, .int a2] [] (gx_up σ8 53 5 ((σ8 53 5) ||| ((1 : Int32) <<< (a2 &&& 31)))) rfl ⟨h1, (z_ix_in h2), h3, (ww_La_fuelNow D (by omega) 56 a2 σ r4 σ5 (Or.inr rfl) h6), (ww_La_burnNow D (by omega) 56 a2 σ5 r7 σ8 (Or.inr rfl) h9), h10, trivial⟩ (gx_fgt (ls' := [.ref 53, .ref 56, .int a2]) ⟨Or.inr rfl, Or.inr rfl, Or.inr rfl, trivial⟩ (vv_Cl_pass_75 D hD rr σ' K33 hK33 56 a2 (gx_up σ8 53 5 ((σ8 53 5) ||| ((1 : Int32) <<< (a2 &&& 31)))) (Or.inr rfl) hf))
      · obtain ⟨⟨⟩, σ12, h13, hf⟩ := z_bd_inv hf
        exact gx_go_ 33 [.inl 0, .inl 1, .inr (some (.int r4), σ5), .inr (some (.int r7), σ8), .inl 0, .inr (none, σ12)] [¬ ((8 : Int32) ≤ a2), vp_in a2 8, (σ 57 a2.toNatClampNeg) = (1 : Int32), E0 D 30 [.ref 50, .ref 56, .int a2] σ (some (.int r4)) σ5, E0 D 29 [.ref 50, .ref 56, .int a2] σ5 (some (.int r7)) σ8, ¬ (r4 < r7), E0 D 35 [.ref 53, .ref 56, .int a2] (gx_up σ8 53 4 ((σ8 53 4) ||| ((1 : Int32) <<< (a2 &&& 31)))) (none) σ12] 75 [.ref 53, .ref 56, .int a2] [] σ12 rfl ⟨h1, (z_ix_in h2), h3, (ww_La_fuelNow D (by omega) 56 a2 σ r4 σ5 (Or.inr rfl) h6), (ww_La_burnNow D (by omega) 56 a2 σ5 r7 σ8 (Or.inr rfl) h9), h10, (ww_Cl_goForward D (by omega) 56 a2 (gx_up σ8 53 4 ((σ8 53 4) ||| ((1 : Int32) <<< (a2 &&& 31)))) () σ12 (Or.inr rfl) h13), trivial⟩ (gx_fgt (ls' := [.ref 53, .ref 56, .int a2]) ⟨Or.inr rfl, Or.inr rfl, Or.inr rfl, trivial⟩ (vv_Cl_pass_75 D hD rr σ' K33 hK33 56 a2 σ12 (Or.inr rfl) hf))
    · exact gx_go_ 10 [.inl 0, .inl 0] [¬ ((8 : Int32) ≤ a2), vp_in a2 8, ¬ ((σ 57 a2.toNatClampNeg) = (1 : Int32))] 75 [.ref 53, .ref 56, .int a2] [] σ rfl ⟨h1, (z_ix_in h2), h3, trivial⟩ (gx_fgt (ls' := [.ref 53, .ref 56, .int a2]) ⟨Or.inr rfl, Or.inr rfl, Or.inr rfl, trivial⟩ (vv_Cl_pass_75 D hD rr σ' K33 hK33 56 a2 σ (Or.inr rfl) hf))
set_option maxHeartbeats 16000000 in
set_option maxRecDepth 20000 in
theorem vv_Cl_pass_33_B (D : Nat) (hD : 5 ≤ D + 1) (rr : Unit) (σ' : gx_R) (K33 : Nat → Int32 → gx_R → Option (Unit × gx_R)) (hK33 : ∀ (b1 : Nat) (a2 : Int32) (σ : gx_R), (b1 = 9 ∨ b1 = 56) → K33 b1 a2 σ = some (rr, σ') → gx_Ev lay0 (E0 D) tt_34 none σ' 33 [.ref 53, .ref b1, .int a2] [] σ) (b1 : Nat) (a2 : Int32) (σ : gx_R) (hb1 : b1 = 9 ∨ b1 = 56) (hf : Cl_pass_33_B K33 b1 a2 σ = some (rr, σ')) : gx_Ev lay0 (E0 D) tt_34 none σ' 33 [.ref 53, .ref b1, .int a2] [] σ := by
  rcases hb1 with rfl | rfl
  · exact vv_Cl_pass_33_B_9 D hD rr σ'  K33 hK33 a2 σ hf
  · exact vv_Cl_pass_33_B_56 D hD rr σ'  K33 hK33 a2 σ hf
set_option maxHeartbeats 16000000 in
set_option maxRecDepth 20000 in
theorem vv_Cl_pass_33 (D : Nat) (hD : 5 ≤ D + 1) (rr : Unit) (σ' : gx_R) : ∀ (n : Nat) (b1 : Nat) (a2 : Int32) (σ : gx_R), (b1 = 9 ∨ b1 = 56) → Cl_pass_33 n b1 a2 σ = some (rr, σ') → gx_Ev lay0 (E0 D) tt_34 none σ' 33 [.ref 53, .ref b1, .int a2] [] σ := by
  intro n
  induction n with
  | zero => intro b1 a2 σ hb1 hf; cases hf
  | succ n ih => intro b1 a2 σ hb1 hf; exact vv_Cl_pass_33_B D hD rr σ'  (Cl_pass_33 n) ih b1 a2 σ hb1 hf
set_option maxHeartbeats 16000000 in
set_option maxRecDepth 20000 in
theorem vv_Cl_pass_31_9 (D : Nat) (hD : 5 ≤ D + 1) (rr : Unit) (σ' : gx_R) (σ : gx_R) (hf : Cl_pass_31 9 σ = some (rr, σ')) : gx_Ev lay0 (E0 D) tt_34 none σ' 31 [.ref 53, .ref 9, .null] [] σ := by
  unfold Cl_pass_31 at hf
  exact gx_go_ 2 [] [] 33 [.ref 53, .ref 9, .int (0 : Int32)] [] σ rfl trivial (gx_fgt (ls' := [.ref 53, .ref 9, .int (0 : Int32)]) ⟨Or.inr rfl, Or.inr rfl, Or.inr rfl, trivial⟩ (vv_Cl_pass_33 D hD rr σ' z_FU 9 (0 : Int32) σ (Or.inl rfl) hf))
set_option maxHeartbeats 16000000 in
set_option maxRecDepth 20000 in
theorem vv_Cl_pass_31_56 (D : Nat) (hD : 5 ≤ D + 1) (rr : Unit) (σ' : gx_R) (σ : gx_R) (hf : Cl_pass_31 56 σ = some (rr, σ')) : gx_Ev lay0 (E0 D) tt_34 none σ' 31 [.ref 53, .ref 56, .null] [] σ := by
  unfold Cl_pass_31 at hf
  exact gx_go_ 2 [] [] 33 [.ref 53, .ref 56, .int (0 : Int32)] [] σ rfl trivial (gx_fgt (ls' := [.ref 53, .ref 56, .int (0 : Int32)]) ⟨Or.inr rfl, Or.inr rfl, Or.inr rfl, trivial⟩ (vv_Cl_pass_33 D hD rr σ' z_FU 56 (0 : Int32) σ (Or.inr rfl) hf))
set_option maxHeartbeats 16000000 in
set_option maxRecDepth 20000 in
theorem vv_Cl_pass_31 (D : Nat) (hD : 5 ≤ D + 1) (rr : Unit) (σ' : gx_R) (b1 : Nat) (σ : gx_R) (hb1 : b1 = 9 ∨ b1 = 56) (hf : Cl_pass_31 b1 σ = some (rr, σ')) : gx_Ev lay0 (E0 D) tt_34 none σ' 31 [.ref 53, .ref b1, .null] [] σ := by
  rcases hb1 with rfl | rfl
  · exact vv_Cl_pass_31_9 D hD rr σ'  σ hf
  · exact vv_Cl_pass_31_56 D hD rr σ'  σ hf
set_option maxHeartbeats 16000000 in
set_option maxRecDepth 20000 in
theorem vv_Cl_pass_13_B_9 (D : Nat) (hD : 5 ≤ D + 1) (rr : Unit) (σ' : gx_R) (K13 : Nat → Int32 → gx_R → Option (Unit × gx_R)) (hK13 : ∀ (b1 : Nat) (a2 : Int32) (σ : gx_R), (b1 = 9 ∨ b1 = 56) → K13 b1 a2 σ = some (rr, σ') → gx_Ev lay0 (E0 D) tt_34 none σ' 13 [.ref 53, .ref b1, .int a2] [] σ) (a2 : Int32) (σ : gx_R) (hf : Cl_pass_13_B K13 9 a2 σ = some (rr, σ')) : gx_Ev lay0 (E0 D) tt_34 none σ' 13 [.ref 53, .ref 9, .int a2] [] σ := by
  unfold Cl_pass_13_B at hf
  rcases z_if_inv hf with ⟨h1, hf⟩ | ⟨h1, hf⟩
  · exact gx_go_ 3 [.inl 1] [(8 : Int32) ≤ a2] 31 [.ref 53, .ref 9, .int a2] [] σ rfl ⟨h1, trivial⟩ (gx_fgt (ls' := [.ref 53, .ref 9, .null]) ⟨Or.inr rfl, Or.inr rfl, Or.inl rfl, trivial⟩ (vv_Cl_pass_31 D hD rr σ' 9 σ (Or.inl rfl) hf))
  · obtain ⟨h2, hf⟩ := z_ck_inv hf
    rcases z_if_inv hf with ⟨h3, hf⟩ | ⟨h3, hf⟩
    · obtain ⟨r4, σ5, h6, hf⟩ := z_bd_inv hf
      obtain ⟨h7, hf⟩ := z_ck_inv hf
      exact gx_go_ 16 [.inl 0, .inl 0, .inr (some (.int r4), σ5)] [¬ ((8 : Int32) ≤ a2), vp_in a2 8, ¬ ¬ ((σ 10 a2.toNatClampNeg) = (2 : Int32)), E0 D 11 [.ref 9, .int (10 : Int32)] σ (some (.int r4)) σ5, vp_in a2 8] 29 [.ref 53, .ref 9, .int a2] [] (gx_up σ5 13 a2.toNatClampNeg r4) rfl ⟨h1, (z_ix_in h2), (fun q => q h3), (ww_Ni_draw D (by omega) 9 (10 : Int32) σ r4 σ5 (Or.inl rfl) h6), (z_ix_in h7), trivial⟩ (gx_fgt (ls' := [.ref 53, .ref 9, .int a2]) ⟨Or.inr rfl, Or.inr rfl, Or.inr rfl, trivial⟩ (vv_Cl_pass_29 D hD rr σ' K13 hK13 9 a2 (gx_up σ5 13 a2.toNatClampNeg r4) (Or.inl rfl) hf))
    · exact gx_go_ 9 [.inl 0, .inl 1] [¬ ((8 : Int32) ≤ a2), vp_in a2 8, ¬ ((σ 10 a2.toNatClampNeg) = (2 : Int32))] 29 [.ref 53, .ref 9, .int a2] [] σ rfl ⟨h1, (z_ix_in h2), h3, trivial⟩ (gx_fgt (ls' := [.ref 53, .ref 9, .int a2]) ⟨Or.inr rfl, Or.inr rfl, Or.inr rfl, trivial⟩ (vv_Cl_pass_29 D hD rr σ' K13 hK13 9 a2 σ (Or.inl rfl) hf))
set_option maxHeartbeats 16000000 in
set_option maxRecDepth 20000 in
theorem vv_Cl_pass_13_B_56 (D : Nat) (hD : 5 ≤ D + 1) (rr : Unit) (σ' : gx_R) (K13 : Nat → Int32 → gx_R → Option (Unit × gx_R)) (hK13 : ∀ (b1 : Nat) (a2 : Int32) (σ : gx_R), (b1 = 9 ∨ b1 = 56) → K13 b1 a2 σ = some (rr, σ') → gx_Ev lay0 (E0 D) tt_34 none σ' 13 [.ref 53, .ref b1, .int a2] [] σ) (a2 : Int32) (σ : gx_R) (hf : Cl_pass_13_B K13 56 a2 σ = some (rr, σ')) : gx_Ev lay0 (E0 D) tt_34 none σ' 13 [.ref 53, .ref 56, .int a2] [] σ := by
  unfold Cl_pass_13_B at hf
  rcases z_if_inv hf with ⟨h1, hf⟩ | ⟨h1, hf⟩
  · exact gx_go_ 3 [.inl 1] [(8 : Int32) ≤ a2] 31 [.ref 53, .ref 56, .int a2] [] σ rfl ⟨h1, trivial⟩ (gx_fgt (ls' := [.ref 53, .ref 56, .null]) ⟨Or.inr rfl, Or.inr rfl, Or.inl rfl, trivial⟩ (vv_Cl_pass_31 D hD rr σ' 56 σ (Or.inr rfl) hf))
  · obtain ⟨h2, hf⟩ := z_ck_inv hf
    rcases z_if_inv hf with ⟨h3, hf⟩ | ⟨h3, hf⟩
    · obtain ⟨r4, σ5, h6, hf⟩ := z_bd_inv hf
      obtain ⟨h7, hf⟩ := z_ck_inv hf
      exact gx_go_ 16 [.inl 0, .inl 0, .inr (some (.int r4), σ5)] [¬ ((8 : Int32) ≤ a2), vp_in a2 8, ¬ ¬ ((σ 57 a2.toNatClampNeg) = (2 : Int32)), E0 D 11 [.ref 56, .int (10 : Int32)] σ (some (.int r4)) σ5, vp_in a2 8] 29 [.ref 53, .ref 56, .int a2] [] (gx_up σ5 60 a2.toNatClampNeg r4) rfl ⟨h1, (z_ix_in h2), (fun q => q h3), (ww_Ni_draw D (by omega) 56 (10 : Int32) σ r4 σ5 (Or.inr rfl) h6), (z_ix_in h7), trivial⟩ (gx_fgt (ls' := [.ref 53, .ref 56, .int a2]) ⟨Or.inr rfl, Or.inr rfl, Or.inr rfl, trivial⟩ (vv_Cl_pass_29 D hD rr σ' K13 hK13 56 a2 (gx_up σ5 60 a2.toNatClampNeg r4) (Or.inr rfl) hf))
    · exact gx_go_ 9 [.inl 0, .inl 1] [¬ ((8 : Int32) ≤ a2), vp_in a2 8, ¬ ((σ 57 a2.toNatClampNeg) = (2 : Int32))] 29 [.ref 53, .ref 56, .int a2] [] σ rfl ⟨h1, (z_ix_in h2), h3, trivial⟩ (gx_fgt (ls' := [.ref 53, .ref 56, .int a2]) ⟨Or.inr rfl, Or.inr rfl, Or.inr rfl, trivial⟩ (vv_Cl_pass_29 D hD rr σ' K13 hK13 56 a2 σ (Or.inr rfl) hf))
set_option maxHeartbeats 16000000 in
set_option maxRecDepth 20000 in
theorem vv_Cl_pass_13_B (D : Nat) (hD : 5 ≤ D + 1) (rr : Unit) (σ' : gx_R) (K13 : Nat → Int32 → gx_R → Option (Unit × gx_R)) (hK13 : ∀ (b1 : Nat) (a2 : Int32) (σ : gx_R), (b1 = 9 ∨ b1 = 56) → K13 b1 a2 σ = some (rr, σ') → gx_Ev lay0 (E0 D) tt_34 none σ' 13 [.ref 53, .ref b1, .int a2] [] σ) (b1 : Nat) (a2 : Int32) (σ : gx_R) (hb1 : b1 = 9 ∨ b1 = 56) (hf : Cl_pass_13_B K13 b1 a2 σ = some (rr, σ')) : gx_Ev lay0 (E0 D) tt_34 none σ' 13 [.ref 53, .ref b1, .int a2] [] σ := by
  rcases hb1 with rfl | rfl
  · exact vv_Cl_pass_13_B_9 D hD rr σ'  K13 hK13 a2 σ hf
  · exact vv_Cl_pass_13_B_56 D hD rr σ'  K13 hK13 a2 σ hf
set_option maxHeartbeats 16000000 in
set_option maxRecDepth 20000 in
theorem vv_Cl_pass_13 (D : Nat) (hD : 5 ≤ D + 1) (rr : Unit) (σ' : gx_R) : ∀ (n : Nat) (b1 : Nat) (a2 : Int32) (σ : gx_R), (b1 = 9 ∨ b1 = 56) → Cl_pass_13 n b1 a2 σ = some (rr, σ') → gx_Ev lay0 (E0 D) tt_34 none σ' 13 [.ref 53, .ref b1, .int a2] [] σ := by
  intro n
  induction n with
  | zero => intro b1 a2 σ hb1 hf; cases hf
  | succ n ih => intro b1 a2 σ hb1 hf; exact vv_Cl_pass_13_B D hD rr σ'  (Cl_pass_13 n) ih b1 a2 σ hb1 hf
set_option maxHeartbeats 16000000 in
set_option maxRecDepth 20000 in
theorem vv_Cl_pass_E_9 (D : Nat) (hD : 5 ≤ D + 1) (rr : Unit) (σ' : gx_R) (σ : gx_R) (hf : Cl_pass 9 σ = some (rr, σ')) : gx_Ev lay0 (E0 D) tt_34 none σ' 0 [.ref 53, .ref 9, .null] [] σ := by
  unfold Cl_pass at hf
  obtain ⟨r1, σ2, h3, hf⟩ := z_bd_inv hf
  exact gx_go_ 13 [.inr (some (.int r1), σ2)] [E0 D 7 [.ref 9, .int (2 : Int32)] (gx_up (gx_up σ 53 4 (0 : Int32)) 53 5 (0 : Int32)) (some (.int r1)) σ2] 13 [.ref 53, .ref 9, .int (0 : Int32)] [] (gx_up σ2 53 6 r1) rfl ⟨(ww_Ni_those D (by omega) 9 (2 : Int32) (gx_up (gx_up σ 53 4 (0 : Int32)) 53 5 (0 : Int32)) r1 σ2 (Or.inl rfl) h3), trivial⟩ (gx_fgt (ls' := [.ref 53, .ref 9, .int (0 : Int32)]) ⟨Or.inr rfl, Or.inr rfl, Or.inr rfl, trivial⟩ (vv_Cl_pass_13 D hD rr σ' z_FU 9 (0 : Int32) (gx_up σ2 53 6 r1) (Or.inl rfl) hf))
set_option maxHeartbeats 16000000 in
set_option maxRecDepth 20000 in
theorem ww_Cl_pass_9 (D : Nat) (hD : 5 ≤ D) (σ : gx_R) (rr : Unit) (σ' : gx_R) (hf : Cl_pass 9 σ = some (rr, σ')) : E0 D 34 [.ref 53, .ref 9] σ none σ' := by
  cases D with
  | zero => omega
  | succ D => exact Or.inl ⟨Nat.le_of_ble_eq_true rfl, vv_Cl_pass_E_9 D hD rr σ' σ hf⟩
set_option maxHeartbeats 16000000 in
set_option maxRecDepth 20000 in
theorem vv_Cl_pass_E_56 (D : Nat) (hD : 5 ≤ D + 1) (rr : Unit) (σ' : gx_R) (σ : gx_R) (hf : Cl_pass 56 σ = some (rr, σ')) : gx_Ev lay0 (E0 D) tt_34 none σ' 0 [.ref 53, .ref 56, .null] [] σ := by
  unfold Cl_pass at hf
  obtain ⟨r1, σ2, h3, hf⟩ := z_bd_inv hf
  exact gx_go_ 13 [.inr (some (.int r1), σ2)] [E0 D 7 [.ref 56, .int (2 : Int32)] (gx_up (gx_up σ 53 4 (0 : Int32)) 53 5 (0 : Int32)) (some (.int r1)) σ2] 13 [.ref 53, .ref 56, .int (0 : Int32)] [] (gx_up σ2 53 6 r1) rfl ⟨(ww_Ni_those D (by omega) 56 (2 : Int32) (gx_up (gx_up σ 53 4 (0 : Int32)) 53 5 (0 : Int32)) r1 σ2 (Or.inr rfl) h3), trivial⟩ (gx_fgt (ls' := [.ref 53, .ref 56, .int (0 : Int32)]) ⟨Or.inr rfl, Or.inr rfl, Or.inr rfl, trivial⟩ (vv_Cl_pass_13 D hD rr σ' z_FU 56 (0 : Int32) (gx_up σ2 53 6 r1) (Or.inr rfl) hf))
set_option maxHeartbeats 16000000 in
set_option maxRecDepth 20000 in
theorem ww_Cl_pass_56 (D : Nat) (hD : 5 ≤ D) (σ : gx_R) (rr : Unit) (σ' : gx_R) (hf : Cl_pass 56 σ = some (rr, σ')) : E0 D 34 [.ref 53, .ref 56] σ none σ' := by
  cases D with
  | zero => omega
  | succ D => exact Or.inl ⟨Nat.le_of_ble_eq_true rfl, vv_Cl_pass_E_56 D hD rr σ' σ hf⟩
set_option maxHeartbeats 16000000 in
set_option maxRecDepth 20000 in
theorem ww_Cl_pass (D : Nat) (hD : 5 ≤ D) (b1 : Nat) (σ : gx_R) (rr : Unit) (σ' : gx_R) (hb1 : b1 = 9 ∨ b1 = 56) (hf : Cl_pass b1 σ = some (rr, σ')) : E0 D 34 [.ref 53, .ref b1] σ none σ' := by
  rcases hb1 with rfl | rfl
  · exact ww_Cl_pass_9 D hD σ rr σ' hf
  · exact ww_Cl_pass_56 D hD σ rr σ' hf
set_option maxHeartbeats 16000000 in
set_option maxRecDepth 20000 in
theorem vv_Cl_wokenBy_E (D : Nat) (hD : 5 ≤ D + 1) (rr : Int32) (σ' : gx_R) (a2 : Int32) (σ : gx_R) (hf : Cl_wokenBy a2 σ = some (rr, σ')) : gx_Ev lay0 (E0 D) tt_40 (some (.int rr)) σ' 0 [.ref 53, .ref 9, .int a2] [] σ := by
  unfold Cl_wokenBy at hf
  obtain ⟨⟨⟩, σ2, h3, hf⟩ := z_bd_inv hf
  obtain ⟨r4, σ5, h6, hf⟩ := z_bd_inv hf
  obtain ⟨r7, σ8, h9, hf⟩ := z_bd_inv hf
  obtain ⟨e1, e2⟩ := z_ret hf
  subst e1
  subst e2
  exact gx_end 12 [.inr (none, σ2), .inr (some (.int r4), σ5), .inr (some (.int r7), σ8)] [E0 D 38 [.ref 53, .ref 9] σ (none) σ2, E0 D 7 [.ref 9, .int (2 : Int32)] σ2 (some (.int r4)) σ5, E0 D 39 [.ref 53, .int ((1 : Int32) <<< (a2 &&& 31)), .int r4] σ5 (some (.int r7)) σ8] rfl ⟨(ww_Cl_listen D (by omega) 9 σ () σ2 (Or.inl rfl) h3), (ww_Ni_those D (by omega) 9 (2 : Int32) σ2 r4 σ5 (Or.inl rfl) h6), (ww_Cl_spread D (by omega) ((1 : Int32) <<< (a2 &&& 31)) r4 σ5 r7 σ8 h9), trivial⟩
set_option maxHeartbeats 16000000 in
set_option maxRecDepth 20000 in
theorem ww_Cl_wokenBy (D : Nat) (hD : 5 ≤ D) (a2 : Int32) (σ : gx_R) (rr : Int32) (σ' : gx_R) (hf : Cl_wokenBy a2 σ = some (rr, σ')) : E0 D 40 [.ref 53, .ref 9, .int a2] σ (some (.int rr)) σ' := by
  cases D with
  | zero => omega
  | succ D => exact Or.inl ⟨Nat.le_of_ble_eq_true rfl, vv_Cl_wokenBy_E D hD rr σ' a2 σ hf⟩
set_option maxHeartbeats 16000000 in
set_option maxRecDepth 20000 in
theorem vv_Pa_list_23_64 (D : Nat) (hD : 1 ≤ D + 1) (rr : Int32) (σ' : gx_R) (K4 : Int32 → Nat → Int32 → Int32 → gx_R → Option (Int32 × gx_R)) (hK4 : ∀ (a0 : Int32) (b1 : Nat) (a2 : Int32) (a3 : Int32) (σ : gx_R), (b1 = 64 ∨ b1 = 65) → K4 a0 b1 a2 a3 σ = some (rr, σ') → gx_Ev lay0 (E0 D) tt_41 (some (.int rr)) σ' 4 [.int a0, .ref b1, .int a2, .int a3] [] σ) (a0 : Int32) (a2 : Int32) (a3 : Int32) (σ : gx_R) (hf : Pa_list_23 K4 a0 64 a2 a3 σ = some (rr, σ')) : gx_Ev lay0 (E0 D) tt_41 (some (.int rr)) σ' 23 [.int a0, .ref 64, .int a2, .int a3] [] σ := by
  unfold Pa_list_23 at hf
  exact gx_go_ 2 [] [] 4 [.int a0, .ref 64, .int a2, .int (a3 + 1)] [] σ rfl trivial (gx_fgt (ls' := [.int a0, .ref 64, .int a2, .int (a3 + 1)]) ⟨Or.inr rfl, Or.inr rfl, Or.inr rfl, Or.inr rfl, trivial⟩ (hK4 a0 64 a2 (a3 + 1) σ (Or.inl rfl) hf))
set_option maxHeartbeats 16000000 in
set_option maxRecDepth 20000 in
theorem vv_Pa_list_23_65 (D : Nat) (hD : 1 ≤ D + 1) (rr : Int32) (σ' : gx_R) (K4 : Int32 → Nat → Int32 → Int32 → gx_R → Option (Int32 × gx_R)) (hK4 : ∀ (a0 : Int32) (b1 : Nat) (a2 : Int32) (a3 : Int32) (σ : gx_R), (b1 = 64 ∨ b1 = 65) → K4 a0 b1 a2 a3 σ = some (rr, σ') → gx_Ev lay0 (E0 D) tt_41 (some (.int rr)) σ' 4 [.int a0, .ref b1, .int a2, .int a3] [] σ) (a0 : Int32) (a2 : Int32) (a3 : Int32) (σ : gx_R) (hf : Pa_list_23 K4 a0 65 a2 a3 σ = some (rr, σ')) : gx_Ev lay0 (E0 D) tt_41 (some (.int rr)) σ' 23 [.int a0, .ref 65, .int a2, .int a3] [] σ := by
  unfold Pa_list_23 at hf
  exact gx_go_ 2 [] [] 4 [.int a0, .ref 65, .int a2, .int (a3 + 1)] [] σ rfl trivial (gx_fgt (ls' := [.int a0, .ref 65, .int a2, .int (a3 + 1)]) ⟨Or.inr rfl, Or.inr rfl, Or.inr rfl, Or.inr rfl, trivial⟩ (hK4 a0 65 a2 (a3 + 1) σ (Or.inr rfl) hf))
set_option maxHeartbeats 16000000 in
set_option maxRecDepth 20000 in
theorem vv_Pa_list_23 (D : Nat) (hD : 1 ≤ D + 1) (rr : Int32) (σ' : gx_R) (K4 : Int32 → Nat → Int32 → Int32 → gx_R → Option (Int32 × gx_R)) (hK4 : ∀ (a0 : Int32) (b1 : Nat) (a2 : Int32) (a3 : Int32) (σ : gx_R), (b1 = 64 ∨ b1 = 65) → K4 a0 b1 a2 a3 σ = some (rr, σ') → gx_Ev lay0 (E0 D) tt_41 (some (.int rr)) σ' 4 [.int a0, .ref b1, .int a2, .int a3] [] σ) (a0 : Int32) (b1 : Nat) (a2 : Int32) (a3 : Int32) (σ : gx_R) (hb1 : b1 = 64 ∨ b1 = 65) (hf : Pa_list_23 K4 a0 b1 a2 a3 σ = some (rr, σ')) : gx_Ev lay0 (E0 D) tt_41 (some (.int rr)) σ' 23 [.int a0, .ref b1, .int a2, .int a3] [] σ := by
  rcases hb1 with rfl | rfl
  · exact vv_Pa_list_23_64 D hD rr σ'  K4 hK4 a0 a2 a3 σ hf
  · exact vv_Pa_list_23_65 D hD rr σ'  K4 hK4 a0 a2 a3 σ hf
set_option maxHeartbeats 16000000 in
set_option maxRecDepth 20000 in
theorem vv_Pa_list_4_B_64 (D : Nat) (hD : 1 ≤ D + 1) (rr : Int32) (σ' : gx_R) (K4 : Int32 → Nat → Int32 → Int32 → gx_R → Option (Int32 × gx_R)) (hK4 : ∀ (a0 : Int32) (b1 : Nat) (a2 : Int32) (a3 : Int32) (σ : gx_R), (b1 = 64 ∨ b1 = 65) → K4 a0 b1 a2 a3 σ = some (rr, σ') → gx_Ev lay0 (E0 D) tt_41 (some (.int rr)) σ' 4 [.int a0, .ref b1, .int a2, .int a3] [] σ) (a0 : Int32) (a2 : Int32) (a3 : Int32) (σ : gx_R) (hf : Pa_list_4_B K4 a0 64 a2 a3 σ = some (rr, σ')) : gx_Ev lay0 (E0 D) tt_41 (some (.int rr)) σ' 4 [.int a0, .ref 64, .int a2, .int a3] [] σ := by
  unfold Pa_list_4_B at hf
  rcases z_if_inv hf with ⟨h1, hf⟩ | ⟨h1, hf⟩
  · obtain ⟨e1, e2⟩ := z_ret hf
    subst e1
    subst e2
    exact gx_end 5 [.inl 1] [(8 : Int32) ≤ a3] rfl ⟨h1, trivial⟩
  · rcases z_if_inv hf with ⟨h2, hf⟩ | ⟨h2, hf⟩
    · obtain ⟨e1, e2⟩ := z_ret hf
      subst e1
      subst e2
      exact gx_end 9 [.inl 0, .inl 1] [¬ ((8 : Int32) ≤ a3), (nI 4) ≤ a2] rfl ⟨h1, h2, trivial⟩
    · rcases z_if_inv hf with ⟨h3, hf⟩ | ⟨h3, hf⟩
      · obtain ⟨h4, hf⟩ := z_ck_inv hf
        exact gx_go_ 19 [.inl 0, .inl 0, .inl 0] [¬ ((8 : Int32) ≤ a3), ¬ ((nI 4) ≤ a2), ¬ ¬ (((a0 >>> (a3 &&& 31)) &&& (1 : Int32)) = (1 : Int32)), vp_in a2 4] 23 [.int a0, .ref 64, .int (a2 + 1), .int a3] [] (gx_up σ 64 a2.toNatClampNeg a3) rfl ⟨h1, h2, (fun q => q h3), (z_ix_in h4), trivial⟩ (gx_fgt (ls' := [.int a0, .ref 64, .int (a2 + 1), .int a3]) ⟨Or.inr rfl, Or.inr rfl, Or.inr rfl, Or.inr rfl, trivial⟩ (vv_Pa_list_23 D hD rr σ' K4 hK4 a0 64 (a2 + 1) a3 (gx_up σ 64 a2.toNatClampNeg a3) (Or.inl rfl) hf))
      · exact gx_go_ 14 [.inl 0, .inl 0, .inl 1] [¬ ((8 : Int32) ≤ a3), ¬ ((nI 4) ≤ a2), ¬ (((a0 >>> (a3 &&& 31)) &&& (1 : Int32)) = (1 : Int32))] 23 [.int a0, .ref 64, .int a2, .int a3] [] σ rfl ⟨h1, h2, h3, trivial⟩ (gx_fgt (ls' := [.int a0, .ref 64, .int a2, .int a3]) ⟨Or.inr rfl, Or.inr rfl, Or.inr rfl, Or.inr rfl, trivial⟩ (vv_Pa_list_23 D hD rr σ' K4 hK4 a0 64 a2 a3 σ (Or.inl rfl) hf))
set_option maxHeartbeats 16000000 in
set_option maxRecDepth 20000 in
theorem vv_Pa_list_4_B_65 (D : Nat) (hD : 1 ≤ D + 1) (rr : Int32) (σ' : gx_R) (K4 : Int32 → Nat → Int32 → Int32 → gx_R → Option (Int32 × gx_R)) (hK4 : ∀ (a0 : Int32) (b1 : Nat) (a2 : Int32) (a3 : Int32) (σ : gx_R), (b1 = 64 ∨ b1 = 65) → K4 a0 b1 a2 a3 σ = some (rr, σ') → gx_Ev lay0 (E0 D) tt_41 (some (.int rr)) σ' 4 [.int a0, .ref b1, .int a2, .int a3] [] σ) (a0 : Int32) (a2 : Int32) (a3 : Int32) (σ : gx_R) (hf : Pa_list_4_B K4 a0 65 a2 a3 σ = some (rr, σ')) : gx_Ev lay0 (E0 D) tt_41 (some (.int rr)) σ' 4 [.int a0, .ref 65, .int a2, .int a3] [] σ := by
  unfold Pa_list_4_B at hf
  rcases z_if_inv hf with ⟨h1, hf⟩ | ⟨h1, hf⟩
  · obtain ⟨e1, e2⟩ := z_ret hf
    subst e1
    subst e2
    exact gx_end 5 [.inl 1] [(8 : Int32) ≤ a3] rfl ⟨h1, trivial⟩
  · rcases z_if_inv hf with ⟨h2, hf⟩ | ⟨h2, hf⟩
    · obtain ⟨e1, e2⟩ := z_ret hf
      subst e1
      subst e2
      exact gx_end 9 [.inl 0, .inl 1] [¬ ((8 : Int32) ≤ a3), (nI 6) ≤ a2] rfl ⟨h1, h2, trivial⟩
    · rcases z_if_inv hf with ⟨h3, hf⟩ | ⟨h3, hf⟩
      · obtain ⟨h4, hf⟩ := z_ck_inv hf
        exact gx_go_ 19 [.inl 0, .inl 0, .inl 0] [¬ ((8 : Int32) ≤ a3), ¬ ((nI 6) ≤ a2), ¬ ¬ (((a0 >>> (a3 &&& 31)) &&& (1 : Int32)) = (1 : Int32)), vp_in a2 6] 23 [.int a0, .ref 65, .int (a2 + 1), .int a3] [] (gx_up σ 65 a2.toNatClampNeg a3) rfl ⟨h1, h2, (fun q => q h3), (z_ix_in h4), trivial⟩ (gx_fgt (ls' := [.int a0, .ref 65, .int (a2 + 1), .int a3]) ⟨Or.inr rfl, Or.inr rfl, Or.inr rfl, Or.inr rfl, trivial⟩ (vv_Pa_list_23 D hD rr σ' K4 hK4 a0 65 (a2 + 1) a3 (gx_up σ 65 a2.toNatClampNeg a3) (Or.inr rfl) hf))
      · exact gx_go_ 14 [.inl 0, .inl 0, .inl 1] [¬ ((8 : Int32) ≤ a3), ¬ ((nI 6) ≤ a2), ¬ (((a0 >>> (a3 &&& 31)) &&& (1 : Int32)) = (1 : Int32))] 23 [.int a0, .ref 65, .int a2, .int a3] [] σ rfl ⟨h1, h2, h3, trivial⟩ (gx_fgt (ls' := [.int a0, .ref 65, .int a2, .int a3]) ⟨Or.inr rfl, Or.inr rfl, Or.inr rfl, Or.inr rfl, trivial⟩ (vv_Pa_list_23 D hD rr σ' K4 hK4 a0 65 a2 a3 σ (Or.inr rfl) hf))
set_option maxHeartbeats 16000000 in
set_option maxRecDepth 20000 in
theorem vv_Pa_list_4_B (D : Nat) (hD : 1 ≤ D + 1) (rr : Int32) (σ' : gx_R) (K4 : Int32 → Nat → Int32 → Int32 → gx_R → Option (Int32 × gx_R)) (hK4 : ∀ (a0 : Int32) (b1 : Nat) (a2 : Int32) (a3 : Int32) (σ : gx_R), (b1 = 64 ∨ b1 = 65) → K4 a0 b1 a2 a3 σ = some (rr, σ') → gx_Ev lay0 (E0 D) tt_41 (some (.int rr)) σ' 4 [.int a0, .ref b1, .int a2, .int a3] [] σ) (a0 : Int32) (b1 : Nat) (a2 : Int32) (a3 : Int32) (σ : gx_R) (hb1 : b1 = 64 ∨ b1 = 65) (hf : Pa_list_4_B K4 a0 b1 a2 a3 σ = some (rr, σ')) : gx_Ev lay0 (E0 D) tt_41 (some (.int rr)) σ' 4 [.int a0, .ref b1, .int a2, .int a3] [] σ := by
  rcases hb1 with rfl | rfl
  · exact vv_Pa_list_4_B_64 D hD rr σ'  K4 hK4 a0 a2 a3 σ hf
  · exact vv_Pa_list_4_B_65 D hD rr σ'  K4 hK4 a0 a2 a3 σ hf
set_option maxHeartbeats 16000000 in
set_option maxRecDepth 20000 in
theorem vv_Pa_list_4 (D : Nat) (hD : 1 ≤ D + 1) (rr : Int32) (σ' : gx_R) : ∀ (n : Nat) (a0 : Int32) (b1 : Nat) (a2 : Int32) (a3 : Int32) (σ : gx_R), (b1 = 64 ∨ b1 = 65) → Pa_list_4 n a0 b1 a2 a3 σ = some (rr, σ') → gx_Ev lay0 (E0 D) tt_41 (some (.int rr)) σ' 4 [.int a0, .ref b1, .int a2, .int a3] [] σ := by
  intro n
  induction n with
  | zero => intro a0 b1 a2 a3 σ hb1 hf; cases hf
  | succ n ih => intro a0 b1 a2 a3 σ hb1 hf; exact vv_Pa_list_4_B D hD rr σ'  (Pa_list_4 n) ih a0 b1 a2 a3 σ hb1 hf
set_option maxHeartbeats 16000000 in
set_option maxRecDepth 20000 in
theorem vv_Pa_list_E_64 (D : Nat) (hD : 1 ≤ D + 1) (rr : Int32) (σ' : gx_R) (a0 : Int32) (σ : gx_R) (hf : Pa_list a0 64 σ = some (rr, σ')) : gx_Ev lay0 (E0 D) tt_41 (some (.int rr)) σ' 0 [.int a0, .ref 64, .null, .null] [] σ := by
  unfold Pa_list at hf
  exact gx_go_ 4 [] [] 4 [.int a0, .ref 64, .int (0 : Int32), .int (0 : Int32)] [] σ rfl trivial (gx_fgt (ls' := [.int a0, .ref 64, .int (0 : Int32), .int (0 : Int32)]) ⟨Or.inr rfl, Or.inr rfl, Or.inr rfl, Or.inr rfl, trivial⟩ (vv_Pa_list_4 D hD rr σ' z_FU a0 64 (0 : Int32) (0 : Int32) σ (Or.inl rfl) hf))
set_option maxHeartbeats 16000000 in
set_option maxRecDepth 20000 in
theorem ww_Pa_list_64 (D : Nat) (hD : 1 ≤ D) (a0 : Int32) (σ : gx_R) (rr : Int32) (σ' : gx_R) (hf : Pa_list a0 64 σ = some (rr, σ')) : E0 D 41 [.int a0, .ref 64] σ (some (.int rr)) σ' := by
  cases D with
  | zero => omega
  | succ D => exact Or.inl ⟨Nat.le_of_ble_eq_true rfl, vv_Pa_list_E_64 D hD rr σ' a0 σ hf⟩
set_option maxHeartbeats 16000000 in
set_option maxRecDepth 20000 in
theorem vv_Pa_list_E_65 (D : Nat) (hD : 1 ≤ D + 1) (rr : Int32) (σ' : gx_R) (a0 : Int32) (σ : gx_R) (hf : Pa_list a0 65 σ = some (rr, σ')) : gx_Ev lay0 (E0 D) tt_41 (some (.int rr)) σ' 0 [.int a0, .ref 65, .null, .null] [] σ := by
  unfold Pa_list at hf
  exact gx_go_ 4 [] [] 4 [.int a0, .ref 65, .int (0 : Int32), .int (0 : Int32)] [] σ rfl trivial (gx_fgt (ls' := [.int a0, .ref 65, .int (0 : Int32), .int (0 : Int32)]) ⟨Or.inr rfl, Or.inr rfl, Or.inr rfl, Or.inr rfl, trivial⟩ (vv_Pa_list_4 D hD rr σ' z_FU a0 65 (0 : Int32) (0 : Int32) σ (Or.inr rfl) hf))
set_option maxHeartbeats 16000000 in
set_option maxRecDepth 20000 in
theorem ww_Pa_list_65 (D : Nat) (hD : 1 ≤ D) (a0 : Int32) (σ : gx_R) (rr : Int32) (σ' : gx_R) (hf : Pa_list a0 65 σ = some (rr, σ')) : E0 D 41 [.int a0, .ref 65] σ (some (.int rr)) σ' := by
  cases D with
  | zero => omega
  | succ D => exact Or.inl ⟨Nat.le_of_ble_eq_true rfl, vv_Pa_list_E_65 D hD rr σ' a0 σ hf⟩
set_option maxHeartbeats 16000000 in
set_option maxRecDepth 20000 in
theorem ww_Pa_list (D : Nat) (hD : 1 ≤ D) (a0 : Int32) (b1 : Nat) (σ : gx_R) (rr : Int32) (σ' : gx_R) (hb1 : b1 = 64 ∨ b1 = 65) (hf : Pa_list a0 b1 σ = some (rr, σ')) : E0 D 41 [.int a0, .ref b1] σ (some (.int rr)) σ' := by
  rcases hb1 with rfl | rfl
  · exact ww_Pa_list_64 D hD a0 σ rr σ' hf
  · exact ww_Pa_list_65 D hD a0 σ rr σ' hf
set_option maxHeartbeats 16000000 in
set_option maxRecDepth 20000 in
theorem vv_Pa_weigh_107 (D : Nat) (hD : 4 ≤ D + 1) (rr : Unit) (σ' : gx_R) (a5 : Int32) (s1 : Int32) (s2 : Int32) (σ : gx_R) (hf : Pa_weigh_107 a5 s1 s2 σ = some (rr, σ')) : gx_Ev lay0 (E0 D) tt_43 none σ' 107 [.ref 63, .null, .null, .null, .null, .int a5, .null, .null] [.int s2, .int s1, .ref 68] σ := by
  unfold Pa_weigh_107 at hf
  obtain ⟨h1, hf⟩ := z_ck_inv hf
  obtain ⟨h2, hf⟩ := z_ck_inv hf
  obtain ⟨e1, e2⟩ := z_ret hf
  subst e1
  subst e2
  exact gx_end 11 [] [vp_in s1 24, vp_in a5 24] rfl ⟨(z_ix_in h1), (z_ix_in h2), trivial⟩
set_option maxHeartbeats 16000000 in
set_option maxRecDepth 20000 in
theorem vv_Pa_weigh_54 (D : Nat) (hD : 4 ≤ D + 1) (rr : Unit) (σ' : gx_R) (a1 : Int32) (a2 : Int32) (a3 : Int32) (a4 : Int32) (a5 : Int32) (a6 : Int32) (s1 : Int32) (s2 : Int32) (σ : gx_R) (hf : Pa_weigh_54 a1 a2 a3 a4 a5 a6 s1 s2 σ = some (rr, σ')) : gx_Ev lay0 (E0 D) tt_43 none σ' 54 [.ref 63, .int a1, .int a2, .int a3, .int a4, .int a5, .int a6, .null] [.int s2, .int s1, .ref 67] σ := by
  unfold Pa_weigh_54 at hf
  obtain ⟨h1, hf⟩ := z_ck_inv hf
  obtain ⟨h2, hf⟩ := z_ck_inv hf
  obtain ⟨h3, hf⟩ := z_ck_inv hf
  obtain ⟨h4, hf⟩ := z_ck_inv hf
  rcases z_if_inv hf with ⟨h5, hf⟩ | ⟨h5, hf⟩
  · obtain ⟨e1, e2⟩ := z_ret hf
    subst e1
    subst e2
    exact gx_end 21 [.inl 1] [vp_in s1 24, vp_in (a5 + (4 : Int32)) 28, vp_in a5 24, vp_in a5 28, a6 = 0] rfl ⟨(z_ix_in h1), (z_ix_in h2), (z_ix_in h3), (z_ix_in h4), h5, trivial⟩
  · obtain ⟨h6, hf⟩ := z_ck_inv hf
    obtain ⟨h7, hf⟩ := z_ck_inv hf
    obtain ⟨h8, hf⟩ := z_ck_inv hf
    rcases z_if_inv hf with ⟨h9, hf⟩ | ⟨h9, hf⟩
    · exact gx_go_ 43 [.inl 0, .inl 1] [vp_in s1 24, vp_in (a5 + (4 : Int32)) 28, vp_in a5 24, vp_in a5 28, ¬ (a6 = 0), vp_in a2 4, vp_in a1 6, vp_in ((((gx_up (gx_up σ 67 s1.toNatClampNeg s2) 69 a5.toNatClampNeg (((gx_up σ 67 s1.toNatClampNeg s2) 69 ((a5 + (4 : Int32)).toNatClampNeg)) + (if (0 : Int32) < ((gx_up σ 67 s1.toNatClampNeg s2) 67 a5.toNatClampNeg) then ((gx_up σ 67 s1.toNatClampNeg s2) 67 a5.toNatClampNeg) else (0 : Int32)))) 64 a2.toNatClampNeg) * (8 : Int32)) + ((gx_up (gx_up σ 67 s1.toNatClampNeg s2) 69 a5.toNatClampNeg (((gx_up σ 67 s1.toNatClampNeg s2) 69 ((a5 + (4 : Int32)).toNatClampNeg)) + (if (0 : Int32) < ((gx_up σ 67 s1.toNatClampNeg s2) 67 a5.toNatClampNeg) then ((gx_up σ 67 s1.toNatClampNeg s2) 67 a5.toNatClampNeg) else (0 : Int32)))) 65 a1.toNatClampNeg)) 64, a3 = 0] 107 [.ref 63, .int a1, .int a2, .int a3, .int a4, .int a5, .int a6, .int ((gx_up (gx_up σ 67 s1.toNatClampNeg s2) 69 a5.toNatClampNeg (((gx_up σ 67 s1.toNatClampNeg s2) 69 ((a5 + (4 : Int32)).toNatClampNeg)) + (if (0 : Int32) < ((gx_up σ 67 s1.toNatClampNeg s2) 67 a5.toNatClampNeg) then ((gx_up σ 67 s1.toNatClampNeg s2) 67 a5.toNatClampNeg) else (0 : Int32)))) 14 (((((gx_up (gx_up σ 67 s1.toNatClampNeg s2) 69 a5.toNatClampNeg (((gx_up σ 67 s1.toNatClampNeg s2) 69 ((a5 + (4 : Int32)).toNatClampNeg)) + (if (0 : Int32) < ((gx_up σ 67 s1.toNatClampNeg s2) 67 a5.toNatClampNeg) then ((gx_up σ 67 s1.toNatClampNeg s2) 67 a5.toNatClampNeg) else (0 : Int32)))) 64 a2.toNatClampNeg) * (8 : Int32)) + ((gx_up (gx_up σ 67 s1.toNatClampNeg s2) 69 a5.toNatClampNeg (((gx_up σ 67 s1.toNatClampNeg s2) 69 ((a5 + (4 : Int32)).toNatClampNeg)) + (if (0 : Int32) < ((gx_up σ 67 s1.toNatClampNeg s2) 67 a5.toNatClampNeg) then ((gx_up σ 67 s1.toNatClampNeg s2) 67 a5.toNatClampNeg) else (0 : Int32)))) 65 a1.toNatClampNeg)).toNatClampNeg))] [.int (1 : Int32), .int a5, .ref 68] (gx_up (gx_up σ 67 s1.toNatClampNeg s2) 69 a5.toNatClampNeg (((gx_up σ 67 s1.toNatClampNeg s2) 69 ((a5 + (4 : Int32)).toNatClampNeg)) + (if (0 : Int32) < ((gx_up σ 67 s1.toNatClampNeg s2) 67 a5.toNatClampNeg) then ((gx_up σ 67 s1.toNatClampNeg s2) 67 a5.toNatClampNeg) else (0 : Int32)))) rfl ⟨(z_ix_in h1), (z_ix_in h2), (z_ix_in h3), (z_ix_in h4), h5, (z_ix_in h6), (z_ix_in h7), (z_ix_in h8), h9, trivial⟩ (gx_fgt (ls' := [.ref 63, .null, .null, .null, .null, .int a5, .null, .null]) ⟨Or.inr rfl, Or.inl rfl, Or.inl rfl, Or.inl rfl, Or.inl rfl, Or.inr rfl, Or.inl rfl, Or.inl rfl, trivial⟩ (vv_Pa_weigh_107 D hD rr σ' a5 a5 (1 : Int32) (gx_up (gx_up σ 67 s1.toNatClampNeg s2) 69 a5.toNatClampNeg (((gx_up σ 67 s1.toNatClampNeg s2) 69 ((a5 + (4 : Int32)).toNatClampNeg)) + (if (0 : Int32) < ((gx_up σ 67 s1.toNatClampNeg s2) 67 a5.toNatClampNeg) then ((gx_up σ 67 s1.toNatClampNeg s2) 67 a5.toNatClampNeg) else (0 : Int32)))) hf))
    · obtain ⟨h10, hf⟩ := z_ck_inv hf
      obtain ⟨r11, σ12, h13, hf⟩ := z_bd_inv hf
      exact gx_go_ 52 [.inl 0, .inl 0, .inr (some (.int r11), σ12)] [vp_in s1 24, vp_in (a5 + (4 : Int32)) 28, vp_in a5 24, vp_in a5 28, ¬ (a6 = 0), vp_in a2 4, vp_in a1 6, vp_in ((((gx_up (gx_up σ 67 s1.toNatClampNeg s2) 69 a5.toNatClampNeg (((gx_up σ 67 s1.toNatClampNeg s2) 69 ((a5 + (4 : Int32)).toNatClampNeg)) + (if (0 : Int32) < ((gx_up σ 67 s1.toNatClampNeg s2) 67 a5.toNatClampNeg) then ((gx_up σ 67 s1.toNatClampNeg s2) 67 a5.toNatClampNeg) else (0 : Int32)))) 64 a2.toNatClampNeg) * (8 : Int32)) + ((gx_up (gx_up σ 67 s1.toNatClampNeg s2) 69 a5.toNatClampNeg (((gx_up σ 67 s1.toNatClampNeg s2) 69 ((a5 + (4 : Int32)).toNatClampNeg)) + (if (0 : Int32) < ((gx_up σ 67 s1.toNatClampNeg s2) 67 a5.toNatClampNeg) then ((gx_up σ 67 s1.toNatClampNeg s2) 67 a5.toNatClampNeg) else (0 : Int32)))) 65 a1.toNatClampNeg)) 64, ¬ (a3 = 0), vp_in a1 6, E0 D 27 [.ref 50, .int ((gx_up (gx_up σ 67 s1.toNatClampNeg s2) 69 a5.toNatClampNeg (((gx_up σ 67 s1.toNatClampNeg s2) 69 ((a5 + (4 : Int32)).toNatClampNeg)) + (if (0 : Int32) < ((gx_up σ 67 s1.toNatClampNeg s2) 67 a5.toNatClampNeg) then ((gx_up σ 67 s1.toNatClampNeg s2) 67 a5.toNatClampNeg) else (0 : Int32)))) 65 a1.toNatClampNeg), .int ((gx_up (gx_up σ 67 s1.toNatClampNeg s2) 69 a5.toNatClampNeg (((gx_up σ 67 s1.toNatClampNeg s2) 69 ((a5 + (4 : Int32)).toNatClampNeg)) + (if (0 : Int32) < ((gx_up σ 67 s1.toNatClampNeg s2) 67 a5.toNatClampNeg) then ((gx_up σ 67 s1.toNatClampNeg s2) 67 a5.toNatClampNeg) else (0 : Int32)))) 14 (((((gx_up (gx_up σ 67 s1.toNatClampNeg s2) 69 a5.toNatClampNeg (((gx_up σ 67 s1.toNatClampNeg s2) 69 ((a5 + (4 : Int32)).toNatClampNeg)) + (if (0 : Int32) < ((gx_up σ 67 s1.toNatClampNeg s2) 67 a5.toNatClampNeg) then ((gx_up σ 67 s1.toNatClampNeg s2) 67 a5.toNatClampNeg) else (0 : Int32)))) 64 a2.toNatClampNeg) * (8 : Int32)) + ((gx_up (gx_up σ 67 s1.toNatClampNeg s2) 69 a5.toNatClampNeg (((gx_up σ 67 s1.toNatClampNeg s2) 69 ((a5 + (4 : Int32)).toNatClampNeg)) + (if (0 : Int32) < ((gx_up σ 67 s1.toNatClampNeg s2) 67 a5.toNatClampNeg) then ((gx_up σ 67 s1.toNatClampNeg s2) 67 a5.toNatClampNeg) else (0 : Int32)))) 65 a1.toNatClampNeg)).toNatClampNeg)), .int a4] (gx_up (gx_up σ 67 s1.toNatClampNeg s2) 69 a5.toNatClampNeg (((gx_up σ 67 s1.toNatClampNeg s2) 69 ((a5 + (4 : Int32)).toNatClampNeg)) + (if (0 : Int32) < ((gx_up σ 67 s1.toNatClampNeg s2) 67 a5.toNatClampNeg) then ((gx_up σ 67 s1.toNatClampNeg s2) 67 a5.toNatClampNeg) else (0 : Int32)))) (some (.int r11)) σ12] 107 [.ref 63, .int a1, .int a2, .int a3, .int a4, .int a5, .int a6, .int ((gx_up (gx_up σ 67 s1.toNatClampNeg s2) 69 a5.toNatClampNeg (((gx_up σ 67 s1.toNatClampNeg s2) 69 ((a5 + (4 : Int32)).toNatClampNeg)) + (if (0 : Int32) < ((gx_up σ 67 s1.toNatClampNeg s2) 67 a5.toNatClampNeg) then ((gx_up σ 67 s1.toNatClampNeg s2) 67 a5.toNatClampNeg) else (0 : Int32)))) 14 (((((gx_up (gx_up σ 67 s1.toNatClampNeg s2) 69 a5.toNatClampNeg (((gx_up σ 67 s1.toNatClampNeg s2) 69 ((a5 + (4 : Int32)).toNatClampNeg)) + (if (0 : Int32) < ((gx_up σ 67 s1.toNatClampNeg s2) 67 a5.toNatClampNeg) then ((gx_up σ 67 s1.toNatClampNeg s2) 67 a5.toNatClampNeg) else (0 : Int32)))) 64 a2.toNatClampNeg) * (8 : Int32)) + ((gx_up (gx_up σ 67 s1.toNatClampNeg s2) 69 a5.toNatClampNeg (((gx_up σ 67 s1.toNatClampNeg s2) 69 ((a5 + (4 : Int32)).toNatClampNeg)) + (if (0 : Int32) < ((gx_up σ 67 s1.toNatClampNeg s2) 67 a5.toNatClampNeg) then ((gx_up σ 67 s1.toNatClampNeg s2) 67 a5.toNatClampNeg) else (0 : Int32)))) 65 a1.toNatClampNeg)).toNatClampNeg))] [.int r11, .int a5, .ref 68] σ12 rfl ⟨(z_ix_in h1), (z_ix_in h2), (z_ix_in h3), (z_ix_in h4), h5, (z_ix_in h6), (z_ix_in h7), (z_ix_in h8), h9, (z_ix_in h10), (ww_La_priceOf D (by omega) ((gx_up (gx_up σ 67 s1.toNatClampNeg s2) 69 a5.toNatClampNeg (((gx_up σ 67 s1.toNatClampNeg s2) 69 ((a5 + (4 : Int32)).toNatClampNeg)) + (if (0 : Int32) < ((gx_up σ 67 s1.toNatClampNeg s2) 67 a5.toNatClampNeg) then ((gx_up σ 67 s1.toNatClampNeg s2) 67 a5.toNatClampNeg) else (0 : Int32)))) 65 a1.toNatClampNeg) ((gx_up (gx_up σ 67 s1.toNatClampNeg s2) 69 a5.toNatClampNeg (((gx_up σ 67 s1.toNatClampNeg s2) 69 ((a5 + (4 : Int32)).toNatClampNeg)) + (if (0 : Int32) < ((gx_up σ 67 s1.toNatClampNeg s2) 67 a5.toNatClampNeg) then ((gx_up σ 67 s1.toNatClampNeg s2) 67 a5.toNatClampNeg) else (0 : Int32)))) 14 (((((gx_up (gx_up σ 67 s1.toNatClampNeg s2) 69 a5.toNatClampNeg (((gx_up σ 67 s1.toNatClampNeg s2) 69 ((a5 + (4 : Int32)).toNatClampNeg)) + (if (0 : Int32) < ((gx_up σ 67 s1.toNatClampNeg s2) 67 a5.toNatClampNeg) then ((gx_up σ 67 s1.toNatClampNeg s2) 67 a5.toNatClampNeg) else (0 : Int32)))) 64 a2.toNatClampNeg) * (8 : Int32)) + ((gx_up (gx_up σ 67 s1.toNatClampNeg s2) 69 a5.toNatClampNeg (((gx_up σ 67 s1.toNatClampNeg s2) 69 ((a5 + (4 : Int32)).toNatClampNeg)) + (if (0 : Int32) < ((gx_up σ 67 s1.toNatClampNeg s2) 67 a5.toNatClampNeg) then ((gx_up σ 67 s1.toNatClampNeg s2) 67 a5.toNatClampNeg) else (0 : Int32)))) 65 a1.toNatClampNeg)).toNatClampNeg)) a4 (gx_up (gx_up σ 67 s1.toNatClampNeg s2) 69 a5.toNatClampNeg (((gx_up σ 67 s1.toNatClampNeg s2) 69 ((a5 + (4 : Int32)).toNatClampNeg)) + (if (0 : Int32) < ((gx_up σ 67 s1.toNatClampNeg s2) 67 a5.toNatClampNeg) then ((gx_up σ 67 s1.toNatClampNeg s2) 67 a5.toNatClampNeg) else (0 : Int32)))) r11 σ12 h13), trivial⟩ (gx_fgt (ls' := [.ref 63, .null, .null, .null, .null, .int a5, .null, .null]) ⟨Or.inr rfl, Or.inl rfl, Or.inl rfl, Or.inl rfl, Or.inl rfl, Or.inr rfl, Or.inl rfl, Or.inl rfl, trivial⟩ (vv_Pa_weigh_107 D hD rr σ' a5 a5 r11 σ12 hf))
set_option maxHeartbeats 16000000 in
set_option maxRecDepth 20000 in
theorem vv_Pa_weigh_32 (D : Nat) (hD : 4 ≤ D + 1) (rr : Unit) (σ' : gx_R) (a1 : Int32) (a2 : Int32) (a3 : Int32) (a4 : Int32) (a5 : Int32) (s0 : Int32) (σ : gx_R) (hf : Pa_weigh_32 a1 a2 a3 a4 a5 s0 σ = some (rr, σ')) : gx_Ev lay0 (E0 D) tt_43 none σ' 32 [.ref 63, .int a1, .int a2, .int a3, .int a4, .int a5, .null, .null] [.int s0] σ := by
  unfold Pa_weigh_32 at hf
  rcases z_if_inv hf with ⟨h1, hf⟩ | ⟨h1, hf⟩
  · exact gx_go_ 7 [.inl 1] [s0 = 0] 54 [.ref 63, .int a1, .int a2, .int a3, .int a4, .int a5, .int s0, .null] [.int (-1 : Int32), .int a5, .ref 67] σ rfl ⟨h1, trivial⟩ (gx_fgt (ls' := [.ref 63, .int a1, .int a2, .int a3, .int a4, .int a5, .int s0, .null]) ⟨Or.inr rfl, Or.inr rfl, Or.inr rfl, Or.inr rfl, Or.inr rfl, Or.inr rfl, Or.inr rfl, Or.inl rfl, trivial⟩ (vv_Pa_weigh_54 D hD rr σ' a1 a2 a3 a4 a5 s0 a5 (-1 : Int32) σ hf))
  · obtain ⟨h2, hf⟩ := z_ck_inv hf
    obtain ⟨h3, hf⟩ := z_ck_inv hf
    obtain ⟨r4, σ5, h6, hf⟩ := z_bd_inv hf
    exact gx_go_ 21 [.inl 0, .inr (some (.int r4), σ5)] [¬ (s0 = 0), vp_in a1 6, vp_in a2 4, E0 D 24 [.ref 50, .int (σ 65 a1.toNatClampNeg), .int (σ 64 a2.toNatClampNeg), .int (0 : Int32), .int (0 : Int32), .int a4] σ (some (.int r4)) σ5] 54 [.ref 63, .int a1, .int a2, .int a3, .int a4, .int a5, .int s0, .null] [.int r4, .int a5, .ref 67] σ5 rfl ⟨h1, (z_ix_in h2), (z_ix_in h3), (ww_La_worthOf D (by omega) (σ 65 a1.toNatClampNeg) (σ 64 a2.toNatClampNeg) (0 : Int32) (0 : Int32) a4 σ r4 σ5 h6), trivial⟩ (gx_fgt (ls' := [.ref 63, .int a1, .int a2, .int a3, .int a4, .int a5, .int s0, .null]) ⟨Or.inr rfl, Or.inr rfl, Or.inr rfl, Or.inr rfl, Or.inr rfl, Or.inr rfl, Or.inr rfl, Or.inl rfl, trivial⟩ (vv_Pa_weigh_54 D hD rr σ' a1 a2 a3 a4 a5 s0 a5 r4 σ5 hf))
set_option maxHeartbeats 16000000 in
set_option maxRecDepth 20000 in
theorem vv_Pa_weigh_E (D : Nat) (hD : 4 ≤ D + 1) (rr : Unit) (σ' : gx_R) (a1 : Int32) (a2 : Int32) (a3 : Int32) (σ : gx_R) (hf : Pa_weigh a1 a2 a3 σ = some (rr, σ')) : gx_Ev lay0 (E0 D) tt_43 none σ' 0 [.ref 63, .int a1, .int a2, .int a3, .null, .null, .null, .null] [] σ := by
  unfold Pa_weigh at hf
  obtain ⟨h1, hf⟩ := z_ck_inv hf
  obtain ⟨h2, hf⟩ := z_ck_inv hf
  obtain ⟨h3, hf⟩ := z_ck_inv hf
  rcases z_if_inv hf with ⟨h4, hf⟩ | ⟨h4, hf⟩
  · exact gx_go_ 31 [.inl 0] [vp_in a1 6, vp_in (σ 65 a1.toNatClampNeg) 8, vp_in a2 4, ¬ ¬ ((((σ 5 ((σ 65 a1.toNatClampNeg).toNatClampNeg)) >>> ((σ 64 a2.toNatClampNeg) &&& 31)) &&& (1 : Int32)) = (1 : Int32))] 32 [.ref 63, .int a1, .int a2, .int a3, .int (σ 9 6), .int ((a1 * (4 : Int32)) + a2), .null, .null] [.int (1 : Int32)] σ rfl ⟨(z_ix_in h1), (z_ix_in h2), (z_ix_in h3), (fun q => q h4), trivial⟩ (gx_fgt (ls' := [.ref 63, .int a1, .int a2, .int a3, .int (σ 9 6), .int ((a1 * (4 : Int32)) + a2), .null, .null]) ⟨Or.inr rfl, Or.inr rfl, Or.inr rfl, Or.inr rfl, Or.inr rfl, Or.inr rfl, Or.inl rfl, Or.inl rfl, trivial⟩ (vv_Pa_weigh_32 D hD rr σ' a1 a2 a3 (σ 9 6) ((a1 * (4 : Int32)) + a2) (1 : Int32) σ hf))
  · exact gx_go_ 30 [.inl 1] [vp_in a1 6, vp_in (σ 65 a1.toNatClampNeg) 8, vp_in a2 4, ¬ ((((σ 5 ((σ 65 a1.toNatClampNeg).toNatClampNeg)) >>> ((σ 64 a2.toNatClampNeg) &&& 31)) &&& (1 : Int32)) = (1 : Int32))] 32 [.ref 63, .int a1, .int a2, .int a3, .int (σ 9 6), .int ((a1 * (4 : Int32)) + a2), .null, .null] [.int (0 : Int32)] σ rfl ⟨(z_ix_in h1), (z_ix_in h2), (z_ix_in h3), h4, trivial⟩ (gx_fgt (ls' := [.ref 63, .int a1, .int a2, .int a3, .int (σ 9 6), .int ((a1 * (4 : Int32)) + a2), .null, .null]) ⟨Or.inr rfl, Or.inr rfl, Or.inr rfl, Or.inr rfl, Or.inr rfl, Or.inr rfl, Or.inl rfl, Or.inl rfl, trivial⟩ (vv_Pa_weigh_32 D hD rr σ' a1 a2 a3 (σ 9 6) ((a1 * (4 : Int32)) + a2) (0 : Int32) σ hf))
set_option maxHeartbeats 16000000 in
set_option maxRecDepth 20000 in
theorem ww_Pa_weigh (D : Nat) (hD : 4 ≤ D) (a1 : Int32) (a2 : Int32) (a3 : Int32) (σ : gx_R) (rr : Unit) (σ' : gx_R) (hf : Pa_weigh a1 a2 a3 σ = some (rr, σ')) : E0 D 43 [.ref 63, .int a1, .int a2, .int a3] σ none σ' := by
  cases D with
  | zero => omega
  | succ D => exact Or.inl ⟨Nat.le_of_ble_eq_true rfl, vv_Pa_weigh_E D hD rr σ' a1 a2 a3 σ hf⟩
set_option maxHeartbeats 16000000 in
set_option maxRecDepth 20000 in
theorem vv_Pa_prepare_70 (D : Nat) (hD : 5 ≤ D + 1) (rr : Unit) (σ' : gx_R) (K55 : Int32 → Int32 → gx_R → Option (Unit × gx_R)) (hK55 : ∀ (a4 : Int32) (a5 : Int32) (σ : gx_R), K55 a4 a5 σ = some (rr, σ') → gx_Ev lay0 (E0 D) tt_42 none σ' 55 [.ref 63, .null, .null, .null, .int a4, .int a5, .null] [] σ) (a4 : Int32) (a5 : Int32) (σ : gx_R) (hf : Pa_prepare_70 K55 a4 a5 σ = some (rr, σ')) : gx_Ev lay0 (E0 D) tt_42 none σ' 70 [.ref 63, .null, .null, .null, .int a4, .int a5, .null] [] σ := by
  unfold Pa_prepare_70 at hf
  exact gx_go_ 2 [] [] 55 [.ref 63, .null, .null, .null, .int a4, .int (a5 + (-1)), .null] [] σ rfl trivial (gx_fgt (ls' := [.ref 63, .null, .null, .null, .int a4, .int (a5 + (-1)), .null]) ⟨Or.inr rfl, Or.inl rfl, Or.inl rfl, Or.inl rfl, Or.inr rfl, Or.inr rfl, Or.inl rfl, trivial⟩ (hK55 a4 (a5 + (-1)) σ hf))
set_option maxHeartbeats 16000000 in
set_option maxRecDepth 20000 in
theorem vv_Pa_prepare_59_B (D : Nat) (hD : 5 ≤ D + 1) (rr : Unit) (σ' : gx_R) (K55 : Int32 → Int32 → gx_R → Option (Unit × gx_R)) (hK55 : ∀ (a4 : Int32) (a5 : Int32) (σ : gx_R), K55 a4 a5 σ = some (rr, σ') → gx_Ev lay0 (E0 D) tt_42 none σ' 55 [.ref 63, .null, .null, .null, .int a4, .int a5, .null] [] σ) (K59 : Int32 → Int32 → Int32 → gx_R → Option (Unit × gx_R)) (hK59 : ∀ (a4 : Int32) (a5 : Int32) (a6 : Int32) (σ : gx_R), K59 a4 a5 a6 σ = some (rr, σ') → gx_Ev lay0 (E0 D) tt_42 none σ' 59 [.ref 63, .null, .null, .null, .int a4, .int a5, .int a6] [] σ) (a4 : Int32) (a5 : Int32) (a6 : Int32) (σ : gx_R) (hf : Pa_prepare_59_B K55 K59 a4 a5 a6 σ = some (rr, σ')) : gx_Ev lay0 (E0 D) tt_42 none σ' 59 [.ref 63, .null, .null, .null, .int a4, .int a5, .int a6] [] σ := by
  unfold Pa_prepare_59_B at hf
  rcases z_if_inv hf with ⟨h1, hf⟩ | ⟨h1, hf⟩
  · exact gx_go_ 4 [.inl 1] [(σ 63 4) ≤ a6] 70 [.ref 63, .null, .null, .null, .int a4, .int a5, .int a6] [] σ rfl ⟨h1, trivial⟩ (gx_fgt (ls' := [.ref 63, .null, .null, .null, .int a4, .int a5, .null]) ⟨Or.inr rfl, Or.inl rfl, Or.inl rfl, Or.inl rfl, Or.inr rfl, Or.inr rfl, Or.inl rfl, trivial⟩ (vv_Pa_prepare_70 D hD rr σ' K55 hK55 a4 a5 σ hf))
  · obtain ⟨⟨⟩, σ3, h4, hf⟩ := z_bd_inv hf
    exact gx_go_ 11 [.inl 0, .inr (none, σ3)] [¬ ((σ 63 4) ≤ a6), E0 D 43 [.ref 63, .int a5, .int a6, .int a4] σ (none) σ3] 59 [.ref 63, .null, .null, .null, .int a4, .int a5, .int (a6 + 1)] [] σ3 rfl ⟨h1, (ww_Pa_weigh D (by omega) a5 a6 a4 σ () σ3 h4), trivial⟩ (gx_fgt (ls' := [.ref 63, .null, .null, .null, .int a4, .int a5, .int (a6 + 1)]) ⟨Or.inr rfl, Or.inl rfl, Or.inl rfl, Or.inl rfl, Or.inr rfl, Or.inr rfl, Or.inr rfl, trivial⟩ (hK59 a4 a5 (a6 + 1) σ3 hf))
set_option maxHeartbeats 16000000 in
set_option maxRecDepth 20000 in
theorem vv_Pa_prepare_59 (D : Nat) (hD : 5 ≤ D + 1) (rr : Unit) (σ' : gx_R) (K55 : Int32 → Int32 → gx_R → Option (Unit × gx_R)) (hK55 : ∀ (a4 : Int32) (a5 : Int32) (σ : gx_R), K55 a4 a5 σ = some (rr, σ') → gx_Ev lay0 (E0 D) tt_42 none σ' 55 [.ref 63, .null, .null, .null, .int a4, .int a5, .null] [] σ) : ∀ (n : Nat) (a4 : Int32) (a5 : Int32) (a6 : Int32) (σ : gx_R), Pa_prepare_59 K55 n a4 a5 a6 σ = some (rr, σ') → gx_Ev lay0 (E0 D) tt_42 none σ' 59 [.ref 63, .null, .null, .null, .int a4, .int a5, .int a6] [] σ := by
  intro n
  induction n with
  | zero => intro a4 a5 a6 σ  hf; cases hf
  | succ n ih => intro a4 a5 a6 σ  hf; exact vv_Pa_prepare_59_B D hD rr σ'  K55 hK55 (Pa_prepare_59 K55 n) ih a4 a5 a6 σ  hf
set_option maxHeartbeats 16000000 in
set_option maxRecDepth 20000 in
theorem vv_Pa_prepare_55_B (D : Nat) (hD : 5 ≤ D + 1) (rr : Unit) (σ' : gx_R) (K55 : Int32 → Int32 → gx_R → Option (Unit × gx_R)) (hK55 : ∀ (a4 : Int32) (a5 : Int32) (σ : gx_R), K55 a4 a5 σ = some (rr, σ') → gx_Ev lay0 (E0 D) tt_42 none σ' 55 [.ref 63, .null, .null, .null, .int a4, .int a5, .null] [] σ) (a4 : Int32) (a5 : Int32) (σ : gx_R) (hf : Pa_prepare_55_B K55 a4 a5 σ = some (rr, σ')) : gx_Ev lay0 (E0 D) tt_42 none σ' 55 [.ref 63, .null, .null, .null, .int a4, .int a5, .null] [] σ := by
  unfold Pa_prepare_55_B at hf
  rcases z_if_inv hf with ⟨h1, hf⟩ | ⟨h1, hf⟩
  · obtain ⟨e1, e2⟩ := z_ret hf
    subst e1
    subst e2
    exact gx_end 3 [.inl 1] [a5 < 0] rfl ⟨h1, trivial⟩
  · exact gx_go_ 4 [.inl 0] [¬ (a5 < 0)] 59 [.ref 63, .null, .null, .null, .int a4, .int a5, .int (0 : Int32)] [] σ rfl ⟨h1, trivial⟩ (gx_fgt (ls' := [.ref 63, .null, .null, .null, .int a4, .int a5, .int (0 : Int32)]) ⟨Or.inr rfl, Or.inl rfl, Or.inl rfl, Or.inl rfl, Or.inr rfl, Or.inr rfl, Or.inr rfl, trivial⟩ (vv_Pa_prepare_59 D hD rr σ' K55 hK55 z_FU a4 a5 (0 : Int32) σ hf))
set_option maxHeartbeats 16000000 in
set_option maxRecDepth 20000 in
theorem vv_Pa_prepare_55 (D : Nat) (hD : 5 ≤ D + 1) (rr : Unit) (σ' : gx_R) : ∀ (n : Nat) (a4 : Int32) (a5 : Int32) (σ : gx_R), Pa_prepare_55 n a4 a5 σ = some (rr, σ') → gx_Ev lay0 (E0 D) tt_42 none σ' 55 [.ref 63, .null, .null, .null, .int a4, .int a5, .null] [] σ := by
  intro n
  induction n with
  | zero => intro a4 a5 σ  hf; cases hf
  | succ n ih => intro a4 a5 σ  hf; exact vv_Pa_prepare_55_B D hD rr σ'  (Pa_prepare_55 n) ih a4 a5 σ  hf
set_option maxHeartbeats 16000000 in
set_option maxRecDepth 20000 in
theorem vv_Pa_prepare_50 (D : Nat) (hD : 5 ≤ D + 1) (rr : Unit) (σ' : gx_R) (a4 : Int32) (σ : gx_R) (hf : Pa_prepare_50 a4 σ = some (rr, σ')) : gx_Ev lay0 (E0 D) tt_42 none σ' 50 [.ref 63, .null, .null, .null, .int a4, .null, .null] [] σ := by
  unfold Pa_prepare_50 at hf
  exact gx_go_ 5 [] [] 55 [.ref 63, .null, .null, .null, .int a4, .int ((σ 63 5) - (1 : Int32)), .null] [] σ rfl trivial (gx_fgt (ls' := [.ref 63, .null, .null, .null, .int a4, .int ((σ 63 5) - (1 : Int32)), .null]) ⟨Or.inr rfl, Or.inl rfl, Or.inl rfl, Or.inl rfl, Or.inr rfl, Or.inr rfl, Or.inl rfl, trivial⟩ (vv_Pa_prepare_55 D hD rr σ' z_FU a4 ((σ 63 5) - (1 : Int32)) σ hf))
set_option maxHeartbeats 16000000 in
set_option maxRecDepth 20000 in
theorem vv_Pa_prepare_17_B (D : Nat) (hD : 5 ≤ D + 1) (rr : Unit) (σ' : gx_R) (K17 : Int32 → Int32 → Int32 → gx_R → Option (Unit × gx_R)) (hK17 : ∀ (a2 : Int32) (a4 : Int32) (a5 : Int32) (σ : gx_R), K17 a2 a4 a5 σ = some (rr, σ') → gx_Ev lay0 (E0 D) tt_42 none σ' 17 [.ref 63, .null, .int a2, .null, .int a4, .int a5, .null] [] σ) (a2 : Int32) (a4 : Int32) (a5 : Int32) (σ : gx_R) (hf : Pa_prepare_17_B K17 a2 a4 a5 σ = some (rr, σ')) : gx_Ev lay0 (E0 D) tt_42 none σ' 17 [.ref 63, .null, .int a2, .null, .int a4, .int a5, .null] [] σ := by
  unfold Pa_prepare_17_B at hf
  rcases z_if_inv hf with ⟨h1, hf⟩ | ⟨h1, hf⟩
  · exact gx_go_ 4 [.inl 1] [(σ 63 4) ≤ a5] 50 [.ref 63, .null, .int a2, .null, .int a4, .int a5, .null] [] σ rfl ⟨h1, trivial⟩ (gx_fgt (ls' := [.ref 63, .null, .null, .null, .int a4, .null, .null]) ⟨Or.inr rfl, Or.inl rfl, Or.inl rfl, Or.inl rfl, Or.inr rfl, Or.inl rfl, Or.inl rfl, trivial⟩ (vv_Pa_prepare_50 D hD rr σ' a4 σ hf))
  · obtain ⟨h2, hf⟩ := z_ck_inv hf
    obtain ⟨r3, σ4, h5, hf⟩ := z_bd_inv hf
    obtain ⟨h6, hf⟩ := z_ck_inv hf
    obtain ⟨h7, hf⟩ := z_ck_inv hf
    exact gx_go_ 33 [.inl 0, .inr (some (.int r3), σ4)] [¬ ((σ 63 4) ≤ a5), vp_in a5 4, E0 D 25 [.ref 50, .int (σ 64 a5.toNatClampNeg), .int a2, .int (0 : Int32), .int (σ 9 6)] σ (some (.int r3)) σ4, vp_in a5 4, vp_in ((((gx_up σ4 66 a5.toNatClampNeg r3) 63 5) * (4 : Int32)) + a5) 28] 17 [.ref 63, .null, .int a2, .null, .int a4, .int (a5 + 1), .null] [] (gx_up (gx_up σ4 66 a5.toNatClampNeg r3) 69 ((((gx_up σ4 66 a5.toNatClampNeg r3) 63 5) * (4 : Int32)) + a5).toNatClampNeg (0 : Int32)) rfl ⟨h1, (z_ix_in h2), (ww_La_burnOf D (by omega) (σ 64 a5.toNatClampNeg) a2 (0 : Int32) (σ 9 6) σ r3 σ4 h5), (z_ix_in h6), (z_ix_in h7), trivial⟩ (gx_fgt (ls' := [.ref 63, .null, .int a2, .null, .int a4, .int (a5 + 1), .null]) ⟨Or.inr rfl, Or.inl rfl, Or.inr rfl, Or.inl rfl, Or.inr rfl, Or.inr rfl, Or.inl rfl, trivial⟩ (hK17 a2 a4 (a5 + 1) (gx_up (gx_up σ4 66 a5.toNatClampNeg r3) 69 ((((gx_up σ4 66 a5.toNatClampNeg r3) 63 5) * (4 : Int32)) + a5).toNatClampNeg (0 : Int32)) hf))
set_option maxHeartbeats 16000000 in
set_option maxRecDepth 20000 in
theorem vv_Pa_prepare_17 (D : Nat) (hD : 5 ≤ D + 1) (rr : Unit) (σ' : gx_R) : ∀ (n : Nat) (a2 : Int32) (a4 : Int32) (a5 : Int32) (σ : gx_R), Pa_prepare_17 n a2 a4 a5 σ = some (rr, σ') → gx_Ev lay0 (E0 D) tt_42 none σ' 17 [.ref 63, .null, .int a2, .null, .int a4, .int a5, .null] [] σ := by
  intro n
  induction n with
  | zero => intro a2 a4 a5 σ  hf; cases hf
  | succ n ih => intro a2 a4 a5 σ  hf; exact vv_Pa_prepare_17_B D hD rr σ'  (Pa_prepare_17 n) ih a2 a4 a5 σ  hf
set_option maxHeartbeats 16000000 in
set_option maxRecDepth 20000 in
theorem vv_Pa_prepare_E (D : Nat) (hD : 5 ≤ D + 1) (rr : Unit) (σ' : gx_R) (a1 : Int32) (a2 : Int32) (a3 : Int32) (a4 : Int32) (σ : gx_R) (hf : Pa_prepare a1 a2 a3 a4 σ = some (rr, σ')) : gx_Ev lay0 (E0 D) tt_42 none σ' 0 [.ref 63, .int a1, .int a2, .int a3, .int a4, .null, .null] [] σ := by
  unfold Pa_prepare at hf
  obtain ⟨r1, σ2, h3, hf⟩ := z_bd_inv hf
  obtain ⟨r4, σ5, h6, hf⟩ := z_bd_inv hf
  exact gx_go_ 17 [.inr (some (.int r1), σ2), .inr (some (.int r4), σ5)] [E0 D 41 [.int a1, .ref 64] σ (some (.int r1)) σ2, E0 D 41 [.int a3, .ref 65] (gx_up σ2 63 4 r1) (some (.int r4)) σ5] 17 [.ref 63, .int a1, .int a2, .int a3, .int a4, .int (0 : Int32), .null] [] (gx_up (gx_up σ5 63 5 r4) 63 10 (1000000 : Int32)) rfl ⟨(ww_Pa_list D (by omega) a1 64 σ r1 σ2 (Or.inl rfl) h3), (ww_Pa_list D (by omega) a3 65 (gx_up σ2 63 4 r1) r4 σ5 (Or.inr rfl) h6), trivial⟩ (gx_fgt (ls' := [.ref 63, .null, .int a2, .null, .int a4, .int (0 : Int32), .null]) ⟨Or.inr rfl, Or.inl rfl, Or.inr rfl, Or.inl rfl, Or.inr rfl, Or.inr rfl, Or.inl rfl, trivial⟩ (vv_Pa_prepare_17 D hD rr σ' z_FU a2 a4 (0 : Int32) (gx_up (gx_up σ5 63 5 r4) 63 10 (1000000 : Int32)) hf))
set_option maxHeartbeats 16000000 in
set_option maxRecDepth 20000 in
theorem ww_Pa_prepare (D : Nat) (hD : 5 ≤ D) (a1 : Int32) (a2 : Int32) (a3 : Int32) (a4 : Int32) (σ : gx_R) (rr : Unit) (σ' : gx_R) (hf : Pa_prepare a1 a2 a3 a4 σ = some (rr, σ')) : E0 D 42 [.ref 63, .int a1, .int a2, .int a3, .int a4] σ none σ' := by
  cases D with
  | zero => omega
  | succ D => exact Or.inl ⟨Nat.le_of_ble_eq_true rfl, vv_Pa_prepare_E D hD rr σ' a1 a2 a3 a4 σ hf⟩
set_option maxHeartbeats 16000000 in
set_option maxRecDepth 20000 in
theorem vv_Pa_isWorthwhile_36 (D : Nat) (hD : 1 ≤ D + 1) (rr : Int32) (σ' : gx_R) (K4 : Int32 → Int32 → Int32 → Int32 → Int32 → gx_R → Option (Int32 × gx_R)) (hK4 : ∀ (a1 : Int32) (a2 : Int32) (a3 : Int32) (a4 : Int32) (a5 : Int32) (σ : gx_R), K4 a1 a2 a3 a4 a5 σ = some (rr, σ') → gx_Ev lay0 (E0 D) tt_46 (some (.int rr)) σ' 4 [.ref 63, .int a1, .int a2, .int a3, .int a4, .int a5, .null] [] σ) (a1 : Int32) (a2 : Int32) (a3 : Int32) (a5 : Int32) (s0 : Int32) (s1 : Int32) (σ : gx_R) (hf : Pa_isWorthwhile_36 K4 a1 a2 a3 a5 s0 s1 σ = some (rr, σ')) : gx_Ev lay0 (E0 D) tt_46 (some (.int rr)) σ' 36 [.ref 63, .int a1, .int a2, .int a3, .null, .int a5, .null] [.int s1, .int s0] σ := by
  unfold Pa_isWorthwhile_36 at hf
  exact gx_go_ 4 [] [] 4 [.ref 63, .int a1, .int a2, .int a3, .int (s0 + s1), .int (a5 + 1), .null] [] σ rfl trivial (gx_fgt (ls' := [.ref 63, .int a1, .int a2, .int a3, .int (s0 + s1), .int (a5 + 1), .null]) ⟨Or.inr rfl, Or.inr rfl, Or.inr rfl, Or.inr rfl, Or.inr rfl, Or.inr rfl, Or.inl rfl, trivial⟩ (hK4 a1 a2 a3 (s0 + s1) (a5 + 1) σ hf))
set_option maxHeartbeats 16000000 in
set_option maxRecDepth 20000 in
theorem vv_Pa_isWorthwhile_65 (D : Nat) (hD : 1 ≤ D + 1) (rr : Int32) (σ' : gx_R) (σ : gx_R) (hf : Pa_isWorthwhile_65  σ = some (rr, σ')) : gx_Ev lay0 (E0 D) tt_46 (some (.int rr)) σ' 65 [.null, .null, .null, .null, .null, .null, .null] [] σ := by
  unfold Pa_isWorthwhile_65 at hf
  obtain ⟨e1, e2⟩ := z_ret hf
  subst e1
  subst e2
  exact gx_end 3 [] [(1 : Int32) &&& 1 = (1 : Int32)] rfl ⟨rfl, trivial⟩
set_option maxHeartbeats 16000000 in
set_option maxRecDepth 20000 in
theorem vv_Pa_isWorthwhile_49 (D : Nat) (hD : 1 ≤ D + 1) (rr : Int32) (σ' : gx_R) (a2 : Int32) (a4 : Int32) (s0 : Int32) (s1 : Int32) (σ : gx_R) (hf : Pa_isWorthwhile_49 a2 a4 s0 s1 σ = some (rr, σ')) : gx_Ev lay0 (E0 D) tt_46 (some (.int rr)) σ' 49 [.ref 63, .null, .int a2, .null, .int a4, .null, .null] [.int s1, .int s0] σ := by
  unfold Pa_isWorthwhile_49 at hf
  rcases z_if_inv hf with ⟨h1, hf⟩ | ⟨h1, hf⟩
  · exact gx_go_ 6 [.inl 1] [(s0 + s1) < (σ 63 15)] 65 [.ref 63, .null, .int a2, .null, .int a4, .int (s0 + s1), .null] [] σ rfl ⟨h1, trivial⟩ (gx_fgt (ls' := [.null, .null, .null, .null, .null, .null, .null]) ⟨Or.inl rfl, Or.inl rfl, Or.inl rfl, Or.inl rfl, Or.inl rfl, Or.inl rfl, Or.inl rfl, trivial⟩ (vv_Pa_isWorthwhile_65 D hD rr σ' σ hf))
  · rcases z_if_inv hf with ⟨h2, hf⟩ | ⟨h2, hf⟩
    · rcases z_if_inv hf with ⟨h3, hf⟩ | ⟨h3, hf⟩
      · obtain ⟨e1, e2⟩ := z_ret hf
        subst e1
        subst e2
        exact gx_end 18 [.inl 0, .inl 0, .inl 1] [¬ ((s0 + s1) < (σ 63 15)), ¬ ¬ ((s0 + s1) = (σ 63 15)), (σ 63 14) ≤ (a2 + a4), (0 : Int32) &&& 1 = (0 : Int32)] rfl ⟨h1, (fun q => q h2), h3, rfl, trivial⟩
      · exact gx_go_ 16 [.inl 0, .inl 0, .inl 0] [¬ ((s0 + s1) < (σ 63 15)), ¬ ¬ ((s0 + s1) = (σ 63 15)), ¬ ((σ 63 14) ≤ (a2 + a4))] 65 [.ref 63, .null, .int a2, .null, .int a4, .int (s0 + s1), .null] [] σ rfl ⟨h1, (fun q => q h2), h3, trivial⟩ (gx_fgt (ls' := [.null, .null, .null, .null, .null, .null, .null]) ⟨Or.inl rfl, Or.inl rfl, Or.inl rfl, Or.inl rfl, Or.inl rfl, Or.inl rfl, Or.inl rfl, trivial⟩ (vv_Pa_isWorthwhile_65 D hD rr σ' σ hf))
    · obtain ⟨e1, e2⟩ := z_ret hf
      subst e1
      subst e2
      exact gx_end 12 [.inl 0, .inl 1] [¬ ((s0 + s1) < (σ 63 15)), ¬ ((s0 + s1) = (σ 63 15)), (0 : Int32) &&& 1 = (0 : Int32)] rfl ⟨h1, h2, rfl, trivial⟩
set_option maxHeartbeats 16000000 in
set_option maxRecDepth 20000 in
theorem vv_Pa_isWorthwhile_40 (D : Nat) (hD : 1 ≤ D + 1) (rr : Int32) (σ' : gx_R) (a2 : Int32) (a3 : Int32) (a4 : Int32) (σ : gx_R) (hf : Pa_isWorthwhile_40 a2 a3 a4 σ = some (rr, σ')) : gx_Ev lay0 (E0 D) tt_46 (some (.int rr)) σ' 40 [.ref 63, .null, .int a2, .int a3, .int a4, .null, .null] [] σ := by
  unfold Pa_isWorthwhile_40 at hf
  rcases z_if_inv hf with ⟨h1, hf⟩ | ⟨h1, hf⟩
  · exact gx_go_ 4 [.inl 1] [a4 ≤ 0] 49 [.ref 63, .null, .int a2, .int a3, .int a4, .null, .null] [.int (0 : Int32), .int a3] σ rfl ⟨h1, trivial⟩ (gx_fgt (ls' := [.ref 63, .null, .int a2, .null, .int a4, .null, .null]) ⟨Or.inr rfl, Or.inl rfl, Or.inr rfl, Or.inl rfl, Or.inr rfl, Or.inl rfl, Or.inl rfl, trivial⟩ (vv_Pa_isWorthwhile_49 D hD rr σ' a2 a4 a3 (0 : Int32) σ hf))
  · exact gx_go_ 8 [.inl 0] [¬ (a4 ≤ 0)] 49 [.ref 63, .null, .int a2, .int a3, .int a4, .null, .null] [.int (a4 * (σ 63 10)), .int a3] σ rfl ⟨h1, trivial⟩ (gx_fgt (ls' := [.ref 63, .null, .int a2, .null, .int a4, .null, .null]) ⟨Or.inr rfl, Or.inl rfl, Or.inr rfl, Or.inl rfl, Or.inr rfl, Or.inl rfl, Or.inl rfl, trivial⟩ (vv_Pa_isWorthwhile_49 D hD rr σ' a2 a4 a3 (a4 * (σ 63 10)) σ hf))
set_option maxHeartbeats 16000000 in
set_option maxRecDepth 20000 in
theorem vv_Pa_isWorthwhile_4_B (D : Nat) (hD : 1 ≤ D + 1) (rr : Int32) (σ' : gx_R) (K4 : Int32 → Int32 → Int32 → Int32 → Int32 → gx_R → Option (Int32 × gx_R)) (hK4 : ∀ (a1 : Int32) (a2 : Int32) (a3 : Int32) (a4 : Int32) (a5 : Int32) (σ : gx_R), K4 a1 a2 a3 a4 a5 σ = some (rr, σ') → gx_Ev lay0 (E0 D) tt_46 (some (.int rr)) σ' 4 [.ref 63, .int a1, .int a2, .int a3, .int a4, .int a5, .null] [] σ) (a1 : Int32) (a2 : Int32) (a3 : Int32) (a4 : Int32) (a5 : Int32) (σ : gx_R) (hf : Pa_isWorthwhile_4_B K4 a1 a2 a3 a4 a5 σ = some (rr, σ')) : gx_Ev lay0 (E0 D) tt_46 (some (.int rr)) σ' 4 [.ref 63, .int a1, .int a2, .int a3, .int a4, .int a5, .null] [] σ := by
  unfold Pa_isWorthwhile_4_B at hf
  rcases z_if_inv hf with ⟨h1, hf⟩ | ⟨h1, hf⟩
  · exact gx_go_ 4 [.inl 1] [(σ 63 4) ≤ a5] 40 [.ref 63, .int a1, .int a2, .int a3, .int a4, .int a5, .null] [] σ rfl ⟨h1, trivial⟩ (gx_fgt (ls' := [.ref 63, .null, .int a2, .int a3, .int a4, .null, .null]) ⟨Or.inr rfl, Or.inl rfl, Or.inr rfl, Or.inr rfl, Or.inr rfl, Or.inl rfl, Or.inl rfl, trivial⟩ (vv_Pa_isWorthwhile_40 D hD rr σ' a2 a3 a4 σ hf))
  · obtain ⟨h2, hf⟩ := z_ck_inv hf
    obtain ⟨h3, hf⟩ := z_ck_inv hf
    obtain ⟨h4, hf⟩ := z_ck_inv hf
    rcases z_if_inv hf with ⟨h5, hf⟩ | ⟨h5, hf⟩
    · rcases z_if_inv hf with ⟨h6, hf⟩ | ⟨h6, hf⟩
      · exact gx_go_ 28 [.inl 0, .inl 1, .inl 1] [¬ ((σ 63 4) ≤ a5), vp_in a5 4, vp_in a5 4, vp_in ((a1 * (4 : Int32)) + a5) 28, ((σ 66 a5.toNatClampNeg) - (σ 70 a5.toNatClampNeg)) ≤ (σ 69 (((a1 * (4 : Int32)) + a5).toNatClampNeg)), ((σ 66 a5.toNatClampNeg) - (σ 70 a5.toNatClampNeg)) ≤ 0] 36 [.ref 63, .int a1, .int a2, .int a3, .int a4, .int a5, .int ((σ 66 a5.toNatClampNeg) - (σ 70 a5.toNatClampNeg))] [.int (0 : Int32), .int a4] σ rfl ⟨h1, (z_ix_in h2), (z_ix_in h3), (z_ix_in h4), h5, h6, trivial⟩ (gx_fgt (ls' := [.ref 63, .int a1, .int a2, .int a3, .null, .int a5, .null]) ⟨Or.inr rfl, Or.inr rfl, Or.inr rfl, Or.inr rfl, Or.inl rfl, Or.inr rfl, Or.inl rfl, trivial⟩ (vv_Pa_isWorthwhile_36 D hD rr σ' K4 hK4 a1 a2 a3 a5 a4 (0 : Int32) σ hf))
      · exact gx_go_ 29 [.inl 0, .inl 1, .inl 0] [¬ ((σ 63 4) ≤ a5), vp_in a5 4, vp_in a5 4, vp_in ((a1 * (4 : Int32)) + a5) 28, ((σ 66 a5.toNatClampNeg) - (σ 70 a5.toNatClampNeg)) ≤ (σ 69 (((a1 * (4 : Int32)) + a5).toNatClampNeg)), ¬ (((σ 66 a5.toNatClampNeg) - (σ 70 a5.toNatClampNeg)) ≤ 0)] 36 [.ref 63, .int a1, .int a2, .int a3, .int a4, .int a5, .int ((σ 66 a5.toNatClampNeg) - (σ 70 a5.toNatClampNeg))] [.int (1 : Int32), .int a4] σ rfl ⟨h1, (z_ix_in h2), (z_ix_in h3), (z_ix_in h4), h5, h6, trivial⟩ (gx_fgt (ls' := [.ref 63, .int a1, .int a2, .int a3, .null, .int a5, .null]) ⟨Or.inr rfl, Or.inr rfl, Or.inr rfl, Or.inr rfl, Or.inl rfl, Or.inr rfl, Or.inl rfl, trivial⟩ (vv_Pa_isWorthwhile_36 D hD rr σ' K4 hK4 a1 a2 a3 a5 a4 (1 : Int32) σ hf))
    · obtain ⟨e1, e2⟩ := z_ret hf
      subst e1
      subst e2
      exact gx_end 26 [.inl 0, .inl 0] [¬ ((σ 63 4) ≤ a5), vp_in a5 4, vp_in a5 4, vp_in ((a1 * (4 : Int32)) + a5) 28, ¬ (((σ 66 a5.toNatClampNeg) - (σ 70 a5.toNatClampNeg)) ≤ (σ 69 (((a1 * (4 : Int32)) + a5).toNatClampNeg))), (0 : Int32) &&& 1 = (0 : Int32)] rfl ⟨h1, (z_ix_in h2), (z_ix_in h3), (z_ix_in h4), h5, rfl, trivial⟩
set_option maxHeartbeats 16000000 in
set_option maxRecDepth 20000 in
theorem vv_Pa_isWorthwhile_4 (D : Nat) (hD : 1 ≤ D + 1) (rr : Int32) (σ' : gx_R) : ∀ (n : Nat) (a1 : Int32) (a2 : Int32) (a3 : Int32) (a4 : Int32) (a5 : Int32) (σ : gx_R), Pa_isWorthwhile_4 n a1 a2 a3 a4 a5 σ = some (rr, σ') → gx_Ev lay0 (E0 D) tt_46 (some (.int rr)) σ' 4 [.ref 63, .int a1, .int a2, .int a3, .int a4, .int a5, .null] [] σ := by
  intro n
  induction n with
  | zero => intro a1 a2 a3 a4 a5 σ  hf; cases hf
  | succ n ih => intro a1 a2 a3 a4 a5 σ  hf; exact vv_Pa_isWorthwhile_4_B D hD rr σ'  (Pa_isWorthwhile_4 n) ih a1 a2 a3 a4 a5 σ  hf
set_option maxHeartbeats 16000000 in
set_option maxRecDepth 20000 in
theorem vv_Pa_isWorthwhile_E (D : Nat) (hD : 1 ≤ D + 1) (rr : Int32) (σ' : gx_R) (a1 : Int32) (a2 : Int32) (a3 : Int32) (σ : gx_R) (hf : Pa_isWorthwhile a1 a2 a3 σ = some (rr, σ')) : gx_Ev lay0 (E0 D) tt_46 (some (.int rr)) σ' 0 [.ref 63, .int a1, .int a2, .int a3, .null, .null, .null] [] σ := by
  unfold Pa_isWorthwhile at hf
  exact gx_go_ 4 [] [] 4 [.ref 63, .int a1, .int a2, .int a3, .int (0 : Int32), .int (0 : Int32), .null] [] σ rfl trivial (gx_fgt (ls' := [.ref 63, .int a1, .int a2, .int a3, .int (0 : Int32), .int (0 : Int32), .null]) ⟨Or.inr rfl, Or.inr rfl, Or.inr rfl, Or.inr rfl, Or.inr rfl, Or.inr rfl, Or.inl rfl, trivial⟩ (vv_Pa_isWorthwhile_4 D hD rr σ' z_FU a1 a2 a3 (0 : Int32) (0 : Int32) σ hf))
set_option maxHeartbeats 16000000 in
set_option maxRecDepth 20000 in
theorem ww_Pa_isWorthwhile (D : Nat) (hD : 1 ≤ D) (a1 : Int32) (a2 : Int32) (a3 : Int32) (σ : gx_R) (rr : Int32) (σ' : gx_R) (hf : Pa_isWorthwhile a1 a2 a3 σ = some (rr, σ')) : E0 D 46 [.ref 63, .int a1, .int a2, .int a3] σ (some (.int rr)) σ' := by
  cases D with
  | zero => omega
  | succ D => exact Or.inl ⟨Nat.le_of_ble_eq_true rfl, vv_Pa_isWorthwhile_E D hD rr σ' a1 a2 a3 σ hf⟩
set_option maxHeartbeats 16000000 in
set_option maxRecDepth 20000 in
theorem vv_Pa_search_91 (D : Nat) (hD : 2 ≤ D + 1) (rr : Unit) (σ' : gx_R) (rc : Int32 → Int32 → Int32 → gx_R → Option (Unit × gx_R)) (hrc : ∀ (a1 a2 a3 : Int32) (σ : gx_R) (r : Unit) (σ1 : gx_R), rc a1 a2 a3 σ = some (r, σ1) → E0 D 45 [.ref 63, .int a1, .int a2, .int a3] σ none σ1) (K31 : Int32 → Int32 → Int32 → Int32 → gx_R → Option (Unit × gx_R)) (hK31 : ∀ (a1 : Int32) (a2 : Int32) (a3 : Int32) (a4 : Int32) (σ : gx_R), K31 a1 a2 a3 a4 σ = some (rr, σ') → gx_Ev lay0 (E0 D) tt_45 none σ' 31 [.ref 63, .int a1, .int a2, .int a3, .int a4, .null] [] σ) (a1 : Int32) (a2 : Int32) (a3 : Int32) (a4 : Int32) (σ : gx_R) (hf : Pa_search_91 rc K31 a1 a2 a3 a4 σ = some (rr, σ')) : gx_Ev lay0 (E0 D) tt_45 none σ' 91 [.ref 63, .int a1, .int a2, .int a3, .int a4, .null] [] σ := by
  unfold Pa_search_91 at hf
  exact gx_go_ 2 [] [] 31 [.ref 63, .int a1, .int a2, .int a3, .int (a4 + 1), .null] [] σ rfl trivial (gx_fgt (ls' := [.ref 63, .int a1, .int a2, .int a3, .int (a4 + 1), .null]) ⟨Or.inr rfl, Or.inr rfl, Or.inr rfl, Or.inr rfl, Or.inr rfl, Or.inl rfl, trivial⟩ (hK31 a1 a2 a3 (a4 + 1) σ hf))
set_option maxHeartbeats 16000000 in
set_option maxRecDepth 20000 in
theorem vv_Pa_search_93 (D : Nat) (hD : 2 ≤ D + 1) (rr : Unit) (σ' : gx_R) (rc : Int32 → Int32 → Int32 → gx_R → Option (Unit × gx_R)) (hrc : ∀ (a1 a2 a3 : Int32) (σ : gx_R) (r : Unit) (σ1 : gx_R), rc a1 a2 a3 σ = some (r, σ1) → E0 D 45 [.ref 63, .int a1, .int a2, .int a3] σ none σ1) (a1 : Int32) (a2 : Int32) (a3 : Int32) (σ : gx_R) (hf : Pa_search_93 rc a1 a2 a3 σ = some (rr, σ')) : gx_Ev lay0 (E0 D) tt_45 none σ' 93 [.ref 63, .int a1, .int a2, .int a3, .null, .null] [] σ := by
  unfold Pa_search_93 at hf
  obtain ⟨h1, hf⟩ := z_ck_inv hf
  obtain ⟨⟨⟩, σ3, h4, hf⟩ := z_bd_inv hf
  obtain ⟨e1, e2⟩ := z_ret hf
  subst e1
  subst e2
  exact gx_end 13 [.inr (none, σ3)] [vp_in a1 6, E0 D 45 [.ref 63, .int (a1 + (1 : Int32)), .int a2, .int a3] (gx_up σ 71 a1.toNatClampNeg (8 : Int32)) (none) σ3] rfl ⟨(z_ix_in h1), (hrc (a1 + (1 : Int32)) a2 a3 (gx_up σ 71 a1.toNatClampNeg (8 : Int32)) () σ3 h4), trivial⟩
set_option maxHeartbeats 16000000 in
set_option maxRecDepth 20000 in
theorem vv_Pa_search_31_B (D : Nat) (hD : 2 ≤ D + 1) (rr : Unit) (σ' : gx_R) (rc : Int32 → Int32 → Int32 → gx_R → Option (Unit × gx_R)) (hrc : ∀ (a1 a2 a3 : Int32) (σ : gx_R) (r : Unit) (σ1 : gx_R), rc a1 a2 a3 σ = some (r, σ1) → E0 D 45 [.ref 63, .int a1, .int a2, .int a3] σ none σ1) (K31 : Int32 → Int32 → Int32 → Int32 → gx_R → Option (Unit × gx_R)) (hK31 : ∀ (a1 : Int32) (a2 : Int32) (a3 : Int32) (a4 : Int32) (σ : gx_R), K31 a1 a2 a3 a4 σ = some (rr, σ') → gx_Ev lay0 (E0 D) tt_45 none σ' 31 [.ref 63, .int a1, .int a2, .int a3, .int a4, .null] [] σ) (a1 : Int32) (a2 : Int32) (a3 : Int32) (a4 : Int32) (σ : gx_R) (hf : Pa_search_31_B rc K31 a1 a2 a3 a4 σ = some (rr, σ')) : gx_Ev lay0 (E0 D) tt_45 none σ' 31 [.ref 63, .int a1, .int a2, .int a3, .int a4, .null] [] σ := by
  unfold Pa_search_31_B at hf
  rcases z_if_inv hf with ⟨h1, hf⟩ | ⟨h1, hf⟩
  · exact gx_go_ 4 [.inl 1] [(σ 63 4) ≤ a4] 93 [.ref 63, .int a1, .int a2, .int a3, .int a4, .null] [] σ rfl ⟨h1, trivial⟩ (gx_fgt (ls' := [.ref 63, .int a1, .int a2, .int a3, .null, .null]) ⟨Or.inr rfl, Or.inr rfl, Or.inr rfl, Or.inr rfl, Or.inl rfl, Or.inl rfl, trivial⟩ (vv_Pa_search_93 D hD rr σ' rc hrc a1 a2 a3 σ hf))
  · obtain ⟨h2, hf⟩ := z_ck_inv hf
    rcases z_if_inv hf with ⟨h3, hf⟩ | ⟨h3, hf⟩
    · exact gx_go_ 16 [.inl 0, .inl 1] [¬ ((σ 63 4) ≤ a4), vp_in ((a1 * (4 : Int32)) + a4) 24, (σ 67 (((a1 * (4 : Int32)) + a4).toNatClampNeg)) = (-1 : Int32)] 91 [.ref 63, .int a1, .int a2, .int a3, .int a4, .int ((a1 * (4 : Int32)) + a4)] [] σ rfl ⟨h1, (z_ix_in h2), h3, trivial⟩ (gx_fgt (ls' := [.ref 63, .int a1, .int a2, .int a3, .int a4, .null]) ⟨Or.inr rfl, Or.inr rfl, Or.inr rfl, Or.inr rfl, Or.inr rfl, Or.inl rfl, trivial⟩ (vv_Pa_search_91 D hD rr σ' rc hrc K31 hK31 a1 a2 a3 a4 σ hf))
    · obtain ⟨h4, hf⟩ := z_ck_inv hf
      obtain ⟨h5, hf⟩ := z_ck_inv hf
      obtain ⟨h6, hf⟩ := z_ck_inv hf
      obtain ⟨h7, hf⟩ := z_ck_inv hf
      obtain ⟨h8, hf⟩ := z_ck_inv hf
      obtain ⟨h9, hf⟩ := z_ck_inv hf
      obtain ⟨⟨⟩, σ11, h12, hf⟩ := z_bd_inv hf
      obtain ⟨h13, hf⟩ := z_ck_inv hf
      obtain ⟨h14, hf⟩ := z_ck_inv hf
      obtain ⟨h15, hf⟩ := z_ck_inv hf
      exact gx_go_ 60 [.inl 0, .inl 0, .inr (none, σ11)] [¬ ((σ 63 4) ≤ a4), vp_in ((a1 * (4 : Int32)) + a4) 24, ¬ ((σ 67 (((a1 * (4 : Int32)) + a4).toNatClampNeg)) = (-1 : Int32)), vp_in a4 4, vp_in a1 6, vp_in a4 4, vp_in ((a1 * (4 : Int32)) + a4) 24, vp_in a4 4, vp_in ((a1 * (4 : Int32)) + a4) 24, E0 D 45 [.ref 63, .int (a1 + (1 : Int32)), .int (a2 + (1 : Int32)), .int (a3 + ((gx_up (gx_up σ 71 a1.toNatClampNeg (σ 64 a4.toNatClampNeg)) 70 a4.toNatClampNeg (((gx_up σ 71 a1.toNatClampNeg (σ 64 a4.toNatClampNeg)) 70 a4.toNatClampNeg) + ((gx_up σ 71 a1.toNatClampNeg (σ 64 a4.toNatClampNeg)) 67 (((a1 * (4 : Int32)) + a4).toNatClampNeg)))) 68 (((a1 * (4 : Int32)) + a4).toNatClampNeg)))] (gx_up (gx_up σ 71 a1.toNatClampNeg (σ 64 a4.toNatClampNeg)) 70 a4.toNatClampNeg (((gx_up σ 71 a1.toNatClampNeg (σ 64 a4.toNatClampNeg)) 70 a4.toNatClampNeg) + ((gx_up σ 71 a1.toNatClampNeg (σ 64 a4.toNatClampNeg)) 67 (((a1 * (4 : Int32)) + a4).toNatClampNeg)))) (none) σ11, vp_in a4 4, vp_in ((a1 * (4 : Int32)) + a4) 24, vp_in a4 4] 91 [.ref 63, .int a1, .int a2, .int a3, .int a4, .int ((a1 * (4 : Int32)) + a4)] [] (gx_up σ11 70 a4.toNatClampNeg ((σ11 70 a4.toNatClampNeg) - (σ11 67 (((a1 * (4 : Int32)) + a4).toNatClampNeg)))) rfl ⟨h1, (z_ix_in h2), h3, (z_ix_in h4), (z_ix_in h5), (z_ix_in h6), (z_ix_in h7), (z_ix_in h8), (z_ix_in h9), (hrc (a1 + (1 : Int32)) (a2 + (1 : Int32)) (a3 + ((gx_up (gx_up σ 71 a1.toNatClampNeg (σ 64 a4.toNatClampNeg)) 70 a4.toNatClampNeg (((gx_up σ 71 a1.toNatClampNeg (σ 64 a4.toNatClampNeg)) 70 a4.toNatClampNeg) + ((gx_up σ 71 a1.toNatClampNeg (σ 64 a4.toNatClampNeg)) 67 (((a1 * (4 : Int32)) + a4).toNatClampNeg)))) 68 (((a1 * (4 : Int32)) + a4).toNatClampNeg))) (gx_up (gx_up σ 71 a1.toNatClampNeg (σ 64 a4.toNatClampNeg)) 70 a4.toNatClampNeg (((gx_up σ 71 a1.toNatClampNeg (σ 64 a4.toNatClampNeg)) 70 a4.toNatClampNeg) + ((gx_up σ 71 a1.toNatClampNeg (σ 64 a4.toNatClampNeg)) 67 (((a1 * (4 : Int32)) + a4).toNatClampNeg)))) () σ11 h12), (z_ix_in h13), (z_ix_in h14), (z_ix_in h15), trivial⟩ (gx_fgt (ls' := [.ref 63, .int a1, .int a2, .int a3, .int a4, .null]) ⟨Or.inr rfl, Or.inr rfl, Or.inr rfl, Or.inr rfl, Or.inr rfl, Or.inl rfl, trivial⟩ (vv_Pa_search_91 D hD rr σ' rc hrc K31 hK31 a1 a2 a3 a4 (gx_up σ11 70 a4.toNatClampNeg ((σ11 70 a4.toNatClampNeg) - (σ11 67 (((a1 * (4 : Int32)) + a4).toNatClampNeg)))) hf))
set_option maxHeartbeats 16000000 in
set_option maxRecDepth 20000 in
theorem vv_Pa_search_31 (D : Nat) (hD : 2 ≤ D + 1) (rr : Unit) (σ' : gx_R) (rc : Int32 → Int32 → Int32 → gx_R → Option (Unit × gx_R)) (hrc : ∀ (a1 a2 a3 : Int32) (σ : gx_R) (r : Unit) (σ1 : gx_R), rc a1 a2 a3 σ = some (r, σ1) → E0 D 45 [.ref 63, .int a1, .int a2, .int a3] σ none σ1) : ∀ (n : Nat) (a1 : Int32) (a2 : Int32) (a3 : Int32) (a4 : Int32) (σ : gx_R), Pa_search_31 rc n a1 a2 a3 a4 σ = some (rr, σ') → gx_Ev lay0 (E0 D) tt_45 none σ' 31 [.ref 63, .int a1, .int a2, .int a3, .int a4, .null] [] σ := by
  intro n
  induction n with
  | zero => intro a1 a2 a3 a4 σ  hf; cases hf
  | succ n ih => intro a1 a2 a3 a4 σ  hf; exact vv_Pa_search_31_B D hD rr σ' rc hrc (Pa_search_31 rc n) ih a1 a2 a3 a4 σ  hf
set_option maxHeartbeats 16000000 in
set_option maxRecDepth 20000 in
theorem vv_Pa_search_14 (D : Nat) (hD : 2 ≤ D + 1) (rr : Unit) (σ' : gx_R) (rc : Int32 → Int32 → Int32 → gx_R → Option (Unit × gx_R)) (hrc : ∀ (a1 a2 a3 : Int32) (σ : gx_R) (r : Unit) (σ1 : gx_R), rc a1 a2 a3 σ = some (r, σ1) → E0 D 45 [.ref 63, .int a1, .int a2, .int a3] σ none σ1) (a2 : Int32) (a3 : Int32) (σ : gx_R) (hf : Pa_search_14 rc a2 a3 σ = some (rr, σ')) : gx_Ev lay0 (E0 D) tt_45 none σ' 14 [.ref 63, .null, .int a2, .int a3, .null, .null] [] σ := by
  unfold Pa_search_14 at hf
  obtain ⟨e1, e2⟩ := z_ret hf
  subst e1
  subst e2
  exact gx_end 15 [] [¬ (0 : Int32) < 0 ∧ ¬ (0 : Int32) < 0 ∧ ¬ (6 : Int32) < 0 ∧ (0 : Int32).toNatClampNeg + (6 : Int32).toNatClampNeg ≤ 6 ∧ (0 : Int32).toNatClampNeg + (6 : Int32).toNatClampNeg ≤ 6] rfl ⟨(by decide +kernel), trivial⟩
set_option maxHeartbeats 16000000 in
set_option maxRecDepth 20000 in
theorem vv_Pa_search_E (D : Nat) (hD : 2 ≤ D + 1) (rr : Unit) (σ' : gx_R) (rc : Int32 → Int32 → Int32 → gx_R → Option (Unit × gx_R)) (hrc : ∀ (a1 a2 a3 : Int32) (σ : gx_R) (r : Unit) (σ1 : gx_R), rc a1 a2 a3 σ = some (r, σ1) → E0 D 45 [.ref 63, .int a1, .int a2, .int a3] σ none σ1) (a1 : Int32) (a2 : Int32) (a3 : Int32) (σ : gx_R) (hf : Pa_search_E rc a1 a2 a3 σ = some (rr, σ')) : gx_Ev lay0 (E0 D) tt_45 none σ' 0 [.ref 63, .int a1, .int a2, .int a3, .null, .null] [] σ := by
  unfold Pa_search_E at hf
  obtain ⟨r1, σ2, h3, hf⟩ := z_bd_inv hf
  rcases z_if_inv hf with ⟨h4, hf⟩ | ⟨h4, hf⟩
  · obtain ⟨e1, e2⟩ := z_ret hf
    subst e1
    subst e2
    exact gx_end 7 [.inr (some (.int r1), σ2), .inl 0] [E0 D 46 [.ref 63, .int a1, .int a2, .int a3] σ (some (.int r1)) σ2, ¬ ¬ (r1 = 0)] rfl ⟨(ww_Pa_isWorthwhile D (by omega) a1 a2 a3 σ r1 σ2 h3), (fun q => q h4), trivial⟩
  · rcases z_if_inv hf with ⟨h5, hf⟩ | ⟨h5, hf⟩
    · exact gx_go_ 10 [.inr (some (.int r1), σ2), .inl 1, .inl 1] [E0 D 46 [.ref 63, .int a1, .int a2, .int a3] σ (some (.int r1)) σ2, ¬ (r1 = 0), (σ2 63 5) ≤ a1] 14 [.ref 63, .int a1, .int a2, .int a3, .null, .null] [] σ2 rfl ⟨(ww_Pa_isWorthwhile D (by omega) a1 a2 a3 σ r1 σ2 h3), h4, h5, trivial⟩ (gx_fgt (ls' := [.ref 63, .null, .int a2, .int a3, .null, .null]) ⟨Or.inr rfl, Or.inl rfl, Or.inr rfl, Or.inr rfl, Or.inl rfl, Or.inl rfl, trivial⟩ (vv_Pa_search_14 D hD rr σ' rc hrc a2 a3 σ2 hf))
    · rcases z_if_inv hf with ⟨h6, hf⟩ | ⟨h6, hf⟩
      · exact gx_go_ 15 [.inr (some (.int r1), σ2), .inl 1, .inl 0, .inl 1] [E0 D 46 [.ref 63, .int a1, .int a2, .int a3] σ (some (.int r1)) σ2, ¬ (r1 = 0), ¬ ((σ2 63 5) ≤ a1), a1 < (6 : Int32)] 31 [.ref 63, .int a1, .int a2, .int a3, .int (0 : Int32), .null] [] σ2 rfl ⟨(ww_Pa_isWorthwhile D (by omega) a1 a2 a3 σ r1 σ2 h3), h4, h5, h6, trivial⟩ (gx_fgt (ls' := [.ref 63, .int a1, .int a2, .int a3, .int (0 : Int32), .null]) ⟨Or.inr rfl, Or.inr rfl, Or.inr rfl, Or.inr rfl, Or.inr rfl, Or.inl rfl, trivial⟩ (vv_Pa_search_31 D hD rr σ' rc hrc z_FU a1 a2 a3 (0 : Int32) σ2 hf))
      · exact gx_go_ 13 [.inr (some (.int r1), σ2), .inl 1, .inl 0, .inl 0] [E0 D 46 [.ref 63, .int a1, .int a2, .int a3] σ (some (.int r1)) σ2, ¬ (r1 = 0), ¬ ((σ2 63 5) ≤ a1), ¬ (a1 < (6 : Int32))] 14 [.ref 63, .int a1, .int a2, .int a3, .null, .null] [] σ2 rfl ⟨(ww_Pa_isWorthwhile D (by omega) a1 a2 a3 σ r1 σ2 h3), h4, h5, h6, trivial⟩ (gx_fgt (ls' := [.ref 63, .null, .int a2, .int a3, .null, .null]) ⟨Or.inr rfl, Or.inl rfl, Or.inr rfl, Or.inr rfl, Or.inl rfl, Or.inl rfl, trivial⟩ (vv_Pa_search_14 D hD rr σ' rc hrc a2 a3 σ2 hf))
set_option maxHeartbeats 16000000 in
set_option maxRecDepth 20000 in
theorem ww_Pa_search_R : ∀ (d D : Nat) (hD : 1 + d ≤ D) (a1 a2 a3 : Int32) (σ : gx_R) (rr : Unit) (σ' : gx_R) (hf : Pa_search_R d a1 a2 a3 σ = some (rr, σ')), E0 D 45 [.ref 63, .int a1, .int a2, .int a3] σ none σ' := by
  intro d
  induction d with
  | zero => intro D hD a1 a2 a3 σ rr σ' hf; cases hf
  | succ d ih =>
    intro D hD a1 a2 a3 σ rr σ' hf
    cases D with
    | zero => omega
    | succ D => exact Or.inl ⟨Nat.le_of_ble_eq_true rfl, vv_Pa_search_E D (by omega) rr σ' (Pa_search_R d) (fun a1 a2 a3 σ r σ1 h => ih D (by omega) a1 a2 a3 σ r σ1 h) a1 a2 a3 σ hf⟩
set_option maxHeartbeats 16000000 in
set_option maxRecDepth 20000 in
theorem ww_Pa_search (D : Nat) (hD : 11 ≤ D) (a1 a2 a3 : Int32) (σ : gx_R) (rr : Unit) (σ' : gx_R) (hf : Pa_search a1 a2 a3 σ = some (rr, σ')) : E0 D 45 [.ref 63, .int a1, .int a2, .int a3] σ none σ' := ww_Pa_search_R 10 D (by omega) a1 a2 a3 σ rr σ' hf
set_option maxHeartbeats 16000000 in
set_option maxRecDepth 20000 in
theorem vv_Pa_solve_19 (D : Nat) (hD : 12 ≤ D + 1) (rr : Int32) (σ' : gx_R) (σ : gx_R) (hf : Pa_solve_19  σ = some (rr, σ')) : gx_Ev lay0 (E0 D) tt_44 (some (.int rr)) σ' 19 [.ref 63, .null] [] σ := by
  unfold Pa_solve_19 at hf
  obtain ⟨⟨⟩, σ2, h3, hf⟩ := z_bd_inv hf
  rcases z_if_inv hf with ⟨h4, hf⟩ | ⟨h4, hf⟩
  · obtain ⟨e1, e2⟩ := z_ret hf
    subst e1
    subst e2
    exact gx_end 11 [.inr (none, σ2), .inl 1] [E0 D 45 [.ref 63, .int (0 : Int32), .int (0 : Int32), .int (0 : Int32)] σ (none) σ2, (1000000 : Int32) ≤ (σ2 63 14), (0 : Int32) &&& 1 = (0 : Int32)] rfl ⟨(ww_Pa_search D (by omega) (0 : Int32) (0 : Int32) (0 : Int32) σ () σ2 h3), h4, rfl, trivial⟩
  · obtain ⟨e1, e2⟩ := z_ret hf
    subst e1
    subst e2
    exact gx_end 12 [.inr (none, σ2), .inl 0] [E0 D 45 [.ref 63, .int (0 : Int32), .int (0 : Int32), .int (0 : Int32)] σ (none) σ2, ¬ ((1000000 : Int32) ≤ (σ2 63 14)), (1 : Int32) &&& 1 = (1 : Int32)] rfl ⟨(ww_Pa_search D (by omega) (0 : Int32) (0 : Int32) (0 : Int32) σ () σ2 h3), h4, rfl, trivial⟩
set_option maxHeartbeats 16000000 in
set_option maxRecDepth 20000 in
theorem vv_Pa_solve_8_B (D : Nat) (hD : 12 ≤ D + 1) (rr : Int32) (σ' : gx_R) (K8 : Int32 → gx_R → Option (Int32 × gx_R)) (hK8 : ∀ (a1 : Int32) (σ : gx_R), K8 a1 σ = some (rr, σ') → gx_Ev lay0 (E0 D) tt_44 (some (.int rr)) σ' 8 [.ref 63, .int a1] [] σ) (a1 : Int32) (σ : gx_R) (hf : Pa_solve_8_B K8 a1 σ = some (rr, σ')) : gx_Ev lay0 (E0 D) tt_44 (some (.int rr)) σ' 8 [.ref 63, .int a1] [] σ := by
  unfold Pa_solve_8_B at hf
  rcases z_if_inv hf with ⟨h1, hf⟩ | ⟨h1, hf⟩
  · exact gx_go_ 4 [.inl 1] [(σ 63 4) ≤ a1] 19 [.ref 63, .int a1] [] σ rfl ⟨h1, trivial⟩ (gx_fgt (ls' := [.ref 63, .null]) ⟨Or.inr rfl, Or.inl rfl, trivial⟩ (vv_Pa_solve_19 D hD rr σ' σ hf))
  · obtain ⟨h2, hf⟩ := z_ck_inv hf
    exact gx_go_ 11 [.inl 0] [¬ ((σ 63 4) ≤ a1), vp_in a1 4] 8 [.ref 63, .int (a1 + 1)] [] (gx_up σ 70 a1.toNatClampNeg (0 : Int32)) rfl ⟨h1, (z_ix_in h2), trivial⟩ (gx_fgt (ls' := [.ref 63, .int (a1 + 1)]) ⟨Or.inr rfl, Or.inr rfl, trivial⟩ (hK8 (a1 + 1) (gx_up σ 70 a1.toNatClampNeg (0 : Int32)) hf))
set_option maxHeartbeats 16000000 in
set_option maxRecDepth 20000 in
theorem vv_Pa_solve_8 (D : Nat) (hD : 12 ≤ D + 1) (rr : Int32) (σ' : gx_R) : ∀ (n : Nat) (a1 : Int32) (σ : gx_R), Pa_solve_8 n a1 σ = some (rr, σ') → gx_Ev lay0 (E0 D) tt_44 (some (.int rr)) σ' 8 [.ref 63, .int a1] [] σ := by
  intro n
  induction n with
  | zero => intro a1 σ  hf; cases hf
  | succ n ih => intro a1 σ  hf; exact vv_Pa_solve_8_B D hD rr σ'  (Pa_solve_8 n) ih a1 σ  hf
set_option maxHeartbeats 16000000 in
set_option maxRecDepth 20000 in
theorem vv_Pa_solve_E (D : Nat) (hD : 12 ≤ D + 1) (rr : Int32) (σ' : gx_R) (σ : gx_R) (hf : Pa_solve  σ = some (rr, σ')) : gx_Ev lay0 (E0 D) tt_44 (some (.int rr)) σ' 0 [.ref 63, .null] [] σ := by
  unfold Pa_solve at hf
  exact gx_go_ 8 [] [] 8 [.ref 63, .int (0 : Int32)] [] (gx_up (gx_up σ 63 15 (1000000 : Int32)) 63 14 (1000000 : Int32)) rfl trivial (gx_fgt (ls' := [.ref 63, .int (0 : Int32)]) ⟨Or.inr rfl, Or.inr rfl, trivial⟩ (vv_Pa_solve_8 D hD rr σ' z_FU (0 : Int32) (gx_up (gx_up σ 63 15 (1000000 : Int32)) 63 14 (1000000 : Int32)) hf))
set_option maxHeartbeats 16000000 in
set_option maxRecDepth 20000 in
theorem ww_Pa_solve (D : Nat) (hD : 12 ≤ D) (σ : gx_R) (rr : Int32) (σ' : gx_R) (hf : Pa_solve  σ = some (rr, σ')) : E0 D 44 [.ref 63] σ (some (.int rr)) σ' := by
  cases D with
  | zero => omega
  | succ D => exact Or.inl ⟨Nat.le_of_ble_eq_true rfl, vv_Pa_solve_E D hD rr σ' σ hf⟩
set_option maxHeartbeats 16000000 in
set_option maxRecDepth 20000 in
theorem vv_Pa_whomFor_12 (D : Nat) (hD : 1 ≤ D + 1) (rr : Int32) (σ' : gx_R) (a2 : Int32) (σ : gx_R) (hf : Pa_whomFor_12 a2 σ = some (rr, σ')) : gx_Ev lay0 (E0 D) tt_47 (some (.int rr)) σ' 12 [.ref 63, .null, .int a2] [] σ := by
  unfold Pa_whomFor_12 at hf
  obtain ⟨h1, hf⟩ := z_ck_inv hf
  obtain ⟨e1, e2⟩ := z_ret hf
  subst e1
  subst e2
  exact gx_end 5 [] [vp_in a2 6] rfl ⟨(z_ix_in h1), trivial⟩
set_option maxHeartbeats 16000000 in
set_option maxRecDepth 20000 in
theorem vv_Pa_whomFor_2_B (D : Nat) (hD : 1 ≤ D + 1) (rr : Int32) (σ' : gx_R) (K2 : Int32 → Int32 → gx_R → Option (Int32 × gx_R)) (hK2 : ∀ (a1 : Int32) (a2 : Int32) (σ : gx_R), K2 a1 a2 σ = some (rr, σ') → gx_Ev lay0 (E0 D) tt_47 (some (.int rr)) σ' 2 [.ref 63, .int a1, .int a2] [] σ) (a1 : Int32) (a2 : Int32) (σ : gx_R) (hf : Pa_whomFor_2_B K2 a1 a2 σ = some (rr, σ')) : gx_Ev lay0 (E0 D) tt_47 (some (.int rr)) σ' 2 [.ref 63, .int a1, .int a2] [] σ := by
  unfold Pa_whomFor_2_B at hf
  rcases z_if_inv hf with ⟨h1, hf⟩ | ⟨h1, hf⟩
  · obtain ⟨e1, e2⟩ := z_ret hf
    subst e1
    subst e2
    exact gx_end 6 [.inl 1] [(σ 63 5) ≤ a2] rfl ⟨h1, trivial⟩
  · obtain ⟨h2, hf⟩ := z_ck_inv hf
    rcases z_if_inv hf with ⟨h3, hf⟩ | ⟨h3, hf⟩
    · exact gx_go_ 10 [.inl 0, .inl 0] [¬ ((σ 63 5) ≤ a2), vp_in a2 6, ¬ ¬ ((σ 65 a2.toNatClampNeg) = a1)] 12 [.ref 63, .int a1, .int a2] [] σ rfl ⟨h1, (z_ix_in h2), (fun q => q h3), trivial⟩ (gx_fgt (ls' := [.ref 63, .null, .int a2]) ⟨Or.inr rfl, Or.inl rfl, Or.inr rfl, trivial⟩ (vv_Pa_whomFor_12 D hD rr σ' a2 σ hf))
    · exact gx_go_ 12 [.inl 0, .inl 1] [¬ ((σ 63 5) ≤ a2), vp_in a2 6, ¬ ((σ 65 a2.toNatClampNeg) = a1)] 2 [.ref 63, .int a1, .int (a2 + 1)] [] σ rfl ⟨h1, (z_ix_in h2), h3, trivial⟩ (gx_fgt (ls' := [.ref 63, .int a1, .int (a2 + 1)]) ⟨Or.inr rfl, Or.inr rfl, Or.inr rfl, trivial⟩ (hK2 a1 (a2 + 1) σ hf))
set_option maxHeartbeats 16000000 in
set_option maxRecDepth 20000 in
theorem vv_Pa_whomFor_2 (D : Nat) (hD : 1 ≤ D + 1) (rr : Int32) (σ' : gx_R) : ∀ (n : Nat) (a1 : Int32) (a2 : Int32) (σ : gx_R), Pa_whomFor_2 n a1 a2 σ = some (rr, σ') → gx_Ev lay0 (E0 D) tt_47 (some (.int rr)) σ' 2 [.ref 63, .int a1, .int a2] [] σ := by
  intro n
  induction n with
  | zero => intro a1 a2 σ  hf; cases hf
  | succ n ih => intro a1 a2 σ  hf; exact vv_Pa_whomFor_2_B D hD rr σ'  (Pa_whomFor_2 n) ih a1 a2 σ  hf
set_option maxHeartbeats 16000000 in
set_option maxRecDepth 20000 in
theorem vv_Pa_whomFor_E (D : Nat) (hD : 1 ≤ D + 1) (rr : Int32) (σ' : gx_R) (a1 : Int32) (σ : gx_R) (hf : Pa_whomFor a1 σ = some (rr, σ')) : gx_Ev lay0 (E0 D) tt_47 (some (.int rr)) σ' 0 [.ref 63, .int a1, .null] [] σ := by
  unfold Pa_whomFor at hf
  exact gx_go_ 2 [] [] 2 [.ref 63, .int a1, .int (0 : Int32)] [] σ rfl trivial (gx_fgt (ls' := [.ref 63, .int a1, .int (0 : Int32)]) ⟨Or.inr rfl, Or.inr rfl, Or.inr rfl, trivial⟩ (vv_Pa_whomFor_2 D hD rr σ' z_FU a1 (0 : Int32) σ hf))
set_option maxHeartbeats 16000000 in
set_option maxRecDepth 20000 in
theorem ww_Pa_whomFor (D : Nat) (hD : 1 ≤ D) (a1 : Int32) (σ : gx_R) (rr : Int32) (σ' : gx_R) (hf : Pa_whomFor a1 σ = some (rr, σ')) : E0 D 47 [.ref 63, .int a1] σ (some (.int rr)) σ' := by
  cases D with
  | zero => omega
  | succ D => exact Or.inl ⟨Nat.le_of_ble_eq_true rfl, vv_Pa_whomFor_E D hD rr σ' a1 σ hf⟩
set_option maxHeartbeats 16000000 in
set_option maxRecDepth 20000 in
theorem vv_Pa_burnOfGroup_22 (D : Nat) (hD : 1 ≤ D + 1) (rr : Int32) (σ' : gx_R) (K4 : Int32 → Int32 → Int32 → gx_R → Option (Int32 × gx_R)) (hK4 : ∀ (a1 : Int32) (a2 : Int32) (a3 : Int32) (σ : gx_R), K4 a1 a2 a3 σ = some (rr, σ') → gx_Ev lay0 (E0 D) tt_49 (some (.int rr)) σ' 4 [.ref 63, .int a1, .int a2, .int a3] [] σ) (a1 : Int32) (a3 : Int32) (s0 : Int32) (s1 : Int32) (σ : gx_R) (hf : Pa_burnOfGroup_22 K4 a1 a3 s0 s1 σ = some (rr, σ')) : gx_Ev lay0 (E0 D) tt_49 (some (.int rr)) σ' 22 [.ref 63, .int a1, .null, .int a3] [.int s1, .int s0] σ := by
  unfold Pa_burnOfGroup_22 at hf
  exact gx_go_ 4 [] [] 4 [.ref 63, .int a1, .int (s0 + s1), .int (a3 + 1)] [] σ rfl trivial (gx_fgt (ls' := [.ref 63, .int a1, .int (s0 + s1), .int (a3 + 1)]) ⟨Or.inr rfl, Or.inr rfl, Or.inr rfl, Or.inr rfl, trivial⟩ (hK4 a1 (s0 + s1) (a3 + 1) σ hf))
set_option maxHeartbeats 16000000 in
set_option maxRecDepth 20000 in
theorem vv_Pa_burnOfGroup_4_B (D : Nat) (hD : 1 ≤ D + 1) (rr : Int32) (σ' : gx_R) (K4 : Int32 → Int32 → Int32 → gx_R → Option (Int32 × gx_R)) (hK4 : ∀ (a1 : Int32) (a2 : Int32) (a3 : Int32) (σ : gx_R), K4 a1 a2 a3 σ = some (rr, σ') → gx_Ev lay0 (E0 D) tt_49 (some (.int rr)) σ' 4 [.ref 63, .int a1, .int a2, .int a3] [] σ) (a1 : Int32) (a2 : Int32) (a3 : Int32) (σ : gx_R) (hf : Pa_burnOfGroup_4_B K4 a1 a2 a3 σ = some (rr, σ')) : gx_Ev lay0 (E0 D) tt_49 (some (.int rr)) σ' 4 [.ref 63, .int a1, .int a2, .int a3] [] σ := by
  unfold Pa_burnOfGroup_4_B at hf
  rcases z_if_inv hf with ⟨h1, hf⟩ | ⟨h1, hf⟩
  · obtain ⟨e1, e2⟩ := z_ret hf
    subst e1
    subst e2
    exact gx_end 6 [.inl 1] [(σ 63 4) ≤ a3] rfl ⟨h1, trivial⟩
  · rcases z_if_inv hf with ⟨h2, hf⟩ | ⟨h2, hf⟩
    · obtain ⟨h3, hf⟩ := z_ck_inv hf
      exact gx_go_ 17 [.inl 0, .inl 0] [¬ ((σ 63 4) ≤ a3), ¬ ¬ (((a1 >>> (a3 &&& 31)) &&& (1 : Int32)) = (1 : Int32)), vp_in a3 4] 22 [.ref 63, .int a1, .int a2, .int a3] [.int (σ 66 a3.toNatClampNeg), .int a2] σ rfl ⟨h1, (fun q => q h2), (z_ix_in h3), trivial⟩ (gx_fgt (ls' := [.ref 63, .int a1, .null, .int a3]) ⟨Or.inr rfl, Or.inr rfl, Or.inl rfl, Or.inr rfl, trivial⟩ (vv_Pa_burnOfGroup_22 D hD rr σ' K4 hK4 a1 a3 a2 (σ 66 a3.toNatClampNeg) σ hf))
    · exact gx_go_ 13 [.inl 0, .inl 1] [¬ ((σ 63 4) ≤ a3), ¬ (((a1 >>> (a3 &&& 31)) &&& (1 : Int32)) = (1 : Int32))] 22 [.ref 63, .int a1, .int a2, .int a3] [.int (0 : Int32), .int a2] σ rfl ⟨h1, h2, trivial⟩ (gx_fgt (ls' := [.ref 63, .int a1, .null, .int a3]) ⟨Or.inr rfl, Or.inr rfl, Or.inl rfl, Or.inr rfl, trivial⟩ (vv_Pa_burnOfGroup_22 D hD rr σ' K4 hK4 a1 a3 a2 (0 : Int32) σ hf))
set_option maxHeartbeats 16000000 in
set_option maxRecDepth 20000 in
theorem vv_Pa_burnOfGroup_4 (D : Nat) (hD : 1 ≤ D + 1) (rr : Int32) (σ' : gx_R) : ∀ (n : Nat) (a1 : Int32) (a2 : Int32) (a3 : Int32) (σ : gx_R), Pa_burnOfGroup_4 n a1 a2 a3 σ = some (rr, σ') → gx_Ev lay0 (E0 D) tt_49 (some (.int rr)) σ' 4 [.ref 63, .int a1, .int a2, .int a3] [] σ := by
  intro n
  induction n with
  | zero => intro a1 a2 a3 σ  hf; cases hf
  | succ n ih => intro a1 a2 a3 σ  hf; exact vv_Pa_burnOfGroup_4_B D hD rr σ'  (Pa_burnOfGroup_4 n) ih a1 a2 a3 σ  hf
set_option maxHeartbeats 16000000 in
set_option maxRecDepth 20000 in
theorem vv_Pa_burnOfGroup_E (D : Nat) (hD : 1 ≤ D + 1) (rr : Int32) (σ' : gx_R) (a1 : Int32) (σ : gx_R) (hf : Pa_burnOfGroup a1 σ = some (rr, σ')) : gx_Ev lay0 (E0 D) tt_49 (some (.int rr)) σ' 0 [.ref 63, .int a1, .null, .null] [] σ := by
  unfold Pa_burnOfGroup at hf
  exact gx_go_ 4 [] [] 4 [.ref 63, .int a1, .int (0 : Int32), .int (0 : Int32)] [] σ rfl trivial (gx_fgt (ls' := [.ref 63, .int a1, .int (0 : Int32), .int (0 : Int32)]) ⟨Or.inr rfl, Or.inr rfl, Or.inr rfl, Or.inr rfl, trivial⟩ (vv_Pa_burnOfGroup_4 D hD rr σ' z_FU a1 (0 : Int32) (0 : Int32) σ hf))
set_option maxHeartbeats 16000000 in
set_option maxRecDepth 20000 in
theorem ww_Pa_burnOfGroup (D : Nat) (hD : 1 ≤ D) (a1 : Int32) (σ : gx_R) (rr : Int32) (σ' : gx_R) (hf : Pa_burnOfGroup a1 σ = some (rr, σ')) : E0 D 49 [.ref 63, .int a1] σ (some (.int rr)) σ' := by
  cases D with
  | zero => omega
  | succ D => exact Or.inl ⟨Nat.le_of_ble_eq_true rfl, vv_Pa_burnOfGroup_E D hD rr σ' a1 σ hf⟩
set_option maxHeartbeats 16000000 in
set_option maxRecDepth 20000 in
theorem vv_Pa_worthForGroup_34 (D : Nat) (hD : 1 ≤ D + 1) (rr : Int32) (σ' : gx_R) (K12 : Int32 → Int32 → Int32 → Int32 → Int32 → gx_R → Option (Int32 × gx_R)) (hK12 : ∀ (a1 : Int32) (a2 : Int32) (a3 : Int32) (a4 : Int32) (a5 : Int32) (σ : gx_R), K12 a1 a2 a3 a4 a5 σ = some (rr, σ') → gx_Ev lay0 (E0 D) tt_50 (some (.int rr)) σ' 12 [.ref 63, .int a1, .int a2, .int a3, .int a4, .int a5] [] σ) (a1 : Int32) (a2 : Int32) (a3 : Int32) (a4 : Int32) (a5 : Int32) (σ : gx_R) (hf : Pa_worthForGroup_34 K12 a1 a2 a3 a4 a5 σ = some (rr, σ')) : gx_Ev lay0 (E0 D) tt_50 (some (.int rr)) σ' 34 [.ref 63, .int a1, .int a2, .int a3, .int a4, .int a5] [] σ := by
  unfold Pa_worthForGroup_34 at hf
  exact gx_go_ 2 [] [] 12 [.ref 63, .int a1, .int a2, .int a3, .int a4, .int (a5 + 1)] [] σ rfl trivial (gx_fgt (ls' := [.ref 63, .int a1, .int a2, .int a3, .int a4, .int (a5 + 1)]) ⟨Or.inr rfl, Or.inr rfl, Or.inr rfl, Or.inr rfl, Or.inr rfl, Or.inr rfl, trivial⟩ (hK12 a1 a2 a3 a4 (a5 + 1) σ hf))
set_option maxHeartbeats 16000000 in
set_option maxRecDepth 20000 in
theorem vv_Pa_worthForGroup_36 (D : Nat) (hD : 1 ≤ D + 1) (rr : Int32) (σ' : gx_R) (K4 : Int32 → Int32 → Int32 → gx_R → Option (Int32 × gx_R)) (hK4 : ∀ (a1 : Int32) (a2 : Int32) (a3 : Int32) (σ : gx_R), K4 a1 a2 a3 σ = some (rr, σ') → gx_Ev lay0 (E0 D) tt_50 (some (.int rr)) σ' 4 [.ref 63, .int a1, .int a2, .int a3, .null, .null] [] σ) (a1 : Int32) (a2 : Int32) (a3 : Int32) (a4 : Int32) (σ : gx_R) (hf : Pa_worthForGroup_36 K4 a1 a2 a3 a4 σ = some (rr, σ')) : gx_Ev lay0 (E0 D) tt_50 (some (.int rr)) σ' 36 [.ref 63, .int a1, .int a2, .int a3, .int a4, .null] [] σ := by
  unfold Pa_worthForGroup_36 at hf
  exact gx_go_ 6 [] [] 4 [.ref 63, .int a1, .int (a2 + a4), .int (a3 + 1), .int a4, .null] [] σ rfl trivial (gx_fgt (ls' := [.ref 63, .int a1, .int (a2 + a4), .int (a3 + 1), .null, .null]) ⟨Or.inr rfl, Or.inr rfl, Or.inr rfl, Or.inr rfl, Or.inl rfl, Or.inl rfl, trivial⟩ (hK4 a1 (a2 + a4) (a3 + 1) σ hf))
set_option maxHeartbeats 16000000 in
set_option maxRecDepth 20000 in
theorem vv_Pa_worthForGroup_12_B (D : Nat) (hD : 1 ≤ D + 1) (rr : Int32) (σ' : gx_R) (K4 : Int32 → Int32 → Int32 → gx_R → Option (Int32 × gx_R)) (hK4 : ∀ (a1 : Int32) (a2 : Int32) (a3 : Int32) (σ : gx_R), K4 a1 a2 a3 σ = some (rr, σ') → gx_Ev lay0 (E0 D) tt_50 (some (.int rr)) σ' 4 [.ref 63, .int a1, .int a2, .int a3, .null, .null] [] σ) (K12 : Int32 → Int32 → Int32 → Int32 → Int32 → gx_R → Option (Int32 × gx_R)) (hK12 : ∀ (a1 : Int32) (a2 : Int32) (a3 : Int32) (a4 : Int32) (a5 : Int32) (σ : gx_R), K12 a1 a2 a3 a4 a5 σ = some (rr, σ') → gx_Ev lay0 (E0 D) tt_50 (some (.int rr)) σ' 12 [.ref 63, .int a1, .int a2, .int a3, .int a4, .int a5] [] σ) (a1 : Int32) (a2 : Int32) (a3 : Int32) (a4 : Int32) (a5 : Int32) (σ : gx_R) (hf : Pa_worthForGroup_12_B K4 K12 a1 a2 a3 a4 a5 σ = some (rr, σ')) : gx_Ev lay0 (E0 D) tt_50 (some (.int rr)) σ' 12 [.ref 63, .int a1, .int a2, .int a3, .int a4, .int a5] [] σ := by
  unfold Pa_worthForGroup_12_B at hf
  rcases z_if_inv hf with ⟨h1, hf⟩ | ⟨h1, hf⟩
  · exact gx_go_ 4 [.inl 1] [(σ 63 4) ≤ a5] 36 [.ref 63, .int a1, .int a2, .int a3, .int a4, .int a5] [] σ rfl ⟨h1, trivial⟩ (gx_fgt (ls' := [.ref 63, .int a1, .int a2, .int a3, .int a4, .null]) ⟨Or.inr rfl, Or.inr rfl, Or.inr rfl, Or.inr rfl, Or.inr rfl, Or.inl rfl, trivial⟩ (vv_Pa_worthForGroup_36 D hD rr σ' K4 hK4 a1 a2 a3 a4 σ hf))
  · rcases z_if_inv hf with ⟨h2, hf⟩ | ⟨h2, hf⟩
    · obtain ⟨h3, hf⟩ := z_ck_inv hf
      exact gx_go_ 22 [.inl 0, .inl 0] [¬ ((σ 63 4) ≤ a5), ¬ ¬ (((a1 >>> (a5 &&& 31)) &&& (1 : Int32)) = (1 : Int32)), vp_in ((a3 * (4 : Int32)) + a5) 24] 34 [.ref 63, .int a1, .int a2, .int a3, .int (if a4 < (σ 67 (((a3 * (4 : Int32)) + a5).toNatClampNeg)) then (σ 67 (((a3 * (4 : Int32)) + a5).toNatClampNeg)) else a4), .int a5] [] σ rfl ⟨h1, (fun q => q h2), (z_ix_in h3), trivial⟩ (gx_fgt (ls' := [.ref 63, .int a1, .int a2, .int a3, .int (if a4 < (σ 67 (((a3 * (4 : Int32)) + a5).toNatClampNeg)) then (σ 67 (((a3 * (4 : Int32)) + a5).toNatClampNeg)) else a4), .int a5]) ⟨Or.inr rfl, Or.inr rfl, Or.inr rfl, Or.inr rfl, Or.inr rfl, Or.inr rfl, trivial⟩ (vv_Pa_worthForGroup_34 D hD rr σ' K12 hK12 a1 a2 a3 (if a4 < (σ 67 (((a3 * (4 : Int32)) + a5).toNatClampNeg)) then (σ 67 (((a3 * (4 : Int32)) + a5).toNatClampNeg)) else a4) a5 σ hf))
    · exact gx_go_ 11 [.inl 0, .inl 1] [¬ ((σ 63 4) ≤ a5), ¬ (((a1 >>> (a5 &&& 31)) &&& (1 : Int32)) = (1 : Int32))] 34 [.ref 63, .int a1, .int a2, .int a3, .int a4, .int a5] [] σ rfl ⟨h1, h2, trivial⟩ (gx_fgt (ls' := [.ref 63, .int a1, .int a2, .int a3, .int a4, .int a5]) ⟨Or.inr rfl, Or.inr rfl, Or.inr rfl, Or.inr rfl, Or.inr rfl, Or.inr rfl, trivial⟩ (vv_Pa_worthForGroup_34 D hD rr σ' K12 hK12 a1 a2 a3 a4 a5 σ hf))
set_option maxHeartbeats 16000000 in
set_option maxRecDepth 20000 in
theorem vv_Pa_worthForGroup_12 (D : Nat) (hD : 1 ≤ D + 1) (rr : Int32) (σ' : gx_R) (K4 : Int32 → Int32 → Int32 → gx_R → Option (Int32 × gx_R)) (hK4 : ∀ (a1 : Int32) (a2 : Int32) (a3 : Int32) (σ : gx_R), K4 a1 a2 a3 σ = some (rr, σ') → gx_Ev lay0 (E0 D) tt_50 (some (.int rr)) σ' 4 [.ref 63, .int a1, .int a2, .int a3, .null, .null] [] σ) : ∀ (n : Nat) (a1 : Int32) (a2 : Int32) (a3 : Int32) (a4 : Int32) (a5 : Int32) (σ : gx_R), Pa_worthForGroup_12 K4 n a1 a2 a3 a4 a5 σ = some (rr, σ') → gx_Ev lay0 (E0 D) tt_50 (some (.int rr)) σ' 12 [.ref 63, .int a1, .int a2, .int a3, .int a4, .int a5] [] σ := by
  intro n
  induction n with
  | zero => intro a1 a2 a3 a4 a5 σ  hf; cases hf
  | succ n ih => intro a1 a2 a3 a4 a5 σ  hf; exact vv_Pa_worthForGroup_12_B D hD rr σ'  K4 hK4 (Pa_worthForGroup_12 K4 n) ih a1 a2 a3 a4 a5 σ  hf
set_option maxHeartbeats 16000000 in
set_option maxRecDepth 20000 in
theorem vv_Pa_worthForGroup_4_B (D : Nat) (hD : 1 ≤ D + 1) (rr : Int32) (σ' : gx_R) (K4 : Int32 → Int32 → Int32 → gx_R → Option (Int32 × gx_R)) (hK4 : ∀ (a1 : Int32) (a2 : Int32) (a3 : Int32) (σ : gx_R), K4 a1 a2 a3 σ = some (rr, σ') → gx_Ev lay0 (E0 D) tt_50 (some (.int rr)) σ' 4 [.ref 63, .int a1, .int a2, .int a3, .null, .null] [] σ) (a1 : Int32) (a2 : Int32) (a3 : Int32) (σ : gx_R) (hf : Pa_worthForGroup_4_B K4 a1 a2 a3 σ = some (rr, σ')) : gx_Ev lay0 (E0 D) tt_50 (some (.int rr)) σ' 4 [.ref 63, .int a1, .int a2, .int a3, .null, .null] [] σ := by
  unfold Pa_worthForGroup_4_B at hf
  rcases z_if_inv hf with ⟨h1, hf⟩ | ⟨h1, hf⟩
  · obtain ⟨e1, e2⟩ := z_ret hf
    subst e1
    subst e2
    exact gx_end 6 [.inl 1] [(σ 63 5) ≤ a3] rfl ⟨h1, trivial⟩
  · exact gx_go_ 8 [.inl 0] [¬ ((σ 63 5) ≤ a3)] 12 [.ref 63, .int a1, .int a2, .int a3, .int (0 : Int32), .int (0 : Int32)] [] σ rfl ⟨h1, trivial⟩ (gx_fgt (ls' := [.ref 63, .int a1, .int a2, .int a3, .int (0 : Int32), .int (0 : Int32)]) ⟨Or.inr rfl, Or.inr rfl, Or.inr rfl, Or.inr rfl, Or.inr rfl, Or.inr rfl, trivial⟩ (vv_Pa_worthForGroup_12 D hD rr σ' K4 hK4 z_FU a1 a2 a3 (0 : Int32) (0 : Int32) σ hf))
set_option maxHeartbeats 16000000 in
set_option maxRecDepth 20000 in
theorem vv_Pa_worthForGroup_4 (D : Nat) (hD : 1 ≤ D + 1) (rr : Int32) (σ' : gx_R) : ∀ (n : Nat) (a1 : Int32) (a2 : Int32) (a3 : Int32) (σ : gx_R), Pa_worthForGroup_4 n a1 a2 a3 σ = some (rr, σ') → gx_Ev lay0 (E0 D) tt_50 (some (.int rr)) σ' 4 [.ref 63, .int a1, .int a2, .int a3, .null, .null] [] σ := by
  intro n
  induction n with
  | zero => intro a1 a2 a3 σ  hf; cases hf
  | succ n ih => intro a1 a2 a3 σ  hf; exact vv_Pa_worthForGroup_4_B D hD rr σ'  (Pa_worthForGroup_4 n) ih a1 a2 a3 σ  hf
set_option maxHeartbeats 16000000 in
set_option maxRecDepth 20000 in
theorem vv_Pa_worthForGroup_E (D : Nat) (hD : 1 ≤ D + 1) (rr : Int32) (σ' : gx_R) (a1 : Int32) (σ : gx_R) (hf : Pa_worthForGroup a1 σ = some (rr, σ')) : gx_Ev lay0 (E0 D) tt_50 (some (.int rr)) σ' 0 [.ref 63, .int a1, .null, .null, .null, .null] [] σ := by
  unfold Pa_worthForGroup at hf
  exact gx_go_ 4 [] [] 4 [.ref 63, .int a1, .int (0 : Int32), .int (0 : Int32), .null, .null] [] σ rfl trivial (gx_fgt (ls' := [.ref 63, .int a1, .int (0 : Int32), .int (0 : Int32), .null, .null]) ⟨Or.inr rfl, Or.inr rfl, Or.inr rfl, Or.inr rfl, Or.inl rfl, Or.inl rfl, trivial⟩ (vv_Pa_worthForGroup_4 D hD rr σ' z_FU a1 (0 : Int32) (0 : Int32) σ hf))
set_option maxHeartbeats 16000000 in
set_option maxRecDepth 20000 in
theorem ww_Pa_worthForGroup (D : Nat) (hD : 1 ≤ D) (a1 : Int32) (σ : gx_R) (rr : Int32) (σ' : gx_R) (hf : Pa_worthForGroup a1 σ = some (rr, σ')) : E0 D 50 [.ref 63, .int a1] σ (some (.int rr)) σ' := by
  cases D with
  | zero => omega
  | succ D => exact Or.inl ⟨Nat.le_of_ble_eq_true rfl, vv_Pa_worthForGroup_E D hD rr σ' a1 σ hf⟩
set_option maxHeartbeats 16000000 in
set_option maxRecDepth 20000 in
theorem vv_Pa_peopleOf_4_B (D : Nat) (hD : 1 ≤ D + 1) (rr : Int32) (σ' : gx_R) (K4 : Int32 → Int32 → Int32 → gx_R → Option (Int32 × gx_R)) (hK4 : ∀ (a1 : Int32) (a2 : Int32) (a3 : Int32) (σ : gx_R), K4 a1 a2 a3 σ = some (rr, σ') → gx_Ev lay0 (E0 D) tt_51 (some (.int rr)) σ' 4 [.ref 63, .int a1, .int a2, .int a3] [] σ) (a1 : Int32) (a2 : Int32) (a3 : Int32) (σ : gx_R) (hf : Pa_peopleOf_4_B K4 a1 a2 a3 σ = some (rr, σ')) : gx_Ev lay0 (E0 D) tt_51 (some (.int rr)) σ' 4 [.ref 63, .int a1, .int a2, .int a3] [] σ := by
  unfold Pa_peopleOf_4_B at hf
  rcases z_if_inv hf with ⟨h1, hf⟩ | ⟨h1, hf⟩
  · obtain ⟨e1, e2⟩ := z_ret hf
    subst e1
    subst e2
    exact gx_end 6 [.inl 1] [(σ 63 4) ≤ a3] rfl ⟨h1, trivial⟩
  · obtain ⟨h2, hf⟩ := z_ck_inv hf
    exact gx_go_ 19 [.inl 0] [¬ ((σ 63 4) ≤ a3), vp_in a3 4] 4 [.ref 63, .int a1, .int (a2 ||| (((a1 >>> (a3 &&& 31)) &&& (1 : Int32)) <<< ((σ 64 a3.toNatClampNeg) &&& 31))), .int (a3 + 1)] [] σ rfl ⟨h1, (z_ix_in h2), trivial⟩ (gx_fgt (ls' := [.ref 63, .int a1, .int (a2 ||| (((a1 >>> (a3 &&& 31)) &&& (1 : Int32)) <<< ((σ 64 a3.toNatClampNeg) &&& 31))), .int (a3 + 1)]) ⟨Or.inr rfl, Or.inr rfl, Or.inr rfl, Or.inr rfl, trivial⟩ (hK4 a1 (a2 ||| (((a1 >>> (a3 &&& 31)) &&& (1 : Int32)) <<< ((σ 64 a3.toNatClampNeg) &&& 31))) (a3 + 1) σ hf))
set_option maxHeartbeats 16000000 in
set_option maxRecDepth 20000 in
theorem vv_Pa_peopleOf_4 (D : Nat) (hD : 1 ≤ D + 1) (rr : Int32) (σ' : gx_R) : ∀ (n : Nat) (a1 : Int32) (a2 : Int32) (a3 : Int32) (σ : gx_R), Pa_peopleOf_4 n a1 a2 a3 σ = some (rr, σ') → gx_Ev lay0 (E0 D) tt_51 (some (.int rr)) σ' 4 [.ref 63, .int a1, .int a2, .int a3] [] σ := by
  intro n
  induction n with
  | zero => intro a1 a2 a3 σ  hf; cases hf
  | succ n ih => intro a1 a2 a3 σ  hf; exact vv_Pa_peopleOf_4_B D hD rr σ'  (Pa_peopleOf_4 n) ih a1 a2 a3 σ  hf
set_option maxHeartbeats 16000000 in
set_option maxRecDepth 20000 in
theorem vv_Pa_peopleOf_E (D : Nat) (hD : 1 ≤ D + 1) (rr : Int32) (σ' : gx_R) (a1 : Int32) (σ : gx_R) (hf : Pa_peopleOf a1 σ = some (rr, σ')) : gx_Ev lay0 (E0 D) tt_51 (some (.int rr)) σ' 0 [.ref 63, .int a1, .null, .null] [] σ := by
  unfold Pa_peopleOf at hf
  exact gx_go_ 4 [] [] 4 [.ref 63, .int a1, .int (0 : Int32), .int (0 : Int32)] [] σ rfl trivial (gx_fgt (ls' := [.ref 63, .int a1, .int (0 : Int32), .int (0 : Int32)]) ⟨Or.inr rfl, Or.inr rfl, Or.inr rfl, Or.inr rfl, trivial⟩ (vv_Pa_peopleOf_4 D hD rr σ' z_FU a1 (0 : Int32) (0 : Int32) σ hf))
set_option maxHeartbeats 16000000 in
set_option maxRecDepth 20000 in
theorem ww_Pa_peopleOf (D : Nat) (hD : 1 ≤ D) (a1 : Int32) (σ : gx_R) (rr : Int32) (σ' : gx_R) (hf : Pa_peopleOf a1 σ = some (rr, σ')) : E0 D 51 [.ref 63, .int a1] σ (some (.int rr)) σ' := by
  cases D with
  | zero => omega
  | succ D => exact Or.inl ⟨Nat.le_of_ble_eq_true rfl, vv_Pa_peopleOf_E D hD rr σ' a1 σ hf⟩
set_option maxHeartbeats 16000000 in
set_option maxRecDepth 20000 in
theorem vv_Pa_lowestShort_15 (D : Nat) (hD : 2 ≤ D + 1) (rr : Int32) (σ' : gx_R) (a1 : Int32) (σ : gx_R) (hf : Pa_lowestShort_15 a1 σ = some (rr, σ')) : gx_Ev lay0 (E0 D) tt_48 (some (.int rr)) σ' 15 [.ref 63, .int a1] [] σ := by
  unfold Pa_lowestShort_15 at hf
  obtain ⟨r1, σ2, h3, hf⟩ := z_bd_inv hf
  obtain ⟨e1, e2⟩ := z_ret hf
  subst e1
  subst e2
  exact gx_end 4 [.inr (some (.int r1), σ2)] [E0 D 51 [.ref 63, .int a1] σ (some (.int r1)) σ2] rfl ⟨(ww_Pa_peopleOf D (by omega) a1 σ r1 σ2 h3), trivial⟩
set_option maxHeartbeats 16000000 in
set_option maxRecDepth 20000 in
theorem vv_Pa_lowestShort_2_B (D : Nat) (hD : 2 ≤ D + 1) (rr : Int32) (σ' : gx_R) (K2 : Int32 → gx_R → Option (Int32 × gx_R)) (hK2 : ∀ (a1 : Int32) (σ : gx_R), K2 a1 σ = some (rr, σ') → gx_Ev lay0 (E0 D) tt_48 (some (.int rr)) σ' 2 [.ref 63, .int a1] [] σ) (a1 : Int32) (σ : gx_R) (hf : Pa_lowestShort_2_B K2 a1 σ = some (rr, σ')) : gx_Ev lay0 (E0 D) tt_48 (some (.int rr)) σ' 2 [.ref 63, .int a1] [] σ := by
  unfold Pa_lowestShort_2_B at hf
  rcases z_if_inv hf with ⟨h1, hf⟩ | ⟨h1, hf⟩
  · obtain ⟨e1, e2⟩ := z_ret hf
    subst e1
    subst e2
    exact gx_end 8 [.inl 1] [((1 : Int32) <<< ((σ 63 4) &&& 31)) ≤ a1] rfl ⟨h1, trivial⟩
  · obtain ⟨r2, σ3, h4, hf⟩ := z_bd_inv hf
    obtain ⟨r5, σ6, h7, hf⟩ := z_bd_inv hf
    rcases z_if_inv hf with ⟨h8, hf⟩ | ⟨h8, hf⟩
    · exact gx_go_ 15 [.inl 0, .inr (some (.int r2), σ3), .inr (some (.int r5), σ6), .inl 1] [¬ (((1 : Int32) <<< ((σ 63 4) &&& 31)) ≤ a1), E0 D 49 [.ref 63, .int a1] σ (some (.int r2)) σ3, E0 D 50 [.ref 63, .int a1] σ3 (some (.int r5)) σ6, r2 ≤ r5] 2 [.ref 63, .int (a1 + 1)] [] σ6 rfl ⟨h1, (ww_Pa_burnOfGroup D (by omega) a1 σ r2 σ3 h4), (ww_Pa_worthForGroup D (by omega) a1 σ3 r5 σ6 h7), h8, trivial⟩ (gx_fgt (ls' := [.ref 63, .int (a1 + 1)]) ⟨Or.inr rfl, Or.inr rfl, trivial⟩ (hK2 (a1 + 1) σ6 hf))
    · exact gx_go_ 13 [.inl 0, .inr (some (.int r2), σ3), .inr (some (.int r5), σ6), .inl 0] [¬ (((1 : Int32) <<< ((σ 63 4) &&& 31)) ≤ a1), E0 D 49 [.ref 63, .int a1] σ (some (.int r2)) σ3, E0 D 50 [.ref 63, .int a1] σ3 (some (.int r5)) σ6, ¬ (r2 ≤ r5)] 15 [.ref 63, .int a1] [] σ6 rfl ⟨h1, (ww_Pa_burnOfGroup D (by omega) a1 σ r2 σ3 h4), (ww_Pa_worthForGroup D (by omega) a1 σ3 r5 σ6 h7), h8, trivial⟩ (gx_fgt (ls' := [.ref 63, .int a1]) ⟨Or.inr rfl, Or.inr rfl, trivial⟩ (vv_Pa_lowestShort_15 D hD rr σ' a1 σ6 hf))
set_option maxHeartbeats 16000000 in
set_option maxRecDepth 20000 in
theorem vv_Pa_lowestShort_2 (D : Nat) (hD : 2 ≤ D + 1) (rr : Int32) (σ' : gx_R) : ∀ (n : Nat) (a1 : Int32) (σ : gx_R), Pa_lowestShort_2 n a1 σ = some (rr, σ') → gx_Ev lay0 (E0 D) tt_48 (some (.int rr)) σ' 2 [.ref 63, .int a1] [] σ := by
  intro n
  induction n with
  | zero => intro a1 σ  hf; cases hf
  | succ n ih => intro a1 σ  hf; exact vv_Pa_lowestShort_2_B D hD rr σ'  (Pa_lowestShort_2 n) ih a1 σ  hf
set_option maxHeartbeats 16000000 in
set_option maxRecDepth 20000 in
theorem vv_Pa_lowestShort_E (D : Nat) (hD : 2 ≤ D + 1) (rr : Int32) (σ' : gx_R) (σ : gx_R) (hf : Pa_lowestShort  σ = some (rr, σ')) : gx_Ev lay0 (E0 D) tt_48 (some (.int rr)) σ' 0 [.ref 63, .null] [] σ := by
  unfold Pa_lowestShort at hf
  exact gx_go_ 2 [] [] 2 [.ref 63, .int (1 : Int32)] [] σ rfl trivial (gx_fgt (ls' := [.ref 63, .int (1 : Int32)]) ⟨Or.inr rfl, Or.inr rfl, trivial⟩ (vv_Pa_lowestShort_2 D hD rr σ' z_FU (1 : Int32) σ hf))
set_option maxHeartbeats 16000000 in
set_option maxRecDepth 20000 in
theorem ww_Pa_lowestShort (D : Nat) (hD : 2 ≤ D) (σ : gx_R) (rr : Int32) (σ' : gx_R) (hf : Pa_lowestShort  σ = some (rr, σ')) : E0 D 48 [.ref 63] σ (some (.int rr)) σ' := by
  cases D with
  | zero => omega
  | succ D => exact Or.inl ⟨Nat.le_of_ble_eq_true rfl, vv_Pa_lowestShort_E D hD rr σ' σ hf⟩
set_option maxHeartbeats 16000000 in
set_option maxRecDepth 20000 in
theorem vv_Ro_prepare_19_B (D : Nat) (hD : 1 ≤ D + 1) (rr : Unit) (σ' : gx_R) (K19 : Int32 → gx_R → Option (Unit × gx_R)) (hK19 : ∀ (a5 : Int32) (σ : gx_R), K19 a5 σ = some (rr, σ') → gx_Ev lay0 (E0 D) tt_52 none σ' 19 [.ref 73, .null, .null, .null, .null, .int a5] [] σ) (a5 : Int32) (σ : gx_R) (hf : Ro_prepare_19_B K19 a5 σ = some (rr, σ')) : gx_Ev lay0 (E0 D) tt_52 none σ' 19 [.ref 73, .null, .null, .null, .null, .int a5] [] σ := by
  unfold Ro_prepare_19_B at hf
  rcases z_if_inv hf with ⟨h1, hf⟩ | ⟨h1, hf⟩
  · obtain ⟨e1, e2⟩ := z_ret hf
    subst e1
    subst e2
    exact gx_end 4 [.inl 1] [(8 : Int32) ≤ a5] rfl ⟨h1, trivial⟩
  · obtain ⟨h2, hf⟩ := z_ck_inv hf
    exact gx_go_ 10 [.inl 0] [¬ ((8 : Int32) ≤ a5), vp_in a5 8] 19 [.ref 73, .null, .null, .null, .null, .int (a5 + 1)] [] (gx_up σ 74 a5.toNatClampNeg (-100 : Int32)) rfl ⟨h1, (z_ix_in h2), trivial⟩ (gx_fgt (ls' := [.ref 73, .null, .null, .null, .null, .int (a5 + 1)]) ⟨Or.inr rfl, Or.inl rfl, Or.inl rfl, Or.inl rfl, Or.inl rfl, Or.inr rfl, trivial⟩ (hK19 (a5 + 1) (gx_up σ 74 a5.toNatClampNeg (-100 : Int32)) hf))
set_option maxHeartbeats 16000000 in
set_option maxRecDepth 20000 in
theorem vv_Ro_prepare_19 (D : Nat) (hD : 1 ≤ D + 1) (rr : Unit) (σ' : gx_R) : ∀ (n : Nat) (a5 : Int32) (σ : gx_R), Ro_prepare_19 n a5 σ = some (rr, σ') → gx_Ev lay0 (E0 D) tt_52 none σ' 19 [.ref 73, .null, .null, .null, .null, .int a5] [] σ := by
  intro n
  induction n with
  | zero => intro a5 σ  hf; cases hf
  | succ n ih => intro a5 σ  hf; exact vv_Ro_prepare_19_B D hD rr σ'  (Ro_prepare_19 n) ih a5 σ  hf
set_option maxHeartbeats 16000000 in
set_option maxRecDepth 20000 in
theorem vv_Ro_prepare_E (D : Nat) (hD : 1 ≤ D + 1) (rr : Unit) (σ' : gx_R) (a1 : Int32) (a2 : Int32) (a3 : Int32) (a4 : Int32) (σ : gx_R) (hf : Ro_prepare a1 a2 a3 a4 σ = some (rr, σ')) : gx_Ev lay0 (E0 D) tt_52 none σ' 0 [.ref 73, .int a1, .int a2, .int a3, .int a4, .null] [] σ := by
  unfold Ro_prepare at hf
  exact gx_go_ 19 [] [] 19 [.ref 73, .int a1, .int a2, .int a3, .int a4, .int (0 : Int32)] [] (gx_up (gx_up (gx_up (gx_up (gx_up σ 73 0 (if (8 : Int32) < a1 then (8 : Int32) else a1)) 73 1 a2) 73 2 a3) 73 3 a4) 73 7 (100 : Int32)) rfl trivial (gx_fgt (ls' := [.ref 73, .null, .null, .null, .null, .int (0 : Int32)]) ⟨Or.inr rfl, Or.inl rfl, Or.inl rfl, Or.inl rfl, Or.inl rfl, Or.inr rfl, trivial⟩ (vv_Ro_prepare_19 D hD rr σ' z_FU (0 : Int32) (gx_up (gx_up (gx_up (gx_up (gx_up σ 73 0 (if (8 : Int32) < a1 then (8 : Int32) else a1)) 73 1 a2) 73 2 a3) 73 3 a4) 73 7 (100 : Int32)) hf))
set_option maxHeartbeats 16000000 in
set_option maxRecDepth 20000 in
theorem ww_Ro_prepare (D : Nat) (hD : 1 ≤ D) (a1 : Int32) (a2 : Int32) (a3 : Int32) (a4 : Int32) (σ : gx_R) (rr : Unit) (σ' : gx_R) (hf : Ro_prepare a1 a2 a3 a4 σ = some (rr, σ')) : E0 D 52 [.ref 73, .int a1, .int a2, .int a3, .int a4] σ none σ' := by
  cases D with
  | zero => omega
  | succ D => exact Or.inl ⟨Nat.le_of_ble_eq_true rfl, vv_Ro_prepare_E D hD rr σ' a1 a2 a3 a4 σ hf⟩
set_option maxHeartbeats 16000000 in
set_option maxRecDepth 20000 in
theorem vv_Ro_changesToCome_18 (D : Nat) (hD : 1 ≤ D + 1) (rr : Int32) (σ' : gx_R) (σ : gx_R) (hf : Ro_changesToCome_18  σ = some (rr, σ')) : gx_Ev lay0 (E0 D) tt_55 (some (.int rr)) σ' 18 [.null, .null, .null, .null] [] σ := by
  unfold Ro_changesToCome_18 at hf
  obtain ⟨e1, e2⟩ := z_ret hf
  subst e1
  subst e2
  exact gx_end 3 [] [] rfl trivial
set_option maxHeartbeats 16000000 in
set_option maxRecDepth 20000 in
theorem vv_Ro_changesToCome_E (D : Nat) (hD : 1 ≤ D + 1) (rr : Int32) (σ' : gx_R) (a1 : Int32) (a2 : Int32) (σ : gx_R) (hf : Ro_changesToCome a1 a2 σ = some (rr, σ')) : gx_Ev lay0 (E0 D) tt_55 (some (.int rr)) σ' 0 [.ref 73, .int a1, .int a2, .null] [] σ := by
  unfold Ro_changesToCome at hf
  rcases z_if_inv hf with ⟨h1, hf⟩ | ⟨h1, hf⟩
  · exact gx_go_ 14 [.inl 1] [((((σ 73 0) - (1 : Int32)) - a1) - ((σ 73 2) - a2)) ≤ 0] 18 [.ref 73, .int a1, .int a2, .int ((((σ 73 0) - (1 : Int32)) - a1) - ((σ 73 2) - a2))] [] σ rfl ⟨h1, trivial⟩ (gx_fgt (ls' := [.null, .null, .null, .null]) ⟨Or.inl rfl, Or.inl rfl, Or.inl rfl, Or.inl rfl, trivial⟩ (vv_Ro_changesToCome_18 D hD rr σ' σ hf))
  · rcases z_if_inv hf with ⟨h2, hf⟩ | ⟨h2, hf⟩
    · obtain ⟨h3, hf⟩ := z_ck_inv hf
      obtain ⟨e1, e2⟩ := z_ret hf
      subst e1
      subst e2
      exact gx_end 28 [.inl 0, .inl 1] [¬ (((((σ 73 0) - (1 : Int32)) - a1) - ((σ 73 2) - a2)) ≤ 0), (1 : Int32) ≤ (σ 73 2), ¬ (σ 73 2) = 0] rfl ⟨h1, h2, (z_nzi_in h3), trivial⟩
    · exact gx_go_ 18 [.inl 0, .inl 0] [¬ (((((σ 73 0) - (1 : Int32)) - a1) - ((σ 73 2) - a2)) ≤ 0), ¬ ((1 : Int32) ≤ (σ 73 2))] 18 [.ref 73, .int a1, .int a2, .int ((((σ 73 0) - (1 : Int32)) - a1) - ((σ 73 2) - a2))] [] σ rfl ⟨h1, h2, trivial⟩ (gx_fgt (ls' := [.null, .null, .null, .null]) ⟨Or.inl rfl, Or.inl rfl, Or.inl rfl, Or.inl rfl, trivial⟩ (vv_Ro_changesToCome_18 D hD rr σ' σ hf))
set_option maxHeartbeats 16000000 in
set_option maxRecDepth 20000 in
theorem ww_Ro_changesToCome (D : Nat) (hD : 1 ≤ D) (a1 : Int32) (a2 : Int32) (σ : gx_R) (rr : Int32) (σ' : gx_R) (hf : Ro_changesToCome a1 a2 σ = some (rr, σ')) : E0 D 55 [.ref 73, .int a1, .int a2] σ (some (.int rr)) σ' := by
  cases D with
  | zero => omega
  | succ D => exact Or.inl ⟨Nat.le_of_ble_eq_true rfl, vv_Ro_changesToCome_E D hD rr σ' a1 a2 σ hf⟩
set_option maxHeartbeats 16000000 in
set_option maxRecDepth 20000 in
theorem vv_Ro_place_78 (D : Nat) (hD : 2 ≤ D + 1) (rr : Unit) (σ' : gx_R) (rc : Int32 → Int32 → Int32 → Int32 → gx_R → Option (Unit × gx_R)) (hrc : ∀ (a1 a2 a3 a4 : Int32) (σ : gx_R) (r : Unit) (σ1 : gx_R), rc a1 a2 a3 a4 σ = some (r, σ1) → E0 D 54 [.ref 73, .int a1, .int a2, .int a3, .int a4] σ none σ1) (K100 : Int32 → Int32 → Int32 → Int32 → Int32 → Int32 → gx_R → Option (Unit × gx_R)) (hK100 : ∀ (a1 : Int32) (a2 : Int32) (a3 : Int32) (a4 : Int32) (a5 : Int32) (a6 : Int32) (σ : gx_R), K100 a1 a2 a3 a4 a5 a6 σ = some (rr, σ') → gx_Ev lay0 (E0 D) tt_54 none σ' 100 [.ref 73, .int a1, .int a2, .int a3, .int a4, .int a5, .int a6] [] σ) (a1 : Int32) (a2 : Int32) (a3 : Int32) (a4 : Int32) (a5 : Int32) (a6 : Int32) (σ : gx_R) (hf : Ro_place_78 rc K100 a1 a2 a3 a4 a5 a6 σ = some (rr, σ')) : gx_Ev lay0 (E0 D) tt_54 none σ' 78 [.ref 73, .int a1, .int a2, .int a3, .int a4, .int a5, .int a6] [] σ := by
  unfold Ro_place_78 at hf
  rcases z_if_inv hf with ⟨h1, hf⟩ | ⟨h1, hf⟩
  · exact gx_go_ 3 [.inl 1] [a6 = a2] 100 [.ref 73, .int a1, .int a2, .int a3, .int a4, .int a5, .int a6] [] σ rfl ⟨h1, trivial⟩ (gx_fgt (ls' := [.ref 73, .int a1, .int a2, .int a3, .int a4, .int a5, .int a6]) ⟨Or.inr rfl, Or.inr rfl, Or.inr rfl, Or.inr rfl, Or.inr rfl, Or.inr rfl, Or.inr rfl, trivial⟩ (hK100 a1 a2 a3 a4 a5 a6 σ hf))
  · obtain ⟨h2, hf⟩ := z_ck_inv hf
    rcases z_if_inv hf with ⟨h3, hf⟩ | ⟨h3, hf⟩
    · exact gx_go_ 12 [.inl 0, .inl 1] [¬ (a6 = a2), vp_in a6 8, (a1 - (σ 74 a6.toNatClampNeg)) < (σ 73 3)] 100 [.ref 73, .int a1, .int a2, .int a3, .int a4, .int a5, .int a6] [] σ rfl ⟨h1, (z_ix_in h2), h3, trivial⟩ (gx_fgt (ls' := [.ref 73, .int a1, .int a2, .int a3, .int a4, .int a5, .int a6]) ⟨Or.inr rfl, Or.inr rfl, Or.inr rfl, Or.inr rfl, Or.inr rfl, Or.inr rfl, Or.inr rfl, trivial⟩ (hK100 a1 a2 a3 a4 a5 a6 σ hf))
    · obtain ⟨⟨⟩, σ5, h6, hf⟩ := z_bd_inv hf
      exact gx_go_ 22 [.inl 0, .inl 0, .inr (none, σ5)] [¬ (a6 = a2), vp_in a6 8, ¬ ((a1 - (σ 74 a6.toNatClampNeg)) < (σ 73 3)), E0 D 54 [.ref 73, .int (a1 + (1 : Int32)), .int a6, .int (1 : Int32), .int (a4 + (1 : Int32))] σ (none) σ5] 100 [.ref 73, .int a1, .int a2, .int a3, .int a4, .int a5, .int a6] [] σ5 rfl ⟨h1, (z_ix_in h2), h3, (hrc (a1 + (1 : Int32)) a6 (1 : Int32) (a4 + (1 : Int32)) σ () σ5 h6), trivial⟩ (gx_fgt (ls' := [.ref 73, .int a1, .int a2, .int a3, .int a4, .int a5, .int a6]) ⟨Or.inr rfl, Or.inr rfl, Or.inr rfl, Or.inr rfl, Or.inr rfl, Or.inr rfl, Or.inr rfl, trivial⟩ (hK100 a1 a2 a3 a4 a5 a6 σ5 hf))
set_option maxHeartbeats 16000000 in
set_option maxRecDepth 20000 in
theorem vv_Ro_place_100 (D : Nat) (hD : 2 ≤ D + 1) (rr : Unit) (σ' : gx_R) (rc : Int32 → Int32 → Int32 → Int32 → gx_R → Option (Unit × gx_R)) (hrc : ∀ (a1 a2 a3 a4 : Int32) (σ : gx_R) (r : Unit) (σ1 : gx_R), rc a1 a2 a3 a4 σ = some (r, σ1) → E0 D 54 [.ref 73, .int a1, .int a2, .int a3, .int a4] σ none σ1) (K49 : Int32 → Int32 → Int32 → Int32 → Int32 → Int32 → gx_R → Option (Unit × gx_R)) (hK49 : ∀ (a1 : Int32) (a2 : Int32) (a3 : Int32) (a4 : Int32) (a5 : Int32) (a6 : Int32) (σ : gx_R), K49 a1 a2 a3 a4 a5 a6 σ = some (rr, σ') → gx_Ev lay0 (E0 D) tt_54 none σ' 49 [.ref 73, .int a1, .int a2, .int a3, .int a4, .int a5, .int a6] [] σ) (a1 : Int32) (a2 : Int32) (a3 : Int32) (a4 : Int32) (a5 : Int32) (a6 : Int32) (σ : gx_R) (hf : Ro_place_100 rc K49 a1 a2 a3 a4 a5 a6 σ = some (rr, σ')) : gx_Ev lay0 (E0 D) tt_54 none σ' 100 [.ref 73, .int a1, .int a2, .int a3, .int a4, .int a5, .int a6] [] σ := by
  unfold Ro_place_100 at hf
  exact gx_go_ 2 [] [] 49 [.ref 73, .int a1, .int a2, .int a3, .int a4, .int a5, .int (a6 + 1)] [] σ rfl trivial (gx_fgt (ls' := [.ref 73, .int a1, .int a2, .int a3, .int a4, .int a5, .int (a6 + 1)]) ⟨Or.inr rfl, Or.inr rfl, Or.inr rfl, Or.inr rfl, Or.inr rfl, Or.inr rfl, Or.inr rfl, trivial⟩ (hK49 a1 a2 a3 a4 a5 (a6 + 1) σ hf))
set_option maxHeartbeats 16000000 in
set_option maxRecDepth 20000 in
theorem vv_Ro_place_102 (D : Nat) (hD : 2 ≤ D + 1) (rr : Unit) (σ' : gx_R) (rc : Int32 → Int32 → Int32 → Int32 → gx_R → Option (Unit × gx_R)) (hrc : ∀ (a1 a2 a3 a4 : Int32) (σ : gx_R) (r : Unit) (σ1 : gx_R), rc a1 a2 a3 a4 σ = some (r, σ1) → E0 D 54 [.ref 73, .int a1, .int a2, .int a3, .int a4] σ none σ1) (a2 : Int32) (a5 : Int32) (σ : gx_R) (hf : Ro_place_102 rc a2 a5 σ = some (rr, σ')) : gx_Ev lay0 (E0 D) tt_54 none σ' 102 [.ref 73, .null, .int a2, .null, .null, .int a5, .null] [] σ := by
  unfold Ro_place_102 at hf
  obtain ⟨h1, hf⟩ := z_ck_inv hf
  obtain ⟨e1, e2⟩ := z_ret hf
  subst e1
  subst e2
  exact gx_end 6 [] [vp_in a2 8] rfl ⟨(z_ix_in h1), trivial⟩
set_option maxHeartbeats 16000000 in
set_option maxRecDepth 20000 in
theorem vv_Ro_place_49_B (D : Nat) (hD : 2 ≤ D + 1) (rr : Unit) (σ' : gx_R) (rc : Int32 → Int32 → Int32 → Int32 → gx_R → Option (Unit × gx_R)) (hrc : ∀ (a1 a2 a3 a4 : Int32) (σ : gx_R) (r : Unit) (σ1 : gx_R), rc a1 a2 a3 a4 σ = some (r, σ1) → E0 D 54 [.ref 73, .int a1, .int a2, .int a3, .int a4] σ none σ1) (K49 : Int32 → Int32 → Int32 → Int32 → Int32 → Int32 → gx_R → Option (Unit × gx_R)) (hK49 : ∀ (a1 : Int32) (a2 : Int32) (a3 : Int32) (a4 : Int32) (a5 : Int32) (a6 : Int32) (σ : gx_R), K49 a1 a2 a3 a4 a5 a6 σ = some (rr, σ') → gx_Ev lay0 (E0 D) tt_54 none σ' 49 [.ref 73, .int a1, .int a2, .int a3, .int a4, .int a5, .int a6] [] σ) (a1 : Int32) (a2 : Int32) (a3 : Int32) (a4 : Int32) (a5 : Int32) (a6 : Int32) (σ : gx_R) (hf : Ro_place_49_B rc K49 a1 a2 a3 a4 a5 a6 σ = some (rr, σ')) : gx_Ev lay0 (E0 D) tt_54 none σ' 49 [.ref 73, .int a1, .int a2, .int a3, .int a4, .int a5, .int a6] [] σ := by
  unfold Ro_place_49_B at hf
  rcases z_if_inv hf with ⟨h1, hf⟩ | ⟨h1, hf⟩
  · exact gx_go_ 3 [.inl 1] [(8 : Int32) ≤ a6] 102 [.ref 73, .int a1, .int a2, .int a3, .int a4, .int a5, .int a6] [] σ rfl ⟨h1, trivial⟩ (gx_fgt (ls' := [.ref 73, .null, .int a2, .null, .null, .int a5, .null]) ⟨Or.inr rfl, Or.inl rfl, Or.inr rfl, Or.inl rfl, Or.inl rfl, Or.inr rfl, Or.inl rfl, trivial⟩ (vv_Ro_place_102 D hD rr σ' rc hrc a2 a5 σ hf))
  · rcases z_if_inv hf with ⟨h2, hf⟩ | ⟨h2, hf⟩
    · exact gx_go_ 11 [.inl 0, .inl 0] [¬ ((8 : Int32) ≤ a6), ¬ ¬ ((((σ 73 1) >>> (a6 &&& 31)) &&& (1 : Int32)) = 0)] 100 [.ref 73, .int a1, .int a2, .int a3, .int a4, .int a5, .int a6] [] σ rfl ⟨h1, (fun q => q h2), trivial⟩ (gx_fgt (ls' := [.ref 73, .int a1, .int a2, .int a3, .int a4, .int a5, .int a6]) ⟨Or.inr rfl, Or.inr rfl, Or.inr rfl, Or.inr rfl, Or.inr rfl, Or.inr rfl, Or.inr rfl, trivial⟩ (vv_Ro_place_100 D hD rr σ' rc hrc K49 hK49 a1 a2 a3 a4 a5 a6 σ hf))
    · rcases z_if_inv hf with ⟨h3, hf⟩ | ⟨h3, hf⟩
      · rcases z_if_inv hf with ⟨h4, hf⟩ | ⟨h4, hf⟩
        · exact gx_go_ 17 [.inl 0, .inl 1, .inl 0, .inl 1] [¬ ((8 : Int32) ≤ a6), ¬ ((((σ 73 1) >>> (a6 &&& 31)) &&& (1 : Int32)) = 0), ¬ ¬ (a6 = a2), (σ 73 2) ≤ a3] 78 [.ref 73, .int a1, .int a2, .int a3, .int a4, .int a5, .int a6] [] σ rfl ⟨h1, h2, (fun q => q h3), h4, trivial⟩ (gx_fgt (ls' := [.ref 73, .int a1, .int a2, .int a3, .int a4, .int a5, .int a6]) ⟨Or.inr rfl, Or.inr rfl, Or.inr rfl, Or.inr rfl, Or.inr rfl, Or.inr rfl, Or.inr rfl, trivial⟩ (vv_Ro_place_78 D hD rr σ' rc hrc (Ro_place_100 rc K49) (vv_Ro_place_100 D hD rr σ' rc hrc K49 hK49) a1 a2 a3 a4 a5 a6 σ hf))
        · obtain ⟨⟨⟩, σ6, h7, hf⟩ := z_bd_inv hf
          exact gx_go_ 28 [.inl 0, .inl 1, .inl 0, .inl 0, .inr (none, σ6)] [¬ ((8 : Int32) ≤ a6), ¬ ((((σ 73 1) >>> (a6 &&& 31)) &&& (1 : Int32)) = 0), ¬ ¬ (a6 = a2), ¬ ((σ 73 2) ≤ a3), E0 D 54 [.ref 73, .int (a1 + (1 : Int32)), .int a6, .int (a3 + (1 : Int32)), .int a4] σ (none) σ6] 100 [.ref 73, .int a1, .int a2, .int a3, .int a4, .int a5, .int a6] [] σ6 rfl ⟨h1, h2, (fun q => q h3), h4, (hrc (a1 + (1 : Int32)) a6 (a3 + (1 : Int32)) a4 σ () σ6 h7), trivial⟩ (gx_fgt (ls' := [.ref 73, .int a1, .int a2, .int a3, .int a4, .int a5, .int a6]) ⟨Or.inr rfl, Or.inr rfl, Or.inr rfl, Or.inr rfl, Or.inr rfl, Or.inr rfl, Or.inr rfl, trivial⟩ (vv_Ro_place_100 D hD rr σ' rc hrc K49 hK49 a1 a2 a3 a4 a5 a6 σ6 hf))
      · exact gx_go_ 13 [.inl 0, .inl 1, .inl 1] [¬ ((8 : Int32) ≤ a6), ¬ ((((σ 73 1) >>> (a6 &&& 31)) &&& (1 : Int32)) = 0), ¬ (a6 = a2)] 78 [.ref 73, .int a1, .int a2, .int a3, .int a4, .int a5, .int a6] [] σ rfl ⟨h1, h2, h3, trivial⟩ (gx_fgt (ls' := [.ref 73, .int a1, .int a2, .int a3, .int a4, .int a5, .int a6]) ⟨Or.inr rfl, Or.inr rfl, Or.inr rfl, Or.inr rfl, Or.inr rfl, Or.inr rfl, Or.inr rfl, trivial⟩ (vv_Ro_place_78 D hD rr σ' rc hrc (Ro_place_100 rc K49) (vv_Ro_place_100 D hD rr σ' rc hrc K49 hK49) a1 a2 a3 a4 a5 a6 σ hf))
set_option maxHeartbeats 16000000 in
set_option maxRecDepth 20000 in
theorem vv_Ro_place_49 (D : Nat) (hD : 2 ≤ D + 1) (rr : Unit) (σ' : gx_R) (rc : Int32 → Int32 → Int32 → Int32 → gx_R → Option (Unit × gx_R)) (hrc : ∀ (a1 a2 a3 a4 : Int32) (σ : gx_R) (r : Unit) (σ1 : gx_R), rc a1 a2 a3 a4 σ = some (r, σ1) → E0 D 54 [.ref 73, .int a1, .int a2, .int a3, .int a4] σ none σ1) : ∀ (n : Nat) (a1 : Int32) (a2 : Int32) (a3 : Int32) (a4 : Int32) (a5 : Int32) (a6 : Int32) (σ : gx_R), Ro_place_49 rc n a1 a2 a3 a4 a5 a6 σ = some (rr, σ') → gx_Ev lay0 (E0 D) tt_54 none σ' 49 [.ref 73, .int a1, .int a2, .int a3, .int a4, .int a5, .int a6] [] σ := by
  intro n
  induction n with
  | zero => intro a1 a2 a3 a4 a5 a6 σ  hf; cases hf
  | succ n ih => intro a1 a2 a3 a4 a5 a6 σ  hf; exact vv_Ro_place_49_B D hD rr σ' rc hrc (Ro_place_49 rc n) ih a1 a2 a3 a4 a5 a6 σ  hf
set_option maxHeartbeats 16000000 in
set_option maxRecDepth 20000 in
theorem vv_Ro_place_E (D : Nat) (hD : 2 ≤ D + 1) (rr : Unit) (σ' : gx_R) (rc : Int32 → Int32 → Int32 → Int32 → gx_R → Option (Unit × gx_R)) (hrc : ∀ (a1 a2 a3 a4 : Int32) (σ : gx_R) (r : Unit) (σ1 : gx_R), rc a1 a2 a3 a4 σ = some (r, σ1) → E0 D 54 [.ref 73, .int a1, .int a2, .int a3, .int a4] σ none σ1) (a1 : Int32) (a2 : Int32) (a3 : Int32) (a4 : Int32) (σ : gx_R) (hf : Ro_place_E rc a1 a2 a3 a4 σ = some (rr, σ')) : gx_Ev lay0 (E0 D) tt_54 none σ' 0 [.ref 73, .int a1, .int a2, .int a3, .int a4, .null, .null] [] σ := by
  unfold Ro_place_E at hf
  rcases z_if_inv hf with ⟨h1, hf⟩ | ⟨h1, hf⟩
  · obtain ⟨e1, e2⟩ := z_ret hf
    subst e1
    subst e2
    exact gx_end 5 [.inl 1] [(σ 73 0) ≤ a1] rfl ⟨h1, trivial⟩
  · obtain ⟨r2, σ3, h4, hf⟩ := z_bd_inv hf
    rcases z_if_inv hf with ⟨h5, hf⟩ | ⟨h5, hf⟩
    · obtain ⟨h6, hf⟩ := z_ck_inv hf
      rcases z_if_inv hf with ⟨h7, hf⟩ | ⟨h7, hf⟩
      · obtain ⟨e1, e2⟩ := z_ret hf
        subst e1
        subst e2
        exact gx_end 36 [.inl 0, .inr (some (.int r2), σ3), .inl 1, .inl 0] [¬ ((σ 73 0) ≤ a1), E0 D 55 [.ref 73, .int a1, .int a3] σ (some (.int r2)) σ3, (a4 + r2) < (σ3 73 7), vp_in a1 8, ¬ ¬ (a1 = (((gx_up σ3 75 a1.toNatClampNeg a2) 73 0) - (1 : Int32))), ¬ (0 : Int32) < 0 ∧ ¬ (0 : Int32) < 0 ∧ ¬ (8 : Int32) < 0 ∧ (0 : Int32).toNatClampNeg + (8 : Int32).toNatClampNeg ≤ 8 ∧ (0 : Int32).toNatClampNeg + (8 : Int32).toNatClampNeg ≤ 8] rfl ⟨h1, (ww_Ro_changesToCome D (by omega) a1 a3 σ r2 σ3 h4), h5, (z_ix_in h6), (fun q => q h7), (by decide +kernel), trivial⟩
      · obtain ⟨h8, hf⟩ := z_ck_inv hf
        obtain ⟨h9, hf⟩ := z_ck_inv hf
        exact gx_go_ 36 [.inl 0, .inr (some (.int r2), σ3), .inl 1, .inl 1] [¬ ((σ 73 0) ≤ a1), E0 D 55 [.ref 73, .int a1, .int a3] σ (some (.int r2)) σ3, (a4 + r2) < (σ3 73 7), vp_in a1 8, ¬ (a1 = (((gx_up σ3 75 a1.toNatClampNeg a2) 73 0) - (1 : Int32))), vp_in a2 8, vp_in a2 8] 49 [.ref 73, .int a1, .int a2, .int a3, .int a4, .int ((gx_up σ3 75 a1.toNatClampNeg a2) 74 a2.toNatClampNeg), .int (0 : Int32)] [] (gx_up (gx_up σ3 75 a1.toNatClampNeg a2) 74 a2.toNatClampNeg a1) rfl ⟨h1, (ww_Ro_changesToCome D (by omega) a1 a3 σ r2 σ3 h4), h5, (z_ix_in h6), h7, (z_ix_in h8), (z_ix_in h9), trivial⟩ (gx_fgt (ls' := [.ref 73, .int a1, .int a2, .int a3, .int a4, .int ((gx_up σ3 75 a1.toNatClampNeg a2) 74 a2.toNatClampNeg), .int (0 : Int32)]) ⟨Or.inr rfl, Or.inr rfl, Or.inr rfl, Or.inr rfl, Or.inr rfl, Or.inr rfl, Or.inr rfl, trivial⟩ (vv_Ro_place_49 D hD rr σ' rc hrc z_FU a1 a2 a3 a4 ((gx_up σ3 75 a1.toNatClampNeg a2) 74 a2.toNatClampNeg) (0 : Int32) (gx_up (gx_up σ3 75 a1.toNatClampNeg a2) 74 a2.toNatClampNeg a1) hf))
    · obtain ⟨e1, e2⟩ := z_ret hf
      subst e1
      subst e2
      exact gx_end 14 [.inl 0, .inr (some (.int r2), σ3), .inl 0] [¬ ((σ 73 0) ≤ a1), E0 D 55 [.ref 73, .int a1, .int a3] σ (some (.int r2)) σ3, ¬ ((a4 + r2) < (σ3 73 7))] rfl ⟨h1, (ww_Ro_changesToCome D (by omega) a1 a3 σ r2 σ3 h4), h5, trivial⟩
set_option maxHeartbeats 16000000 in
set_option maxRecDepth 20000 in
theorem ww_Ro_place_R : ∀ (d D : Nat) (hD : 1 + d ≤ D) (a1 a2 a3 a4 : Int32) (σ : gx_R) (rr : Unit) (σ' : gx_R) (hf : Ro_place_R d a1 a2 a3 a4 σ = some (rr, σ')), E0 D 54 [.ref 73, .int a1, .int a2, .int a3, .int a4] σ none σ' := by
  intro d
  induction d with
  | zero => intro D hD a1 a2 a3 a4 σ rr σ' hf; cases hf
  | succ d ih =>
    intro D hD a1 a2 a3 a4 σ rr σ' hf
    cases D with
    | zero => omega
    | succ D => exact Or.inl ⟨Nat.le_of_ble_eq_true rfl, vv_Ro_place_E D (by omega) rr σ' (Ro_place_R d) (fun a1 a2 a3 a4 σ r σ1 h => ih D (by omega) a1 a2 a3 a4 σ r σ1 h) a1 a2 a3 a4 σ hf⟩
set_option maxHeartbeats 16000000 in
set_option maxRecDepth 20000 in
theorem ww_Ro_place (D : Nat) (hD : 11 ≤ D) (a1 a2 a3 a4 : Int32) (σ : gx_R) (rr : Unit) (σ' : gx_R) (hf : Ro_place a1 a2 a3 a4 σ = some (rr, σ')) : E0 D 54 [.ref 73, .int a1, .int a2, .int a3, .int a4] σ none σ' := ww_Ro_place_R 10 D (by omega) a1 a2 a3 a4 σ rr σ' hf
set_option maxHeartbeats 16000000 in
set_option maxRecDepth 20000 in
theorem vv_Ro_solve_19 (D : Nat) (hD : 12 ≤ D + 1) (rr : Int32) (σ' : gx_R) (K2 : Int32 → gx_R → Option (Int32 × gx_R)) (hK2 : ∀ (a1 : Int32) (σ : gx_R), K2 a1 σ = some (rr, σ') → gx_Ev lay0 (E0 D) tt_53 (some (.int rr)) σ' 2 [.ref 73, .int a1] [] σ) (a1 : Int32) (σ : gx_R) (hf : Ro_solve_19 K2 a1 σ = some (rr, σ')) : gx_Ev lay0 (E0 D) tt_53 (some (.int rr)) σ' 19 [.ref 73, .int a1] [] σ := by
  unfold Ro_solve_19 at hf
  exact gx_go_ 2 [] [] 2 [.ref 73, .int (a1 + 1)] [] σ rfl trivial (gx_fgt (ls' := [.ref 73, .int (a1 + 1)]) ⟨Or.inr rfl, Or.inr rfl, trivial⟩ (hK2 (a1 + 1) σ hf))
set_option maxHeartbeats 16000000 in
set_option maxRecDepth 20000 in
theorem vv_Ro_solve_21 (D : Nat) (hD : 12 ≤ D + 1) (rr : Int32) (σ' : gx_R) (σ : gx_R) (hf : Ro_solve_21  σ = some (rr, σ')) : gx_Ev lay0 (E0 D) tt_53 (some (.int rr)) σ' 21 [.ref 73, .null] [] σ := by
  unfold Ro_solve_21 at hf
  rcases z_if_inv hf with ⟨h1, hf⟩ | ⟨h1, hf⟩
  · obtain ⟨e1, e2⟩ := z_ret hf
    subst e1
    subst e2
    exact gx_end 6 [.inl 1] [(100 : Int32) ≤ (σ 73 7), (0 : Int32) &&& 1 = (0 : Int32)] rfl ⟨h1, rfl, trivial⟩
  · obtain ⟨e1, e2⟩ := z_ret hf
    subst e1
    subst e2
    exact gx_end 7 [.inl 0] [¬ ((100 : Int32) ≤ (σ 73 7)), (1 : Int32) &&& 1 = (1 : Int32)] rfl ⟨h1, rfl, trivial⟩
set_option maxHeartbeats 16000000 in
set_option maxRecDepth 20000 in
theorem vv_Ro_solve_2_B (D : Nat) (hD : 12 ≤ D + 1) (rr : Int32) (σ' : gx_R) (K2 : Int32 → gx_R → Option (Int32 × gx_R)) (hK2 : ∀ (a1 : Int32) (σ : gx_R), K2 a1 σ = some (rr, σ') → gx_Ev lay0 (E0 D) tt_53 (some (.int rr)) σ' 2 [.ref 73, .int a1] [] σ) (a1 : Int32) (σ : gx_R) (hf : Ro_solve_2_B K2 a1 σ = some (rr, σ')) : gx_Ev lay0 (E0 D) tt_53 (some (.int rr)) σ' 2 [.ref 73, .int a1] [] σ := by
  unfold Ro_solve_2_B at hf
  rcases z_if_inv hf with ⟨h1, hf⟩ | ⟨h1, hf⟩
  · exact gx_go_ 3 [.inl 1] [(8 : Int32) ≤ a1] 21 [.ref 73, .int a1] [] σ rfl ⟨h1, trivial⟩ (gx_fgt (ls' := [.ref 73, .null]) ⟨Or.inr rfl, Or.inl rfl, trivial⟩ (vv_Ro_solve_21 D hD rr σ' σ hf))
  · rcases z_if_inv hf with ⟨h2, hf⟩ | ⟨h2, hf⟩
    · obtain ⟨⟨⟩, σ4, h5, hf⟩ := z_bd_inv hf
      exact gx_go_ 17 [.inl 0, .inl 0, .inr (none, σ4)] [¬ ((8 : Int32) ≤ a1), ¬ ¬ ((((σ 73 1) >>> (a1 &&& 31)) &&& (1 : Int32)) = (1 : Int32)), E0 D 54 [.ref 73, .int (0 : Int32), .int a1, .int (1 : Int32), .int (0 : Int32)] σ (none) σ4] 19 [.ref 73, .int a1] [] σ4 rfl ⟨h1, (fun q => q h2), (ww_Ro_place D (by omega) (0 : Int32) a1 (1 : Int32) (0 : Int32) σ () σ4 h5), trivial⟩ (gx_fgt (ls' := [.ref 73, .int a1]) ⟨Or.inr rfl, Or.inr rfl, trivial⟩ (vv_Ro_solve_19 D hD rr σ' K2 hK2 a1 σ4 hf))
    · exact gx_go_ 11 [.inl 0, .inl 1] [¬ ((8 : Int32) ≤ a1), ¬ ((((σ 73 1) >>> (a1 &&& 31)) &&& (1 : Int32)) = (1 : Int32))] 19 [.ref 73, .int a1] [] σ rfl ⟨h1, h2, trivial⟩ (gx_fgt (ls' := [.ref 73, .int a1]) ⟨Or.inr rfl, Or.inr rfl, trivial⟩ (vv_Ro_solve_19 D hD rr σ' K2 hK2 a1 σ hf))
set_option maxHeartbeats 16000000 in
set_option maxRecDepth 20000 in
theorem vv_Ro_solve_2 (D : Nat) (hD : 12 ≤ D + 1) (rr : Int32) (σ' : gx_R) : ∀ (n : Nat) (a1 : Int32) (σ : gx_R), Ro_solve_2 n a1 σ = some (rr, σ') → gx_Ev lay0 (E0 D) tt_53 (some (.int rr)) σ' 2 [.ref 73, .int a1] [] σ := by
  intro n
  induction n with
  | zero => intro a1 σ  hf; cases hf
  | succ n ih => intro a1 σ  hf; exact vv_Ro_solve_2_B D hD rr σ'  (Ro_solve_2 n) ih a1 σ  hf
set_option maxHeartbeats 16000000 in
set_option maxRecDepth 20000 in
theorem vv_Ro_solve_E (D : Nat) (hD : 12 ≤ D + 1) (rr : Int32) (σ' : gx_R) (σ : gx_R) (hf : Ro_solve  σ = some (rr, σ')) : gx_Ev lay0 (E0 D) tt_53 (some (.int rr)) σ' 0 [.ref 73, .null] [] σ := by
  unfold Ro_solve at hf
  exact gx_go_ 2 [] [] 2 [.ref 73, .int (0 : Int32)] [] σ rfl trivial (gx_fgt (ls' := [.ref 73, .int (0 : Int32)]) ⟨Or.inr rfl, Or.inr rfl, trivial⟩ (vv_Ro_solve_2 D hD rr σ' z_FU (0 : Int32) σ hf))
set_option maxHeartbeats 16000000 in
set_option maxRecDepth 20000 in
theorem ww_Ro_solve (D : Nat) (hD : 12 ≤ D) (σ : gx_R) (rr : Int32) (σ' : gx_R) (hf : Ro_solve  σ = some (rr, σ')) : E0 D 53 [.ref 73] σ (some (.int rr)) σ' := by
  cases D with
  | zero => omega
  | succ D => exact Or.inl ⟨Nat.le_of_ble_eq_true rfl, vv_Ro_solve_E D hD rr σ' σ hf⟩
set_option maxHeartbeats 16000000 in
set_option maxRecDepth 20000 in
theorem vv_Ro_whoIn_E (D : Nat) (hD : 1 ≤ D + 1) (rr : Int32) (σ' : gx_R) (a1 : Int32) (σ : gx_R) (hf : Ro_whoIn a1 σ = some (rr, σ')) : gx_Ev lay0 (E0 D) tt_56 (some (.int rr)) σ' 0 [.ref 73, .int a1] [] σ := by
  unfold Ro_whoIn at hf
  rcases z_if_inv hf with ⟨h1, hf⟩ | ⟨h1, hf⟩
  · obtain ⟨e1, e2⟩ := z_ret hf
    subst e1
    subst e2
    exact gx_end 4 [.inl 1] [a1 < 0] rfl ⟨h1, trivial⟩
  · rcases z_if_inv hf with ⟨h2, hf⟩ | ⟨h2, hf⟩
    · obtain ⟨e1, e2⟩ := z_ret hf
      subst e1
      subst e2
      exact gx_end 8 [.inl 0, .inl 1] [¬ (a1 < 0), (σ 73 0) ≤ a1] rfl ⟨h1, h2, trivial⟩
    · obtain ⟨h3, hf⟩ := z_ck_inv hf
      obtain ⟨e1, e2⟩ := z_ret hf
      subst e1
      subst e2
      exact gx_end 12 [.inl 0, .inl 0] [¬ (a1 < 0), ¬ ((σ 73 0) ≤ a1), vp_in a1 8] rfl ⟨h1, h2, (z_ix_in h3), trivial⟩
set_option maxHeartbeats 16000000 in
set_option maxRecDepth 20000 in
theorem ww_Ro_whoIn (D : Nat) (hD : 1 ≤ D) (a1 : Int32) (σ : gx_R) (rr : Int32) (σ' : gx_R) (hf : Ro_whoIn a1 σ = some (rr, σ')) : E0 D 56 [.ref 73, .int a1] σ (some (.int rr)) σ' := by
  cases D with
  | zero => omega
  | succ D => exact Or.inl ⟨Nat.le_of_ble_eq_true rfl, vv_Ro_whoIn_E D hD rr σ' a1 σ hf⟩
set_option maxHeartbeats 16000000 in
set_option maxRecDepth 20000 in
theorem vv_Qu_tierBehind_46 (D : Nat) (hD : 2 ≤ D + 1) (rr : Int32) (σ' : gx_R) (K22 : Int32 → Int32 → Int32 → Int32 → Int32 → Int32 → gx_R → Option (Int32 × gx_R)) (hK22 : ∀ (a2 : Int32) (a3 : Int32) (a4 : Int32) (a5 : Int32) (a6 : Int32) (a7 : Int32) (σ : gx_R), K22 a2 a3 a4 a5 a6 a7 σ = some (rr, σ') → gx_Ev lay0 (E0 D) tt_57 (some (.int rr)) σ' 22 [.ref 77, .null, .int a2, .int a3, .int a4, .int a5, .int a6, .int a7] [] σ) (a2 : Int32) (a3 : Int32) (a4 : Int32) (a5 : Int32) (a6 : Int32) (a7 : Int32) (σ : gx_R) (hf : Qu_tierBehind_46 K22 a2 a3 a4 a5 a6 a7 σ = some (rr, σ')) : gx_Ev lay0 (E0 D) tt_57 (some (.int rr)) σ' 46 [.ref 77, .null, .int a2, .int a3, .int a4, .int a5, .int a6, .int a7] [] σ := by
  unfold Qu_tierBehind_46 at hf
  exact gx_go_ 2 [] [] 22 [.ref 77, .null, .int a2, .int a3, .int a4, .int a5, .int a6, .int (a7 + 1)] [] σ rfl trivial (gx_fgt (ls' := [.ref 77, .null, .int a2, .int a3, .int a4, .int a5, .int a6, .int (a7 + 1)]) ⟨Or.inr rfl, Or.inl rfl, Or.inr rfl, Or.inr rfl, Or.inr rfl, Or.inr rfl, Or.inr rfl, Or.inr rfl, trivial⟩ (hK22 a2 a3 a4 a5 a6 (a7 + 1) σ hf))
set_option maxHeartbeats 16000000 in
set_option maxRecDepth 20000 in
theorem vv_Qu_tierBehind_60 (D : Nat) (hD : 2 ≤ D + 1) (rr : Int32) (σ' : gx_R) (K13 : Int32 → Int32 → Int32 → Int32 → gx_R → Option (Int32 × gx_R)) (hK13 : ∀ (a2 : Int32) (a3 : Int32) (a4 : Int32) (a5 : Int32) (σ : gx_R), K13 a2 a3 a4 a5 σ = some (rr, σ') → gx_Ev lay0 (E0 D) tt_57 (some (.int rr)) σ' 13 [.ref 77, .null, .int a2, .int a3, .int a4, .int a5, .null, .null] [] σ) (a2 : Int32) (a3 : Int32) (a5 : Int32) (a6 : Int32) (σ : gx_R) (hf : Qu_tierBehind_60 K13 a2 a3 a5 a6 σ = some (rr, σ')) : gx_Ev lay0 (E0 D) tt_57 (some (.int rr)) σ' 60 [.ref 77, .null, .int a2, .int a3, .null, .int a5, .int a6, .null] [] σ := by
  unfold Qu_tierBehind_60 at hf
  exact gx_go_ 8 [] [] 13 [.ref 77, .null, .int a2, .int (a3 ||| a6), .int a6, .int (a5 + 1), .int a6, .null] [] σ rfl trivial (gx_fgt (ls' := [.ref 77, .null, .int a2, .int (a3 ||| a6), .int a6, .int (a5 + 1), .null, .null]) ⟨Or.inr rfl, Or.inl rfl, Or.inr rfl, Or.inr rfl, Or.inr rfl, Or.inr rfl, Or.inl rfl, Or.inl rfl, trivial⟩ (hK13 a2 (a3 ||| a6) a6 (a5 + 1) σ hf))
set_option maxHeartbeats 16000000 in
set_option maxRecDepth 20000 in
theorem vv_Qu_tierBehind_48 (D : Nat) (hD : 2 ≤ D + 1) (rr : Int32) (σ' : gx_R) (K13 : Int32 → Int32 → Int32 → Int32 → gx_R → Option (Int32 × gx_R)) (hK13 : ∀ (a2 : Int32) (a3 : Int32) (a4 : Int32) (a5 : Int32) (σ : gx_R), K13 a2 a3 a4 a5 σ = some (rr, σ') → gx_Ev lay0 (E0 D) tt_57 (some (.int rr)) σ' 13 [.ref 77, .null, .int a2, .int a3, .int a4, .int a5, .null, .null] [] σ) (a2 : Int32) (a3 : Int32) (a5 : Int32) (a6 : Int32) (σ : gx_R) (hf : Qu_tierBehind_48 K13 a2 a3 a5 a6 σ = some (rr, σ')) : gx_Ev lay0 (E0 D) tt_57 (some (.int rr)) σ' 48 [.ref 77, .null, .int a2, .int a3, .null, .int a5, .int a6, .null] [] σ := by
  unfold Qu_tierBehind_48 at hf
  rcases z_if_inv hf with ⟨h1, hf⟩ | ⟨h1, hf⟩
  · exact gx_go_ 3 [.inl 1] [a2 = (-1 : Int32)] 60 [.ref 77, .null, .int a2, .int a3, .null, .int a5, .int a6, .null] [] σ rfl ⟨h1, trivial⟩ (gx_fgt (ls' := [.ref 77, .null, .int a2, .int a3, .null, .int a5, .int a6, .null]) ⟨Or.inr rfl, Or.inl rfl, Or.inr rfl, Or.inr rfl, Or.inl rfl, Or.inr rfl, Or.inr rfl, Or.inl rfl, trivial⟩ (vv_Qu_tierBehind_60 D hD rr σ' K13 hK13 a2 a3 a5 a6 σ hf))
  · rcases z_if_inv hf with ⟨h2, hf⟩ | ⟨h2, hf⟩
    · obtain ⟨e1, e2⟩ := z_ret hf
      subst e1
      subst e2
      exact gx_end 12 [.inl 0, .inl 0] [¬ (a2 = (-1 : Int32)), ¬ ¬ (((a6 >>> (a2 &&& 31)) &&& (1 : Int32)) = (1 : Int32))] rfl ⟨h1, (fun q => q h2), trivial⟩
    · exact gx_go_ 10 [.inl 0, .inl 1] [¬ (a2 = (-1 : Int32)), ¬ (((a6 >>> (a2 &&& 31)) &&& (1 : Int32)) = (1 : Int32))] 60 [.ref 77, .null, .int a2, .int a3, .null, .int a5, .int a6, .null] [] σ rfl ⟨h1, h2, trivial⟩ (gx_fgt (ls' := [.ref 77, .null, .int a2, .int a3, .null, .int a5, .int a6, .null]) ⟨Or.inr rfl, Or.inl rfl, Or.inr rfl, Or.inr rfl, Or.inl rfl, Or.inr rfl, Or.inr rfl, Or.inl rfl, trivial⟩ (vv_Qu_tierBehind_60 D hD rr σ' K13 hK13 a2 a3 a5 a6 σ hf))
set_option maxHeartbeats 16000000 in
set_option maxRecDepth 20000 in
theorem vv_Qu_tierBehind_22_B (D : Nat) (hD : 2 ≤ D + 1) (rr : Int32) (σ' : gx_R) (K13 : Int32 → Int32 → Int32 → Int32 → gx_R → Option (Int32 × gx_R)) (hK13 : ∀ (a2 : Int32) (a3 : Int32) (a4 : Int32) (a5 : Int32) (σ : gx_R), K13 a2 a3 a4 a5 σ = some (rr, σ') → gx_Ev lay0 (E0 D) tt_57 (some (.int rr)) σ' 13 [.ref 77, .null, .int a2, .int a3, .int a4, .int a5, .null, .null] [] σ) (K22 : Int32 → Int32 → Int32 → Int32 → Int32 → Int32 → gx_R → Option (Int32 × gx_R)) (hK22 : ∀ (a2 : Int32) (a3 : Int32) (a4 : Int32) (a5 : Int32) (a6 : Int32) (a7 : Int32) (σ : gx_R), K22 a2 a3 a4 a5 a6 a7 σ = some (rr, σ') → gx_Ev lay0 (E0 D) tt_57 (some (.int rr)) σ' 22 [.ref 77, .null, .int a2, .int a3, .int a4, .int a5, .int a6, .int a7] [] σ) (a2 : Int32) (a3 : Int32) (a4 : Int32) (a5 : Int32) (a6 : Int32) (a7 : Int32) (σ : gx_R) (hf : Qu_tierBehind_22_B K13 K22 a2 a3 a4 a5 a6 a7 σ = some (rr, σ')) : gx_Ev lay0 (E0 D) tt_57 (some (.int rr)) σ' 22 [.ref 77, .null, .int a2, .int a3, .int a4, .int a5, .int a6, .int a7] [] σ := by
  unfold Qu_tierBehind_22_B at hf
  rcases z_if_inv hf with ⟨h1, hf⟩ | ⟨h1, hf⟩
  · exact gx_go_ 3 [.inl 1] [(8 : Int32) ≤ a7] 48 [.ref 77, .null, .int a2, .int a3, .int a4, .int a5, .int a6, .int a7] [] σ rfl ⟨h1, trivial⟩ (gx_fgt (ls' := [.ref 77, .null, .int a2, .int a3, .null, .int a5, .int a6, .null]) ⟨Or.inr rfl, Or.inl rfl, Or.inr rfl, Or.inr rfl, Or.inl rfl, Or.inr rfl, Or.inr rfl, Or.inl rfl, trivial⟩ (vv_Qu_tierBehind_48 D hD rr σ' K13 hK13 a2 a3 a5 a6 σ hf))
  · rcases z_if_inv hf with ⟨h2, hf⟩ | ⟨h2, hf⟩
    · obtain ⟨h3, hf⟩ := z_ck_inv hf
      rcases z_if_inv hf with ⟨h4, hf⟩ | ⟨h4, hf⟩
      · exact gx_go_ 18 [.inl 0, .inl 0, .inl 1] [¬ ((8 : Int32) ≤ a7), ¬ ¬ (((a3 >>> (a7 &&& 31)) &&& (1 : Int32)) = 0), vp_in a7 8, ((σ 5 a7.toNatClampNeg) &&& a4) = 0] 46 [.ref 77, .null, .int a2, .int a3, .int a4, .int a5, .int a6, .int a7] [] σ rfl ⟨h1, (fun q => q h2), (z_ix_in h3), h4, trivial⟩ (gx_fgt (ls' := [.ref 77, .null, .int a2, .int a3, .int a4, .int a5, .int a6, .int a7]) ⟨Or.inr rfl, Or.inl rfl, Or.inr rfl, Or.inr rfl, Or.inr rfl, Or.inr rfl, Or.inr rfl, Or.inr rfl, trivial⟩ (vv_Qu_tierBehind_46 D hD rr σ' K22 hK22 a2 a3 a4 a5 a6 a7 σ hf))
      · exact gx_go_ 24 [.inl 0, .inl 0, .inl 0] [¬ ((8 : Int32) ≤ a7), ¬ ¬ (((a3 >>> (a7 &&& 31)) &&& (1 : Int32)) = 0), vp_in a7 8, ¬ (((σ 5 a7.toNatClampNeg) &&& a4) = 0)] 46 [.ref 77, .null, .int a2, .int a3, .int a4, .int a5, .int (a6 ||| ((1 : Int32) <<< (a7 &&& 31))), .int a7] [] σ rfl ⟨h1, (fun q => q h2), (z_ix_in h3), h4, trivial⟩ (gx_fgt (ls' := [.ref 77, .null, .int a2, .int a3, .int a4, .int a5, .int (a6 ||| ((1 : Int32) <<< (a7 &&& 31))), .int a7]) ⟨Or.inr rfl, Or.inl rfl, Or.inr rfl, Or.inr rfl, Or.inr rfl, Or.inr rfl, Or.inr rfl, Or.inr rfl, trivial⟩ (vv_Qu_tierBehind_46 D hD rr σ' K22 hK22 a2 a3 a4 a5 (a6 ||| ((1 : Int32) <<< (a7 &&& 31))) a7 σ hf))
    · exact gx_go_ 9 [.inl 0, .inl 1] [¬ ((8 : Int32) ≤ a7), ¬ (((a3 >>> (a7 &&& 31)) &&& (1 : Int32)) = 0)] 46 [.ref 77, .null, .int a2, .int a3, .int a4, .int a5, .int a6, .int a7] [] σ rfl ⟨h1, h2, trivial⟩ (gx_fgt (ls' := [.ref 77, .null, .int a2, .int a3, .int a4, .int a5, .int a6, .int a7]) ⟨Or.inr rfl, Or.inl rfl, Or.inr rfl, Or.inr rfl, Or.inr rfl, Or.inr rfl, Or.inr rfl, Or.inr rfl, trivial⟩ (vv_Qu_tierBehind_46 D hD rr σ' K22 hK22 a2 a3 a4 a5 a6 a7 σ hf))
set_option maxHeartbeats 16000000 in
set_option maxRecDepth 20000 in
theorem vv_Qu_tierBehind_22 (D : Nat) (hD : 2 ≤ D + 1) (rr : Int32) (σ' : gx_R) (K13 : Int32 → Int32 → Int32 → Int32 → gx_R → Option (Int32 × gx_R)) (hK13 : ∀ (a2 : Int32) (a3 : Int32) (a4 : Int32) (a5 : Int32) (σ : gx_R), K13 a2 a3 a4 a5 σ = some (rr, σ') → gx_Ev lay0 (E0 D) tt_57 (some (.int rr)) σ' 13 [.ref 77, .null, .int a2, .int a3, .int a4, .int a5, .null, .null] [] σ) : ∀ (n : Nat) (a2 : Int32) (a3 : Int32) (a4 : Int32) (a5 : Int32) (a6 : Int32) (a7 : Int32) (σ : gx_R), Qu_tierBehind_22 K13 n a2 a3 a4 a5 a6 a7 σ = some (rr, σ') → gx_Ev lay0 (E0 D) tt_57 (some (.int rr)) σ' 22 [.ref 77, .null, .int a2, .int a3, .int a4, .int a5, .int a6, .int a7] [] σ := by
  intro n
  induction n with
  | zero => intro a2 a3 a4 a5 a6 a7 σ  hf; cases hf
  | succ n ih => intro a2 a3 a4 a5 a6 a7 σ  hf; exact vv_Qu_tierBehind_22_B D hD rr σ'  K13 hK13 (Qu_tierBehind_22 K13 n) ih a2 a3 a4 a5 a6 a7 σ  hf
set_option maxHeartbeats 16000000 in
set_option maxRecDepth 20000 in
theorem vv_Qu_tierBehind_68 (D : Nat) (hD : 2 ≤ D + 1) (rr : Int32) (σ' : gx_R) (a2 : Int32) (a3 : Int32) (σ : gx_R) (hf : Qu_tierBehind_68 a2 a3 σ = some (rr, σ')) : gx_Ev lay0 (E0 D) tt_57 (some (.int rr)) σ' 68 [.null, .null, .int a2, .int a3, .null, .null, .null, .null] [] σ := by
  unfold Qu_tierBehind_68 at hf
  rcases z_if_inv hf with ⟨h1, hf⟩ | ⟨h1, hf⟩
  · obtain ⟨r2, σ3, h4, hf⟩ := z_bd_inv hf
    obtain ⟨e1, e2⟩ := z_ret hf
    subst e1
    subst e2
    exact gx_end 9 [.inl 0, .inr (some (.int r2), σ3)] [¬ ¬ (a2 = (-1 : Int32)), E0 D 0 [.int a3] σ (some (.int r2)) σ3] rfl ⟨(fun q => q h1), (ww_Jd_bitCount D (by omega) a3 σ r2 σ3 h4), trivial⟩
  · obtain ⟨e1, e2⟩ := z_ret hf
    subst e1
    subst e2
    exact gx_end 5 [.inl 1] [¬ (a2 = (-1 : Int32))] rfl ⟨h1, trivial⟩
set_option maxHeartbeats 16000000 in
set_option maxRecDepth 20000 in
theorem vv_Qu_tierBehind_13_B (D : Nat) (hD : 2 ≤ D + 1) (rr : Int32) (σ' : gx_R) (K13 : Int32 → Int32 → Int32 → Int32 → gx_R → Option (Int32 × gx_R)) (hK13 : ∀ (a2 : Int32) (a3 : Int32) (a4 : Int32) (a5 : Int32) (σ : gx_R), K13 a2 a3 a4 a5 σ = some (rr, σ') → gx_Ev lay0 (E0 D) tt_57 (some (.int rr)) σ' 13 [.ref 77, .null, .int a2, .int a3, .int a4, .int a5, .null, .null] [] σ) (a2 : Int32) (a3 : Int32) (a4 : Int32) (a5 : Int32) (σ : gx_R) (hf : Qu_tierBehind_13_B K13 a2 a3 a4 a5 σ = some (rr, σ')) : gx_Ev lay0 (E0 D) tt_57 (some (.int rr)) σ' 13 [.ref 77, .null, .int a2, .int a3, .int a4, .int a5, .null, .null] [] σ := by
  unfold Qu_tierBehind_13_B at hf
  rcases z_if_inv hf with ⟨h1, hf⟩ | ⟨h1, hf⟩
  · exact gx_go_ 3 [.inl 1] [(8 : Int32) < a5] 68 [.ref 77, .null, .int a2, .int a3, .int a4, .int a5, .null, .null] [] σ rfl ⟨h1, trivial⟩ (gx_fgt (ls' := [.null, .null, .int a2, .int a3, .null, .null, .null, .null]) ⟨Or.inl rfl, Or.inl rfl, Or.inr rfl, Or.inr rfl, Or.inl rfl, Or.inl rfl, Or.inl rfl, Or.inl rfl, trivial⟩ (vv_Qu_tierBehind_68 D hD rr σ' a2 a3 σ hf))
  · rcases z_if_inv hf with ⟨h2, hf⟩ | ⟨h2, hf⟩
    · exact gx_go_ 5 [.inl 0, .inl 1] [¬ ((8 : Int32) < a5), a4 = 0] 68 [.ref 77, .null, .int a2, .int a3, .int a4, .int a5, .null, .null] [] σ rfl ⟨h1, h2, trivial⟩ (gx_fgt (ls' := [.null, .null, .int a2, .int a3, .null, .null, .null, .null]) ⟨Or.inl rfl, Or.inl rfl, Or.inr rfl, Or.inr rfl, Or.inl rfl, Or.inl rfl, Or.inl rfl, Or.inl rfl, trivial⟩ (vv_Qu_tierBehind_68 D hD rr σ' a2 a3 σ hf))
    · exact gx_go_ 9 [.inl 0, .inl 0] [¬ ((8 : Int32) < a5), ¬ (a4 = 0)] 22 [.ref 77, .null, .int a2, .int a3, .int a4, .int a5, .int (0 : Int32), .int (0 : Int32)] [] σ rfl ⟨h1, h2, trivial⟩ (gx_fgt (ls' := [.ref 77, .null, .int a2, .int a3, .int a4, .int a5, .int (0 : Int32), .int (0 : Int32)]) ⟨Or.inr rfl, Or.inl rfl, Or.inr rfl, Or.inr rfl, Or.inr rfl, Or.inr rfl, Or.inr rfl, Or.inr rfl, trivial⟩ (vv_Qu_tierBehind_22 D hD rr σ' K13 hK13 z_FU a2 a3 a4 a5 (0 : Int32) (0 : Int32) σ hf))
set_option maxHeartbeats 16000000 in
set_option maxRecDepth 20000 in
theorem vv_Qu_tierBehind_13 (D : Nat) (hD : 2 ≤ D + 1) (rr : Int32) (σ' : gx_R) : ∀ (n : Nat) (a2 : Int32) (a3 : Int32) (a4 : Int32) (a5 : Int32) (σ : gx_R), Qu_tierBehind_13 n a2 a3 a4 a5 σ = some (rr, σ') → gx_Ev lay0 (E0 D) tt_57 (some (.int rr)) σ' 13 [.ref 77, .null, .int a2, .int a3, .int a4, .int a5, .null, .null] [] σ := by
  intro n
  induction n with
  | zero => intro a2 a3 a4 a5 σ  hf; cases hf
  | succ n ih => intro a2 a3 a4 a5 σ  hf; exact vv_Qu_tierBehind_13_B D hD rr σ'  (Qu_tierBehind_13 n) ih a2 a3 a4 a5 σ  hf
set_option maxHeartbeats 16000000 in
set_option maxRecDepth 20000 in
theorem vv_Qu_tierBehind_E (D : Nat) (hD : 2 ≤ D + 1) (rr : Int32) (σ' : gx_R) (a1 : Int32) (a2 : Int32) (σ : gx_R) (hf : Qu_tierBehind a1 a2 σ = some (rr, σ')) : gx_Ev lay0 (E0 D) tt_57 (some (.int rr)) σ' 0 [.ref 77, .int a1, .int a2, .null, .null, .null, .null, .null] [] σ := by
  unfold Qu_tierBehind at hf
  rcases z_if_inv hf with ⟨h1, hf⟩ | ⟨h1, hf⟩
  · obtain ⟨e1, e2⟩ := z_ret hf
    subst e1
    subst e2
    exact gx_end 5 [.inl 0] [¬ ¬ (a2 = a1)] rfl ⟨(fun q => q h1), trivial⟩
  · exact gx_go_ 11 [.inl 1] [¬ (a2 = a1)] 13 [.ref 77, .int a1, .int a2, .int ((1 : Int32) <<< (a1 &&& 31)), .int ((1 : Int32) <<< (a1 &&& 31)), .int (1 : Int32), .null, .null] [] σ rfl ⟨h1, trivial⟩ (gx_fgt (ls' := [.ref 77, .null, .int a2, .int ((1 : Int32) <<< (a1 &&& 31)), .int ((1 : Int32) <<< (a1 &&& 31)), .int (1 : Int32), .null, .null]) ⟨Or.inr rfl, Or.inl rfl, Or.inr rfl, Or.inr rfl, Or.inr rfl, Or.inr rfl, Or.inl rfl, Or.inl rfl, trivial⟩ (vv_Qu_tierBehind_13 D hD rr σ' z_FU a2 ((1 : Int32) <<< (a1 &&& 31)) ((1 : Int32) <<< (a1 &&& 31)) (1 : Int32) σ hf))
set_option maxHeartbeats 16000000 in
set_option maxRecDepth 20000 in
theorem ww_Qu_tierBehind (D : Nat) (hD : 2 ≤ D) (a1 : Int32) (a2 : Int32) (σ : gx_R) (rr : Int32) (σ' : gx_R) (hf : Qu_tierBehind a1 a2 σ = some (rr, σ')) : E0 D 57 [.ref 77, .int a1, .int a2] σ (some (.int rr)) σ' := by
  cases D with
  | zero => omega
  | succ D => exact Or.inl ⟨Nat.le_of_ble_eq_true rfl, vv_Qu_tierBehind_E D hD rr σ' a1 a2 σ hf⟩
set_option maxHeartbeats 16000000 in
set_option maxRecDepth 20000 in
theorem vv_Qu_leastGuard_60 (D : Nat) (hD : 5 ≤ D + 1) (rr : Int32) (σ' : gx_R) (K24 : Int32 → Int32 → Int32 → Int32 → Int32 → Int32 → gx_R → Option (Int32 × gx_R)) (hK24 : ∀ (a1 : Int32) (a2 : Int32) (a4 : Int32) (a5 : Int32) (a6 : Int32) (a7 : Int32) (σ : gx_R), K24 a1 a2 a4 a5 a6 a7 σ = some (rr, σ') → gx_Ev lay0 (E0 D) tt_58 (some (.int rr)) σ' 24 [.ref 77, .int a1, .int a2, .null, .int a4, .int a5, .int a6, .int a7, .null] [] σ) (a1 : Int32) (a2 : Int32) (a4 : Int32) (a5 : Int32) (a6 : Int32) (a7 : Int32) (σ : gx_R) (hf : Qu_leastGuard_60 K24 a1 a2 a4 a5 a6 a7 σ = some (rr, σ')) : gx_Ev lay0 (E0 D) tt_58 (some (.int rr)) σ' 60 [.ref 77, .int a1, .int a2, .null, .int a4, .int a5, .int a6, .int a7, .null] [] σ := by
  unfold Qu_leastGuard_60 at hf
  exact gx_go_ 2 [] [] 24 [.ref 77, .int a1, .int a2, .null, .int a4, .int a5, .int a6, .int (a7 + 1), .null] [] σ rfl trivial (gx_fgt (ls' := [.ref 77, .int a1, .int a2, .null, .int a4, .int a5, .int a6, .int (a7 + 1), .null]) ⟨Or.inr rfl, Or.inr rfl, Or.inr rfl, Or.inl rfl, Or.inr rfl, Or.inr rfl, Or.inr rfl, Or.inr rfl, Or.inl rfl, trivial⟩ (hK24 a1 a2 a4 a5 a6 (a7 + 1) σ hf))
set_option maxHeartbeats 16000000 in
set_option maxRecDepth 20000 in
theorem vv_Qu_leastGuard_35 (D : Nat) (hD : 5 ≤ D + 1) (rr : Int32) (σ' : gx_R) (K24 : Int32 → Int32 → Int32 → Int32 → Int32 → Int32 → gx_R → Option (Int32 × gx_R)) (hK24 : ∀ (a1 : Int32) (a2 : Int32) (a4 : Int32) (a5 : Int32) (a6 : Int32) (a7 : Int32) (σ : gx_R), K24 a1 a2 a4 a5 a6 a7 σ = some (rr, σ') → gx_Ev lay0 (E0 D) tt_58 (some (.int rr)) σ' 24 [.ref 77, .int a1, .int a2, .null, .int a4, .int a5, .int a6, .int a7, .null] [] σ) (a1 : Int32) (a2 : Int32) (a4 : Int32) (a5 : Int32) (a6 : Int32) (a7 : Int32) (s0 : Int32) (σ : gx_R) (hf : Qu_leastGuard_35 K24 a1 a2 a4 a5 a6 a7 s0 σ = some (rr, σ')) : gx_Ev lay0 (E0 D) tt_58 (some (.int rr)) σ' 35 [.ref 77, .int a1, .int a2, .null, .int a4, .int a5, .int a6, .int a7, .null] [.int s0] σ := by
  unfold Qu_leastGuard_35 at hf
  rcases z_if_inv hf with ⟨h1, hf⟩ | ⟨h1, hf⟩
  · exact gx_go_ 3 [.inl 1] [s0 = 0] 60 [.ref 77, .int a1, .int a2, .null, .int a4, .int a5, .int a6, .int a7, .int s0] [] σ rfl ⟨h1, trivial⟩ (gx_fgt (ls' := [.ref 77, .int a1, .int a2, .null, .int a4, .int a5, .int a6, .int a7, .null]) ⟨Or.inr rfl, Or.inr rfl, Or.inr rfl, Or.inl rfl, Or.inr rfl, Or.inr rfl, Or.inr rfl, Or.inr rfl, Or.inl rfl, trivial⟩ (vv_Qu_leastGuard_60 D hD rr σ' K24 hK24 a1 a2 a4 a5 a6 a7 σ hf))
  · rcases z_if_inv hf with ⟨h2, hf⟩ | ⟨h2, hf⟩
    · obtain ⟨r3, σ4, h5, hf⟩ := z_bd_inv hf
      rcases z_if_inv hf with ⟨h6, hf⟩ | ⟨h6, hf⟩
      · exact gx_go_ 25 [.inl 0, .inl 0, .inr (some (.int r3), σ4), .inl 0] [¬ (s0 = 0), ¬ ¬ ((a7 &&& (a5 ^^^ (-1 : Int32))) = 0), E0 D 39 [.ref 53, .int ((1 : Int32) <<< (a1 &&& 31)), .int (a4 &&& (a7 ^^^ (-1 : Int32)))] σ (some (.int r3)) σ4, ¬ ¬ ((r3 &&& a2) = 0)] 60 [.ref 77, .int a1, .int a2, .null, .int a4, .int a5, .int a7, .int a7, .int s0] [] σ4 rfl ⟨h1, (fun q => q h2), (ww_Cl_spread D (by omega) ((1 : Int32) <<< (a1 &&& 31)) (a4 &&& (a7 ^^^ (-1 : Int32))) σ r3 σ4 h5), (fun q => q h6), trivial⟩ (gx_fgt (ls' := [.ref 77, .int a1, .int a2, .null, .int a4, .int a5, .int a7, .int a7, .null]) ⟨Or.inr rfl, Or.inr rfl, Or.inr rfl, Or.inl rfl, Or.inr rfl, Or.inr rfl, Or.inr rfl, Or.inr rfl, Or.inl rfl, trivial⟩ (vv_Qu_leastGuard_60 D hD rr σ' K24 hK24 a1 a2 a4 a5 a7 a7 σ4 hf))
      · exact gx_go_ 23 [.inl 0, .inl 0, .inr (some (.int r3), σ4), .inl 1] [¬ (s0 = 0), ¬ ¬ ((a7 &&& (a5 ^^^ (-1 : Int32))) = 0), E0 D 39 [.ref 53, .int ((1 : Int32) <<< (a1 &&& 31)), .int (a4 &&& (a7 ^^^ (-1 : Int32)))] σ (some (.int r3)) σ4, ¬ ((r3 &&& a2) = 0)] 60 [.ref 77, .int a1, .int a2, .null, .int a4, .int a5, .int a6, .int a7, .int s0] [] σ4 rfl ⟨h1, (fun q => q h2), (ww_Cl_spread D (by omega) ((1 : Int32) <<< (a1 &&& 31)) (a4 &&& (a7 ^^^ (-1 : Int32))) σ r3 σ4 h5), h6, trivial⟩ (gx_fgt (ls' := [.ref 77, .int a1, .int a2, .null, .int a4, .int a5, .int a6, .int a7, .null]) ⟨Or.inr rfl, Or.inr rfl, Or.inr rfl, Or.inl rfl, Or.inr rfl, Or.inr rfl, Or.inr rfl, Or.inr rfl, Or.inl rfl, trivial⟩ (vv_Qu_leastGuard_60 D hD rr σ' K24 hK24 a1 a2 a4 a5 a6 a7 σ4 hf))
    · exact gx_go_ 9 [.inl 0, .inl 1] [¬ (s0 = 0), ¬ ((a7 &&& (a5 ^^^ (-1 : Int32))) = 0)] 60 [.ref 77, .int a1, .int a2, .null, .int a4, .int a5, .int a6, .int a7, .int s0] [] σ rfl ⟨h1, h2, trivial⟩ (gx_fgt (ls' := [.ref 77, .int a1, .int a2, .null, .int a4, .int a5, .int a6, .int a7, .null]) ⟨Or.inr rfl, Or.inr rfl, Or.inr rfl, Or.inl rfl, Or.inr rfl, Or.inr rfl, Or.inr rfl, Or.inr rfl, Or.inl rfl, trivial⟩ (vv_Qu_leastGuard_60 D hD rr σ' K24 hK24 a1 a2 a4 a5 a6 a7 σ hf))
set_option maxHeartbeats 16000000 in
set_option maxRecDepth 20000 in
theorem vv_Qu_leastGuard_24_B (D : Nat) (hD : 5 ≤ D + 1) (rr : Int32) (σ' : gx_R) (K24 : Int32 → Int32 → Int32 → Int32 → Int32 → Int32 → gx_R → Option (Int32 × gx_R)) (hK24 : ∀ (a1 : Int32) (a2 : Int32) (a4 : Int32) (a5 : Int32) (a6 : Int32) (a7 : Int32) (σ : gx_R), K24 a1 a2 a4 a5 a6 a7 σ = some (rr, σ') → gx_Ev lay0 (E0 D) tt_58 (some (.int rr)) σ' 24 [.ref 77, .int a1, .int a2, .null, .int a4, .int a5, .int a6, .int a7, .null] [] σ) (a1 : Int32) (a2 : Int32) (a4 : Int32) (a5 : Int32) (a6 : Int32) (a7 : Int32) (σ : gx_R) (hf : Qu_leastGuard_24_B K24 a1 a2 a4 a5 a6 a7 σ = some (rr, σ')) : gx_Ev lay0 (E0 D) tt_58 (some (.int rr)) σ' 24 [.ref 77, .int a1, .int a2, .null, .int a4, .int a5, .int a6, .int a7, .null] [] σ := by
  unfold Qu_leastGuard_24_B at hf
  rcases z_if_inv hf with ⟨h1, hf⟩ | ⟨h1, hf⟩
  · obtain ⟨e1, e2⟩ := z_ret hf
    subst e1
    subst e2
    exact gx_end 5 [.inl 1] [a5 ≤ a7] rfl ⟨h1, trivial⟩
  · obtain ⟨r2, σ3, h4, hf⟩ := z_bd_inv hf
    obtain ⟨r5, σ6, h7, hf⟩ := z_bd_inv hf
    rcases z_if_inv hf with ⟨h8, hf⟩ | ⟨h8, hf⟩
    · exact gx_go_ 9 [.inl 0, .inr (some (.int r2), σ3), .inr (some (.int r5), σ6), .inl 1] [¬ (a5 ≤ a7), E0 D 0 [.int a7] σ (some (.int r2)) σ3, E0 D 0 [.int a6] σ3 (some (.int r5)) σ6, r5 ≤ r2] 35 [.ref 77, .int a1, .int a2, .null, .int a4, .int a5, .int a6, .int a7, .null] [.int (0 : Int32)] σ6 rfl ⟨h1, (ww_Jd_bitCount D (by omega) a7 σ r2 σ3 h4), (ww_Jd_bitCount D (by omega) a6 σ3 r5 σ6 h7), h8, trivial⟩ (gx_fgt (ls' := [.ref 77, .int a1, .int a2, .null, .int a4, .int a5, .int a6, .int a7, .null]) ⟨Or.inr rfl, Or.inr rfl, Or.inr rfl, Or.inl rfl, Or.inr rfl, Or.inr rfl, Or.inr rfl, Or.inr rfl, Or.inl rfl, trivial⟩ (vv_Qu_leastGuard_35 D hD rr σ' K24 hK24 a1 a2 a4 a5 a6 a7 (0 : Int32) σ6 hf))
    · exact gx_go_ 10 [.inl 0, .inr (some (.int r2), σ3), .inr (some (.int r5), σ6), .inl 0] [¬ (a5 ≤ a7), E0 D 0 [.int a7] σ (some (.int r2)) σ3, E0 D 0 [.int a6] σ3 (some (.int r5)) σ6, ¬ (r5 ≤ r2)] 35 [.ref 77, .int a1, .int a2, .null, .int a4, .int a5, .int a6, .int a7, .null] [.int (1 : Int32)] σ6 rfl ⟨h1, (ww_Jd_bitCount D (by omega) a7 σ r2 σ3 h4), (ww_Jd_bitCount D (by omega) a6 σ3 r5 σ6 h7), h8, trivial⟩ (gx_fgt (ls' := [.ref 77, .int a1, .int a2, .null, .int a4, .int a5, .int a6, .int a7, .null]) ⟨Or.inr rfl, Or.inr rfl, Or.inr rfl, Or.inl rfl, Or.inr rfl, Or.inr rfl, Or.inr rfl, Or.inr rfl, Or.inl rfl, trivial⟩ (vv_Qu_leastGuard_35 D hD rr σ' K24 hK24 a1 a2 a4 a5 a6 a7 (1 : Int32) σ6 hf))
set_option maxHeartbeats 16000000 in
set_option maxRecDepth 20000 in
theorem vv_Qu_leastGuard_24 (D : Nat) (hD : 5 ≤ D + 1) (rr : Int32) (σ' : gx_R) : ∀ (n : Nat) (a1 : Int32) (a2 : Int32) (a4 : Int32) (a5 : Int32) (a6 : Int32) (a7 : Int32) (σ : gx_R), Qu_leastGuard_24 n a1 a2 a4 a5 a6 a7 σ = some (rr, σ') → gx_Ev lay0 (E0 D) tt_58 (some (.int rr)) σ' 24 [.ref 77, .int a1, .int a2, .null, .int a4, .int a5, .int a6, .int a7, .null] [] σ := by
  intro n
  induction n with
  | zero => intro a1 a2 a4 a5 a6 a7 σ  hf; cases hf
  | succ n ih => intro a1 a2 a4 a5 a6 a7 σ  hf; exact vv_Qu_leastGuard_24_B D hD rr σ'  (Qu_leastGuard_24 n) ih a1 a2 a4 a5 a6 a7 σ  hf
set_option maxHeartbeats 16000000 in
set_option maxRecDepth 20000 in
theorem vv_Qu_leastGuard_E (D : Nat) (hD : 5 ≤ D + 1) (rr : Int32) (σ' : gx_R) (a1 : Int32) (a2 : Int32) (σ : gx_R) (hf : Qu_leastGuard a1 a2 σ = some (rr, σ')) : gx_Ev lay0 (E0 D) tt_58 (some (.int rr)) σ' 0 [.ref 77, .int a1, .int a2, .null, .null, .null, .null, .null, .null] [] σ := by
  unfold Qu_leastGuard at hf
  obtain ⟨r1, σ2, h3, hf⟩ := z_bd_inv hf
  obtain ⟨⟨⟩, σ5, h6, hf⟩ := z_bd_inv hf
  exact gx_go_ 24 [.inr (some (.int r1), σ2), .inr (none, σ5)] [E0 D 7 [.ref 9, .int (2 : Int32)] σ (some (.int r1)) σ2, E0 D 38 [.ref 53, .ref 9] σ2 (none) σ5] 24 [.ref 77, .int a1, .int a2, .ref 9, .int r1, .int (r1 &&& (((1 : Int32) <<< (a1 &&& 31)) ^^^ (-1 : Int32))), .int (r1 &&& (((1 : Int32) <<< (a1 &&& 31)) ^^^ (-1 : Int32))), .int (0 : Int32), .null] [] σ5 rfl ⟨(ww_Ni_those D (by omega) 9 (2 : Int32) σ r1 σ2 (Or.inl rfl) h3), (ww_Cl_listen D (by omega) 9 σ2 () σ5 (Or.inl rfl) h6), trivial⟩ (gx_fgt (ls' := [.ref 77, .int a1, .int a2, .null, .int r1, .int (r1 &&& (((1 : Int32) <<< (a1 &&& 31)) ^^^ (-1 : Int32))), .int (r1 &&& (((1 : Int32) <<< (a1 &&& 31)) ^^^ (-1 : Int32))), .int (0 : Int32), .null]) ⟨Or.inr rfl, Or.inr rfl, Or.inr rfl, Or.inl rfl, Or.inr rfl, Or.inr rfl, Or.inr rfl, Or.inr rfl, Or.inl rfl, trivial⟩ (vv_Qu_leastGuard_24 D hD rr σ' z_FU a1 a2 r1 (r1 &&& (((1 : Int32) <<< (a1 &&& 31)) ^^^ (-1 : Int32))) (r1 &&& (((1 : Int32) <<< (a1 &&& 31)) ^^^ (-1 : Int32))) (0 : Int32) σ5 hf))
set_option maxHeartbeats 16000000 in
set_option maxRecDepth 20000 in
theorem ww_Qu_leastGuard (D : Nat) (hD : 5 ≤ D) (a1 : Int32) (a2 : Int32) (σ : gx_R) (rr : Int32) (σ' : gx_R) (hf : Qu_leastGuard a1 a2 σ = some (rr, σ')) : E0 D 58 [.ref 77, .int a1, .int a2] σ (some (.int rr)) σ' := by
  cases D with
  | zero => omega
  | succ D => exact Or.inl ⟨Nat.le_of_ble_eq_true rfl, vv_Qu_leastGuard_E D hD rr σ' a1 a2 σ hf⟩
set_option maxHeartbeats 16000000 in
set_option maxRecDepth 20000 in
theorem vv_Qu_listDebts_36 (D : Nat) (hD : 1 ≤ D + 1) (rr : Unit) (σ' : gx_R) (K12 : Int32 → Int32 → gx_R → Option (Unit × gx_R)) (hK12 : ∀ (a1 : Int32) (a2 : Int32) (σ : gx_R), K12 a1 a2 σ = some (rr, σ') → gx_Ev lay0 (E0 D) tt_60 none σ' 12 [.ref 77, .int a1, .int a2] [] σ) (a1 : Int32) (a2 : Int32) (σ : gx_R) (hf : Qu_listDebts_36 K12 a1 a2 σ = some (rr, σ')) : gx_Ev lay0 (E0 D) tt_60 none σ' 36 [.ref 77, .int a1, .int a2] [] σ := by
  unfold Qu_listDebts_36 at hf
  exact gx_go_ 2 [] [] 12 [.ref 77, .int a1, .int (a2 + 1)] [] σ rfl trivial (gx_fgt (ls' := [.ref 77, .int a1, .int (a2 + 1)]) ⟨Or.inr rfl, Or.inr rfl, Or.inr rfl, trivial⟩ (hK12 a1 (a2 + 1) σ hf))
set_option maxHeartbeats 16000000 in
set_option maxRecDepth 20000 in
theorem vv_Qu_listDebts_38 (D : Nat) (hD : 1 ≤ D + 1) (rr : Unit) (σ' : gx_R) (K2 : Int32 → gx_R → Option (Unit × gx_R)) (hK2 : ∀ (a1 : Int32) (σ : gx_R), K2 a1 σ = some (rr, σ') → gx_Ev lay0 (E0 D) tt_60 none σ' 2 [.ref 77, .int a1, .null] [] σ) (a1 : Int32) (σ : gx_R) (hf : Qu_listDebts_38 K2 a1 σ = some (rr, σ')) : gx_Ev lay0 (E0 D) tt_60 none σ' 38 [.ref 77, .int a1, .null] [] σ := by
  unfold Qu_listDebts_38 at hf
  exact gx_go_ 2 [] [] 2 [.ref 77, .int (a1 + 1), .null] [] σ rfl trivial (gx_fgt (ls' := [.ref 77, .int (a1 + 1), .null]) ⟨Or.inr rfl, Or.inr rfl, Or.inl rfl, trivial⟩ (hK2 (a1 + 1) σ hf))
set_option maxHeartbeats 16000000 in
set_option maxRecDepth 20000 in
theorem vv_Qu_listDebts_12_B (D : Nat) (hD : 1 ≤ D + 1) (rr : Unit) (σ' : gx_R) (K2 : Int32 → gx_R → Option (Unit × gx_R)) (hK2 : ∀ (a1 : Int32) (σ : gx_R), K2 a1 σ = some (rr, σ') → gx_Ev lay0 (E0 D) tt_60 none σ' 2 [.ref 77, .int a1, .null] [] σ) (K12 : Int32 → Int32 → gx_R → Option (Unit × gx_R)) (hK12 : ∀ (a1 : Int32) (a2 : Int32) (σ : gx_R), K12 a1 a2 σ = some (rr, σ') → gx_Ev lay0 (E0 D) tt_60 none σ' 12 [.ref 77, .int a1, .int a2] [] σ) (a1 : Int32) (a2 : Int32) (σ : gx_R) (hf : Qu_listDebts_12_B K2 K12 a1 a2 σ = some (rr, σ')) : gx_Ev lay0 (E0 D) tt_60 none σ' 12 [.ref 77, .int a1, .int a2] [] σ := by
  unfold Qu_listDebts_12_B at hf
  rcases z_if_inv hf with ⟨h1, hf⟩ | ⟨h1, hf⟩
  · exact gx_go_ 3 [.inl 1] [(8 : Int32) ≤ a2] 38 [.ref 77, .int a1, .int a2] [] σ rfl ⟨h1, trivial⟩ (gx_fgt (ls' := [.ref 77, .int a1, .null]) ⟨Or.inr rfl, Or.inr rfl, Or.inl rfl, trivial⟩ (vv_Qu_listDebts_38 D hD rr σ' K2 hK2 a1 σ hf))
  · obtain ⟨h2, hf⟩ := z_ck_inv hf
    rcases z_if_inv hf with ⟨h3, hf⟩ | ⟨h3, hf⟩
    · exact gx_go_ 14 [.inl 0, .inl 1] [¬ ((8 : Int32) ≤ a2), vp_in ((a1 * (8 : Int32)) + a2) 64, (σ 14 (((a1 * (8 : Int32)) + a2).toNatClampNeg)) ≤ 0] 36 [.ref 77, .int a1, .int a2] [] σ rfl ⟨h1, (z_ix_in h2), h3, trivial⟩ (gx_fgt (ls' := [.ref 77, .int a1, .int a2]) ⟨Or.inr rfl, Or.inr rfl, Or.inr rfl, trivial⟩ (vv_Qu_listDebts_36 D hD rr σ' K12 hK12 a1 a2 σ hf))
    · obtain ⟨h4, hf⟩ := z_ck_inv hf
      obtain ⟨h5, hf⟩ := z_ck_inv hf
      exact gx_go_ 24 [.inl 0, .inl 0] [¬ ((8 : Int32) ≤ a2), vp_in ((a1 * (8 : Int32)) + a2) 64, ¬ ((σ 14 (((a1 * (8 : Int32)) + a2).toNatClampNeg)) ≤ 0), vp_in a1 8, vp_in a1 8] 36 [.ref 77, .int a1, .int a2] [] (gx_up σ 78 a1.toNatClampNeg ((σ 78 a1.toNatClampNeg) ||| ((1 : Int32) <<< (a2 &&& 31)))) rfl ⟨h1, (z_ix_in h2), h3, (z_ix_in h4), (z_ix_in h5), trivial⟩ (gx_fgt (ls' := [.ref 77, .int a1, .int a2]) ⟨Or.inr rfl, Or.inr rfl, Or.inr rfl, trivial⟩ (vv_Qu_listDebts_36 D hD rr σ' K12 hK12 a1 a2 (gx_up σ 78 a1.toNatClampNeg ((σ 78 a1.toNatClampNeg) ||| ((1 : Int32) <<< (a2 &&& 31)))) hf))
set_option maxHeartbeats 16000000 in
set_option maxRecDepth 20000 in
theorem vv_Qu_listDebts_12 (D : Nat) (hD : 1 ≤ D + 1) (rr : Unit) (σ' : gx_R) (K2 : Int32 → gx_R → Option (Unit × gx_R)) (hK2 : ∀ (a1 : Int32) (σ : gx_R), K2 a1 σ = some (rr, σ') → gx_Ev lay0 (E0 D) tt_60 none σ' 2 [.ref 77, .int a1, .null] [] σ) : ∀ (n : Nat) (a1 : Int32) (a2 : Int32) (σ : gx_R), Qu_listDebts_12 K2 n a1 a2 σ = some (rr, σ') → gx_Ev lay0 (E0 D) tt_60 none σ' 12 [.ref 77, .int a1, .int a2] [] σ := by
  intro n
  induction n with
  | zero => intro a1 a2 σ  hf; cases hf
  | succ n ih => intro a1 a2 σ  hf; exact vv_Qu_listDebts_12_B D hD rr σ'  K2 hK2 (Qu_listDebts_12 K2 n) ih a1 a2 σ  hf
set_option maxHeartbeats 16000000 in
set_option maxRecDepth 20000 in
theorem vv_Qu_listDebts_2_B (D : Nat) (hD : 1 ≤ D + 1) (rr : Unit) (σ' : gx_R) (K2 : Int32 → gx_R → Option (Unit × gx_R)) (hK2 : ∀ (a1 : Int32) (σ : gx_R), K2 a1 σ = some (rr, σ') → gx_Ev lay0 (E0 D) tt_60 none σ' 2 [.ref 77, .int a1, .null] [] σ) (a1 : Int32) (σ : gx_R) (hf : Qu_listDebts_2_B K2 a1 σ = some (rr, σ')) : gx_Ev lay0 (E0 D) tt_60 none σ' 2 [.ref 77, .int a1, .null] [] σ := by
  unfold Qu_listDebts_2_B at hf
  rcases z_if_inv hf with ⟨h1, hf⟩ | ⟨h1, hf⟩
  · obtain ⟨e1, e2⟩ := z_ret hf
    subst e1
    subst e2
    exact gx_end 4 [.inl 1] [(8 : Int32) ≤ a1] rfl ⟨h1, trivial⟩
  · obtain ⟨h2, hf⟩ := z_ck_inv hf
    exact gx_go_ 10 [.inl 0] [¬ ((8 : Int32) ≤ a1), vp_in a1 8] 12 [.ref 77, .int a1, .int (0 : Int32)] [] (gx_up σ 78 a1.toNatClampNeg (0 : Int32)) rfl ⟨h1, (z_ix_in h2), trivial⟩ (gx_fgt (ls' := [.ref 77, .int a1, .int (0 : Int32)]) ⟨Or.inr rfl, Or.inr rfl, Or.inr rfl, trivial⟩ (vv_Qu_listDebts_12 D hD rr σ' K2 hK2 z_FU a1 (0 : Int32) (gx_up σ 78 a1.toNatClampNeg (0 : Int32)) hf))
set_option maxHeartbeats 16000000 in
set_option maxRecDepth 20000 in
theorem vv_Qu_listDebts_2 (D : Nat) (hD : 1 ≤ D + 1) (rr : Unit) (σ' : gx_R) : ∀ (n : Nat) (a1 : Int32) (σ : gx_R), Qu_listDebts_2 n a1 σ = some (rr, σ') → gx_Ev lay0 (E0 D) tt_60 none σ' 2 [.ref 77, .int a1, .null] [] σ := by
  intro n
  induction n with
  | zero => intro a1 σ  hf; cases hf
  | succ n ih => intro a1 σ  hf; exact vv_Qu_listDebts_2_B D hD rr σ'  (Qu_listDebts_2 n) ih a1 σ  hf
set_option maxHeartbeats 16000000 in
set_option maxRecDepth 20000 in
theorem vv_Qu_listDebts_E (D : Nat) (hD : 1 ≤ D + 1) (rr : Unit) (σ' : gx_R) (σ : gx_R) (hf : Qu_listDebts  σ = some (rr, σ')) : gx_Ev lay0 (E0 D) tt_60 none σ' 0 [.ref 77, .null, .null] [] σ := by
  unfold Qu_listDebts at hf
  exact gx_go_ 2 [] [] 2 [.ref 77, .int (0 : Int32), .null] [] σ rfl trivial (gx_fgt (ls' := [.ref 77, .int (0 : Int32), .null]) ⟨Or.inr rfl, Or.inr rfl, Or.inl rfl, trivial⟩ (vv_Qu_listDebts_2 D hD rr σ' z_FU (0 : Int32) σ hf))
set_option maxHeartbeats 16000000 in
set_option maxRecDepth 20000 in
theorem ww_Qu_listDebts (D : Nat) (hD : 1 ≤ D) (σ : gx_R) (rr : Unit) (σ' : gx_R) (hf : Qu_listDebts  σ = some (rr, σ')) : E0 D 60 [.ref 77] σ none σ' := by
  cases D with
  | zero => omega
  | succ D => exact Or.inl ⟨Nat.le_of_ble_eq_true rfl, vv_Qu_listDebts_E D hD rr σ' σ hf⟩
set_option maxHeartbeats 16000000 in
set_option maxRecDepth 20000 in
theorem vv_Qu_ringFrom_65 (D : Nat) (hD : 1 ≤ D + 1) (rr : Int32) (σ' : gx_R) (K38 : Int32 → Int32 → Int32 → Int32 → Int32 → gx_R → Option (Int32 × gx_R)) (hK38 : ∀ (a1 : Int32) (a2 : Int32) (a3 : Int32) (a4 : Int32) (a5 : Int32) (σ : gx_R), K38 a1 a2 a3 a4 a5 σ = some (rr, σ') → gx_Ev lay0 (E0 D) tt_61 (some (.int rr)) σ' 38 [.ref 77, .int a1, .int a2, .int a3, .int a4, .int a5] [] σ) (a1 : Int32) (a2 : Int32) (a3 : Int32) (a4 : Int32) (a5 : Int32) (σ : gx_R) (hf : Qu_ringFrom_65 K38 a1 a2 a3 a4 a5 σ = some (rr, σ')) : gx_Ev lay0 (E0 D) tt_61 (some (.int rr)) σ' 65 [.ref 77, .int a1, .int a2, .int a3, .int a4, .int a5] [] σ := by
  unfold Qu_ringFrom_65 at hf
  exact gx_go_ 2 [] [] 38 [.ref 77, .int a1, .int a2, .int a3, .int a4, .int (a5 + 1)] [] σ rfl trivial (gx_fgt (ls' := [.ref 77, .int a1, .int a2, .int a3, .int a4, .int (a5 + 1)]) ⟨Or.inr rfl, Or.inr rfl, Or.inr rfl, Or.inr rfl, Or.inr rfl, Or.inr rfl, trivial⟩ (hK38 a1 a2 a3 a4 (a5 + 1) σ hf))
set_option maxHeartbeats 16000000 in
set_option maxRecDepth 20000 in
theorem vv_Qu_ringFrom_67 (D : Nat) (hD : 1 ≤ D + 1) (rr : Int32) (σ' : gx_R) (K18 : Int32 → Int32 → Int32 → gx_R → Option (Int32 × gx_R)) (hK18 : ∀ (a1 : Int32) (a2 : Int32) (a3 : Int32) (σ : gx_R), K18 a1 a2 a3 σ = some (rr, σ') → gx_Ev lay0 (E0 D) tt_61 (some (.int rr)) σ' 18 [.ref 77, .int a1, .int a2, .int a3, .null, .null] [] σ) (a1 : Int32) (a3 : Int32) (a4 : Int32) (σ : gx_R) (hf : Qu_ringFrom_67 K18 a1 a3 a4 σ = some (rr, σ')) : gx_Ev lay0 (E0 D) tt_61 (some (.int rr)) σ' 67 [.ref 77, .int a1, .null, .int a3, .int a4, .null] [] σ := by
  unfold Qu_ringFrom_67 at hf
  exact gx_go_ 4 [] [] 18 [.ref 77, .int a1, .int a4, .int (a3 + 1), .int a4, .null] [] σ rfl trivial (gx_fgt (ls' := [.ref 77, .int a1, .int a4, .int (a3 + 1), .null, .null]) ⟨Or.inr rfl, Or.inr rfl, Or.inr rfl, Or.inr rfl, Or.inl rfl, Or.inl rfl, trivial⟩ (hK18 a1 a4 (a3 + 1) σ hf))
set_option maxHeartbeats 16000000 in
set_option maxRecDepth 20000 in
theorem vv_Qu_ringFrom_38_B (D : Nat) (hD : 1 ≤ D + 1) (rr : Int32) (σ' : gx_R) (K18 : Int32 → Int32 → Int32 → gx_R → Option (Int32 × gx_R)) (hK18 : ∀ (a1 : Int32) (a2 : Int32) (a3 : Int32) (σ : gx_R), K18 a1 a2 a3 σ = some (rr, σ') → gx_Ev lay0 (E0 D) tt_61 (some (.int rr)) σ' 18 [.ref 77, .int a1, .int a2, .int a3, .null, .null] [] σ) (K38 : Int32 → Int32 → Int32 → Int32 → Int32 → gx_R → Option (Int32 × gx_R)) (hK38 : ∀ (a1 : Int32) (a2 : Int32) (a3 : Int32) (a4 : Int32) (a5 : Int32) (σ : gx_R), K38 a1 a2 a3 a4 a5 σ = some (rr, σ') → gx_Ev lay0 (E0 D) tt_61 (some (.int rr)) σ' 38 [.ref 77, .int a1, .int a2, .int a3, .int a4, .int a5] [] σ) (a1 : Int32) (a2 : Int32) (a3 : Int32) (a4 : Int32) (a5 : Int32) (σ : gx_R) (hf : Qu_ringFrom_38_B K18 K38 a1 a2 a3 a4 a5 σ = some (rr, σ')) : gx_Ev lay0 (E0 D) tt_61 (some (.int rr)) σ' 38 [.ref 77, .int a1, .int a2, .int a3, .int a4, .int a5] [] σ := by
  unfold Qu_ringFrom_38_B at hf
  rcases z_if_inv hf with ⟨h1, hf⟩ | ⟨h1, hf⟩
  · exact gx_go_ 3 [.inl 1] [(8 : Int32) ≤ a5] 67 [.ref 77, .int a1, .int a2, .int a3, .int a4, .int a5] [] σ rfl ⟨h1, trivial⟩ (gx_fgt (ls' := [.ref 77, .int a1, .null, .int a3, .int a4, .null]) ⟨Or.inr rfl, Or.inr rfl, Or.inl rfl, Or.inr rfl, Or.inr rfl, Or.inl rfl, trivial⟩ (vv_Qu_ringFrom_67 D hD rr σ' K18 hK18 a1 a3 a4 σ hf))
  · obtain ⟨h2, hf⟩ := z_ck_inv hf
    rcases z_if_inv hf with ⟨h3, hf⟩ | ⟨h3, hf⟩
    · obtain ⟨h4, hf⟩ := z_ck_inv hf
      rcases z_if_inv hf with ⟨h5, hf⟩ | ⟨h5, hf⟩
      · exact gx_go_ 16 [.inl 0, .inl 0, .inl 1] [¬ ((8 : Int32) ≤ a5), vp_in a5 8, ¬ ¬ ((σ 79 a5.toNatClampNeg) = (-1 : Int32)), vp_in a5 8, ((σ 78 a5.toNatClampNeg) &&& a2) = 0] 65 [.ref 77, .int a1, .int a2, .int a3, .int a4, .int a5] [] σ rfl ⟨h1, (z_ix_in h2), (fun q => q h3), (z_ix_in h4), h5, trivial⟩ (gx_fgt (ls' := [.ref 77, .int a1, .int a2, .int a3, .int a4, .int a5]) ⟨Or.inr rfl, Or.inr rfl, Or.inr rfl, Or.inr rfl, Or.inr rfl, Or.inr rfl, trivial⟩ (vv_Qu_ringFrom_65 D hD rr σ' K38 hK38 a1 a2 a3 a4 a5 σ hf))
      · obtain ⟨h6, hf⟩ := z_ck_inv hf
        exact gx_go_ 27 [.inl 0, .inl 0, .inl 0] [¬ ((8 : Int32) ≤ a5), vp_in a5 8, ¬ ¬ ((σ 79 a5.toNatClampNeg) = (-1 : Int32)), vp_in a5 8, ¬ (((σ 78 a5.toNatClampNeg) &&& a2) = 0), vp_in a5 8] 65 [.ref 77, .int a1, .int a2, .int a3, .int (a4 ||| ((1 : Int32) <<< (a5 &&& 31))), .int a5] [] (gx_up σ 79 a5.toNatClampNeg a3) rfl ⟨h1, (z_ix_in h2), (fun q => q h3), (z_ix_in h4), h5, (z_ix_in h6), trivial⟩ (gx_fgt (ls' := [.ref 77, .int a1, .int a2, .int a3, .int (a4 ||| ((1 : Int32) <<< (a5 &&& 31))), .int a5]) ⟨Or.inr rfl, Or.inr rfl, Or.inr rfl, Or.inr rfl, Or.inr rfl, Or.inr rfl, trivial⟩ (vv_Qu_ringFrom_65 D hD rr σ' K38 hK38 a1 a2 a3 (a4 ||| ((1 : Int32) <<< (a5 &&& 31))) a5 (gx_up σ 79 a5.toNatClampNeg a3) hf))
    · exact gx_go_ 9 [.inl 0, .inl 1] [¬ ((8 : Int32) ≤ a5), vp_in a5 8, ¬ ((σ 79 a5.toNatClampNeg) = (-1 : Int32))] 65 [.ref 77, .int a1, .int a2, .int a3, .int a4, .int a5] [] σ rfl ⟨h1, (z_ix_in h2), h3, trivial⟩ (gx_fgt (ls' := [.ref 77, .int a1, .int a2, .int a3, .int a4, .int a5]) ⟨Or.inr rfl, Or.inr rfl, Or.inr rfl, Or.inr rfl, Or.inr rfl, Or.inr rfl, trivial⟩ (vv_Qu_ringFrom_65 D hD rr σ' K38 hK38 a1 a2 a3 a4 a5 σ hf))
set_option maxHeartbeats 16000000 in
set_option maxRecDepth 20000 in
theorem vv_Qu_ringFrom_38 (D : Nat) (hD : 1 ≤ D + 1) (rr : Int32) (σ' : gx_R) (K18 : Int32 → Int32 → Int32 → gx_R → Option (Int32 × gx_R)) (hK18 : ∀ (a1 : Int32) (a2 : Int32) (a3 : Int32) (σ : gx_R), K18 a1 a2 a3 σ = some (rr, σ') → gx_Ev lay0 (E0 D) tt_61 (some (.int rr)) σ' 18 [.ref 77, .int a1, .int a2, .int a3, .null, .null] [] σ) : ∀ (n : Nat) (a1 : Int32) (a2 : Int32) (a3 : Int32) (a4 : Int32) (a5 : Int32) (σ : gx_R), Qu_ringFrom_38 K18 n a1 a2 a3 a4 a5 σ = some (rr, σ') → gx_Ev lay0 (E0 D) tt_61 (some (.int rr)) σ' 38 [.ref 77, .int a1, .int a2, .int a3, .int a4, .int a5] [] σ := by
  intro n
  induction n with
  | zero => intro a1 a2 a3 a4 a5 σ  hf; cases hf
  | succ n ih => intro a1 a2 a3 a4 a5 σ  hf; exact vv_Qu_ringFrom_38_B D hD rr σ'  K18 hK18 (Qu_ringFrom_38 K18 n) ih a1 a2 a3 a4 a5 σ  hf
set_option maxHeartbeats 16000000 in
set_option maxRecDepth 20000 in
theorem vv_Qu_ringFrom_18_B (D : Nat) (hD : 1 ≤ D + 1) (rr : Int32) (σ' : gx_R) (K18 : Int32 → Int32 → Int32 → gx_R → Option (Int32 × gx_R)) (hK18 : ∀ (a1 : Int32) (a2 : Int32) (a3 : Int32) (σ : gx_R), K18 a1 a2 a3 σ = some (rr, σ') → gx_Ev lay0 (E0 D) tt_61 (some (.int rr)) σ' 18 [.ref 77, .int a1, .int a2, .int a3, .null, .null] [] σ) (a1 : Int32) (a2 : Int32) (a3 : Int32) (σ : gx_R) (hf : Qu_ringFrom_18_B K18 a1 a2 a3 σ = some (rr, σ')) : gx_Ev lay0 (E0 D) tt_61 (some (.int rr)) σ' 18 [.ref 77, .int a1, .int a2, .int a3, .null, .null] [] σ := by
  unfold Qu_ringFrom_18_B at hf
  rcases z_if_inv hf with ⟨h1, hf⟩ | ⟨h1, hf⟩
  · obtain ⟨e1, e2⟩ := z_ret hf
    subst e1
    subst e2
    exact gx_end 5 [.inl 1] [(8 : Int32) < a3] rfl ⟨h1, trivial⟩
  · rcases z_if_inv hf with ⟨h2, hf⟩ | ⟨h2, hf⟩
    · obtain ⟨e1, e2⟩ := z_ret hf
      subst e1
      subst e2
      exact gx_end 7 [.inl 0, .inl 1] [¬ ((8 : Int32) < a3), a2 = 0] rfl ⟨h1, h2, trivial⟩
    · obtain ⟨h3, hf⟩ := z_ck_inv hf
      rcases z_if_inv hf with ⟨h4, hf⟩ | ⟨h4, hf⟩
      · exact gx_go_ 18 [.inl 0, .inl 0, .inl 1] [¬ ((8 : Int32) < a3), ¬ (a2 = 0), vp_in a1 8, ((σ 78 a1.toNatClampNeg) &&& a2) = 0] 38 [.ref 77, .int a1, .int a2, .int a3, .int (0 : Int32), .int (a1 + (1 : Int32))] [] σ rfl ⟨h1, h2, (z_ix_in h3), h4, trivial⟩ (gx_fgt (ls' := [.ref 77, .int a1, .int a2, .int a3, .int (0 : Int32), .int (a1 + (1 : Int32))]) ⟨Or.inr rfl, Or.inr rfl, Or.inr rfl, Or.inr rfl, Or.inr rfl, Or.inr rfl, trivial⟩ (vv_Qu_ringFrom_38 D hD rr σ' K18 hK18 z_FU a1 a2 a3 (0 : Int32) (a1 + (1 : Int32)) σ hf))
      · obtain ⟨e1, e2⟩ := z_ret hf
        subst e1
        subst e2
        exact gx_end 14 [.inl 0, .inl 0, .inl 0] [¬ ((8 : Int32) < a3), ¬ (a2 = 0), vp_in a1 8, ¬ (((σ 78 a1.toNatClampNeg) &&& a2) = 0)] rfl ⟨h1, h2, (z_ix_in h3), h4, trivial⟩
set_option maxHeartbeats 16000000 in
set_option maxRecDepth 20000 in
theorem vv_Qu_ringFrom_18 (D : Nat) (hD : 1 ≤ D + 1) (rr : Int32) (σ' : gx_R) : ∀ (n : Nat) (a1 : Int32) (a2 : Int32) (a3 : Int32) (σ : gx_R), Qu_ringFrom_18 n a1 a2 a3 σ = some (rr, σ') → gx_Ev lay0 (E0 D) tt_61 (some (.int rr)) σ' 18 [.ref 77, .int a1, .int a2, .int a3, .null, .null] [] σ := by
  intro n
  induction n with
  | zero => intro a1 a2 a3 σ  hf; cases hf
  | succ n ih => intro a1 a2 a3 σ  hf; exact vv_Qu_ringFrom_18_B D hD rr σ'  (Qu_ringFrom_18 n) ih a1 a2 a3 σ  hf
set_option maxHeartbeats 16000000 in
set_option maxRecDepth 20000 in
theorem vv_Qu_ringFrom_12 (D : Nat) (hD : 1 ≤ D + 1) (rr : Int32) (σ' : gx_R) (a1 : Int32) (σ : gx_R) (hf : Qu_ringFrom_12 a1 σ = some (rr, σ')) : gx_Ev lay0 (E0 D) tt_61 (some (.int rr)) σ' 12 [.ref 77, .int a1, .null, .null, .null, .null] [] σ := by
  unfold Qu_ringFrom_12 at hf
  exact gx_go_ 6 [] [] 18 [.ref 77, .int a1, .int ((1 : Int32) <<< (a1 &&& 31)), .int (1 : Int32), .null, .null] [] σ rfl trivial (gx_fgt (ls' := [.ref 77, .int a1, .int ((1 : Int32) <<< (a1 &&& 31)), .int (1 : Int32), .null, .null]) ⟨Or.inr rfl, Or.inr rfl, Or.inr rfl, Or.inr rfl, Or.inl rfl, Or.inl rfl, trivial⟩ (vv_Qu_ringFrom_18 D hD rr σ' z_FU a1 ((1 : Int32) <<< (a1 &&& 31)) (1 : Int32) σ hf))
set_option maxHeartbeats 16000000 in
set_option maxRecDepth 20000 in
theorem vv_Qu_ringFrom_2_B (D : Nat) (hD : 1 ≤ D + 1) (rr : Int32) (σ' : gx_R) (K2 : Int32 → Int32 → gx_R → Option (Int32 × gx_R)) (hK2 : ∀ (a1 : Int32) (a2 : Int32) (σ : gx_R), K2 a1 a2 σ = some (rr, σ') → gx_Ev lay0 (E0 D) tt_61 (some (.int rr)) σ' 2 [.ref 77, .int a1, .int a2, .null, .null, .null] [] σ) (a1 : Int32) (a2 : Int32) (σ : gx_R) (hf : Qu_ringFrom_2_B K2 a1 a2 σ = some (rr, σ')) : gx_Ev lay0 (E0 D) tt_61 (some (.int rr)) σ' 2 [.ref 77, .int a1, .int a2, .null, .null, .null] [] σ := by
  unfold Qu_ringFrom_2_B at hf
  rcases z_if_inv hf with ⟨h1, hf⟩ | ⟨h1, hf⟩
  · exact gx_go_ 3 [.inl 1] [(8 : Int32) ≤ a2] 12 [.ref 77, .int a1, .int a2, .null, .null, .null] [] σ rfl ⟨h1, trivial⟩ (gx_fgt (ls' := [.ref 77, .int a1, .null, .null, .null, .null]) ⟨Or.inr rfl, Or.inr rfl, Or.inl rfl, Or.inl rfl, Or.inl rfl, Or.inl rfl, trivial⟩ (vv_Qu_ringFrom_12 D hD rr σ' a1 σ hf))
  · obtain ⟨h2, hf⟩ := z_ck_inv hf
    exact gx_go_ 10 [.inl 0] [¬ ((8 : Int32) ≤ a2), vp_in a2 8] 2 [.ref 77, .int a1, .int (a2 + 1), .null, .null, .null] [] (gx_up σ 79 a2.toNatClampNeg (-1 : Int32)) rfl ⟨h1, (z_ix_in h2), trivial⟩ (gx_fgt (ls' := [.ref 77, .int a1, .int (a2 + 1), .null, .null, .null]) ⟨Or.inr rfl, Or.inr rfl, Or.inr rfl, Or.inl rfl, Or.inl rfl, Or.inl rfl, trivial⟩ (hK2 a1 (a2 + 1) (gx_up σ 79 a2.toNatClampNeg (-1 : Int32)) hf))
set_option maxHeartbeats 16000000 in
set_option maxRecDepth 20000 in
theorem vv_Qu_ringFrom_2 (D : Nat) (hD : 1 ≤ D + 1) (rr : Int32) (σ' : gx_R) : ∀ (n : Nat) (a1 : Int32) (a2 : Int32) (σ : gx_R), Qu_ringFrom_2 n a1 a2 σ = some (rr, σ') → gx_Ev lay0 (E0 D) tt_61 (some (.int rr)) σ' 2 [.ref 77, .int a1, .int a2, .null, .null, .null] [] σ := by
  intro n
  induction n with
  | zero => intro a1 a2 σ  hf; cases hf
  | succ n ih => intro a1 a2 σ  hf; exact vv_Qu_ringFrom_2_B D hD rr σ'  (Qu_ringFrom_2 n) ih a1 a2 σ  hf
set_option maxHeartbeats 16000000 in
set_option maxRecDepth 20000 in
theorem vv_Qu_ringFrom_E (D : Nat) (hD : 1 ≤ D + 1) (rr : Int32) (σ' : gx_R) (a1 : Int32) (σ : gx_R) (hf : Qu_ringFrom a1 σ = some (rr, σ')) : gx_Ev lay0 (E0 D) tt_61 (some (.int rr)) σ' 0 [.ref 77, .int a1, .null, .null, .null, .null] [] σ := by
  unfold Qu_ringFrom at hf
  exact gx_go_ 2 [] [] 2 [.ref 77, .int a1, .int (0 : Int32), .null, .null, .null] [] σ rfl trivial (gx_fgt (ls' := [.ref 77, .int a1, .int (0 : Int32), .null, .null, .null]) ⟨Or.inr rfl, Or.inr rfl, Or.inr rfl, Or.inl rfl, Or.inl rfl, Or.inl rfl, trivial⟩ (vv_Qu_ringFrom_2 D hD rr σ' z_FU a1 (0 : Int32) σ hf))
set_option maxHeartbeats 16000000 in
set_option maxRecDepth 20000 in
theorem ww_Qu_ringFrom (D : Nat) (hD : 1 ≤ D) (a1 : Int32) (σ : gx_R) (rr : Int32) (σ' : gx_R) (hf : Qu_ringFrom a1 σ = some (rr, σ')) : E0 D 61 [.ref 77, .int a1] σ (some (.int rr)) σ' := by
  cases D with
  | zero => omega
  | succ D => exact Or.inl ⟨Nat.le_of_ble_eq_true rfl, vv_Qu_ringFrom_E D hD rr σ' a1 σ hf⟩
set_option maxHeartbeats 16000000 in
set_option maxRecDepth 20000 in
theorem vv_Qu_nextInRing_23 (D : Nat) (hD : 1 ≤ D + 1) (rr : Int32) (σ' : gx_R) (K2 : Int32 → Int32 → Int32 → gx_R → Option (Int32 × gx_R)) (hK2 : ∀ (a1 : Int32) (a2 : Int32) (a3 : Int32) (σ : gx_R), K2 a1 a2 a3 σ = some (rr, σ') → gx_Ev lay0 (E0 D) tt_63 (some (.int rr)) σ' 2 [.ref 77, .int a1, .int a2, .int a3] [] σ) (a1 : Int32) (a2 : Int32) (a3 : Int32) (σ : gx_R) (hf : Qu_nextInRing_23 K2 a1 a2 a3 σ = some (rr, σ')) : gx_Ev lay0 (E0 D) tt_63 (some (.int rr)) σ' 23 [.ref 77, .int a1, .int a2, .int a3] [] σ := by
  unfold Qu_nextInRing_23 at hf
  exact gx_go_ 2 [] [] 2 [.ref 77, .int a1, .int a2, .int (a3 + 1)] [] σ rfl trivial (gx_fgt (ls' := [.ref 77, .int a1, .int a2, .int (a3 + 1)]) ⟨Or.inr rfl, Or.inr rfl, Or.inr rfl, Or.inr rfl, trivial⟩ (hK2 a1 a2 (a3 + 1) σ hf))
set_option maxHeartbeats 16000000 in
set_option maxRecDepth 20000 in
theorem vv_Qu_nextInRing_2_B (D : Nat) (hD : 1 ≤ D + 1) (rr : Int32) (σ' : gx_R) (K2 : Int32 → Int32 → Int32 → gx_R → Option (Int32 × gx_R)) (hK2 : ∀ (a1 : Int32) (a2 : Int32) (a3 : Int32) (σ : gx_R), K2 a1 a2 a3 σ = some (rr, σ') → gx_Ev lay0 (E0 D) tt_63 (some (.int rr)) σ' 2 [.ref 77, .int a1, .int a2, .int a3] [] σ) (a1 : Int32) (a2 : Int32) (a3 : Int32) (σ : gx_R) (hf : Qu_nextInRing_2_B K2 a1 a2 a3 σ = some (rr, σ')) : gx_Ev lay0 (E0 D) tt_63 (some (.int rr)) σ' 2 [.ref 77, .int a1, .int a2, .int a3] [] σ := by
  unfold Qu_nextInRing_2_B at hf
  rcases z_if_inv hf with ⟨h1, hf⟩ | ⟨h1, hf⟩
  · obtain ⟨e1, e2⟩ := z_ret hf
    subst e1
    subst e2
    exact gx_end 5 [.inl 1] [(8 : Int32) ≤ a3] rfl ⟨h1, trivial⟩
  · obtain ⟨h2, hf⟩ := z_ck_inv hf
    rcases z_if_inv hf with ⟨h3, hf⟩ | ⟨h3, hf⟩
    · obtain ⟨h4, hf⟩ := z_ck_inv hf
      rcases z_if_inv hf with ⟨h5, hf⟩ | ⟨h5, hf⟩
      · obtain ⟨e1, e2⟩ := z_ret hf
        subst e1
        subst e2
        exact gx_end 21 [.inl 0, .inl 0, .inl 0] [¬ ((8 : Int32) ≤ a3), vp_in a1 8, ¬ ¬ ((((σ 78 a1.toNatClampNeg) >>> (a3 &&& 31)) &&& (1 : Int32)) = (1 : Int32)), vp_in a3 8, ¬ ¬ ((σ 79 a3.toNatClampNeg) = a2)] rfl ⟨h1, (z_ix_in h2), (fun q => q h3), (z_ix_in h4), (fun q => q h5), trivial⟩
      · exact gx_go_ 19 [.inl 0, .inl 0, .inl 1] [¬ ((8 : Int32) ≤ a3), vp_in a1 8, ¬ ¬ ((((σ 78 a1.toNatClampNeg) >>> (a3 &&& 31)) &&& (1 : Int32)) = (1 : Int32)), vp_in a3 8, ¬ ((σ 79 a3.toNatClampNeg) = a2)] 23 [.ref 77, .int a1, .int a2, .int a3] [] σ rfl ⟨h1, (z_ix_in h2), (fun q => q h3), (z_ix_in h4), h5, trivial⟩ (gx_fgt (ls' := [.ref 77, .int a1, .int a2, .int a3]) ⟨Or.inr rfl, Or.inr rfl, Or.inr rfl, Or.inr rfl, trivial⟩ (vv_Qu_nextInRing_23 D hD rr σ' K2 hK2 a1 a2 a3 σ hf))
    · exact gx_go_ 13 [.inl 0, .inl 1] [¬ ((8 : Int32) ≤ a3), vp_in a1 8, ¬ ((((σ 78 a1.toNatClampNeg) >>> (a3 &&& 31)) &&& (1 : Int32)) = (1 : Int32))] 23 [.ref 77, .int a1, .int a2, .int a3] [] σ rfl ⟨h1, (z_ix_in h2), h3, trivial⟩ (gx_fgt (ls' := [.ref 77, .int a1, .int a2, .int a3]) ⟨Or.inr rfl, Or.inr rfl, Or.inr rfl, Or.inr rfl, trivial⟩ (vv_Qu_nextInRing_23 D hD rr σ' K2 hK2 a1 a2 a3 σ hf))
set_option maxHeartbeats 16000000 in
set_option maxRecDepth 20000 in
theorem vv_Qu_nextInRing_2 (D : Nat) (hD : 1 ≤ D + 1) (rr : Int32) (σ' : gx_R) : ∀ (n : Nat) (a1 : Int32) (a2 : Int32) (a3 : Int32) (σ : gx_R), Qu_nextInRing_2 n a1 a2 a3 σ = some (rr, σ') → gx_Ev lay0 (E0 D) tt_63 (some (.int rr)) σ' 2 [.ref 77, .int a1, .int a2, .int a3] [] σ := by
  intro n
  induction n with
  | zero => intro a1 a2 a3 σ  hf; cases hf
  | succ n ih => intro a1 a2 a3 σ  hf; exact vv_Qu_nextInRing_2_B D hD rr σ'  (Qu_nextInRing_2 n) ih a1 a2 a3 σ  hf
set_option maxHeartbeats 16000000 in
set_option maxRecDepth 20000 in
theorem vv_Qu_nextInRing_E (D : Nat) (hD : 1 ≤ D + 1) (rr : Int32) (σ' : gx_R) (a1 : Int32) (a2 : Int32) (σ : gx_R) (hf : Qu_nextInRing a1 a2 σ = some (rr, σ')) : gx_Ev lay0 (E0 D) tt_63 (some (.int rr)) σ' 0 [.ref 77, .int a1, .int a2, .null] [] σ := by
  unfold Qu_nextInRing at hf
  exact gx_go_ 2 [] [] 2 [.ref 77, .int a1, .int a2, .int (0 : Int32)] [] σ rfl trivial (gx_fgt (ls' := [.ref 77, .int a1, .int a2, .int (0 : Int32)]) ⟨Or.inr rfl, Or.inr rfl, Or.inr rfl, Or.inr rfl, trivial⟩ (vv_Qu_nextInRing_2 D hD rr σ' z_FU a1 a2 (0 : Int32) σ hf))
set_option maxHeartbeats 16000000 in
set_option maxRecDepth 20000 in
theorem ww_Qu_nextInRing (D : Nat) (hD : 1 ≤ D) (a1 : Int32) (a2 : Int32) (σ : gx_R) (rr : Int32) (σ' : gx_R) (hf : Qu_nextInRing a1 a2 σ = some (rr, σ')) : E0 D 63 [.ref 77, .int a1, .int a2] σ (some (.int rr)) σ' := by
  cases D with
  | zero => omega
  | succ D => exact Or.inl ⟨Nat.le_of_ble_eq_true rfl, vv_Qu_nextInRing_E D hD rr σ' a1 a2 σ hf⟩
set_option maxHeartbeats 16000000 in
set_option maxRecDepth 20000 in
theorem vv_Qu_alongRing_29 (D : Nat) (hD : 2 ≤ D + 1) (rr : Int32) (σ' : gx_R) (K6 : Int32 → Int32 → Int32 → Int32 → Int32 → Int32 → gx_R → Option (Int32 × gx_R)) (hK6 : ∀ (a1 : Int32) (a2 : Int32) (a3 : Int32) (a4 : Int32) (a5 : Int32) (a6 : Int32) (σ : gx_R), K6 a1 a2 a3 a4 a5 a6 σ = some (rr, σ') → gx_Ev lay0 (E0 D) tt_62 (some (.int rr)) σ' 6 [.ref 77, .int a1, .int a2, .int a3, .int a4, .int a5, .int a6, .null] [] σ) (a1 : Int32) (a2 : Int32) (a3 : Int32) (a4 : Int32) (a5 : Int32) (a6 : Int32) (s0 : Int32) (σ : gx_R) (hf : Qu_alongRing_29 K6 a1 a2 a3 a4 a5 a6 s0 σ = some (rr, σ')) : gx_Ev lay0 (E0 D) tt_62 (some (.int rr)) σ' 29 [.ref 77, .int a1, .int a2, .int a3, .int a4, .int a5, .int a6, .null] [.int s0] σ := by
  unfold Qu_alongRing_29 at hf
  rcases z_if_inv hf with ⟨h1, hf⟩ | ⟨h1, hf⟩
  · obtain ⟨e1, e2⟩ := z_ret hf
    subst e1
    subst e2
    exact gx_end 6 [.inl 0] [¬ ¬ (s0 = (-1 : Int32))] rfl ⟨(fun q => q h1), trivial⟩
  · obtain ⟨h2, hf⟩ := z_ck_inv hf
    exact gx_go_ 21 [.inl 1] [¬ (s0 = (-1 : Int32)), vp_in ((a5 * (8 : Int32)) + s0) 64] 6 [.ref 77, .int a1, .int a2, .int a3, .int (if (σ 14 (((a5 * (8 : Int32)) + s0).toNatClampNeg)) < a4 then (σ 14 (((a5 * (8 : Int32)) + s0).toNatClampNeg)) else a4), .int s0, .int (a6 + 1), .int s0] [] σ rfl ⟨h1, (z_ix_in h2), trivial⟩ (gx_fgt (ls' := [.ref 77, .int a1, .int a2, .int a3, .int (if (σ 14 (((a5 * (8 : Int32)) + s0).toNatClampNeg)) < a4 then (σ 14 (((a5 * (8 : Int32)) + s0).toNatClampNeg)) else a4), .int s0, .int (a6 + 1), .null]) ⟨Or.inr rfl, Or.inr rfl, Or.inr rfl, Or.inr rfl, Or.inr rfl, Or.inr rfl, Or.inr rfl, Or.inl rfl, trivial⟩ (hK6 a1 a2 a3 (if (σ 14 (((a5 * (8 : Int32)) + s0).toNatClampNeg)) < a4 then (σ 14 (((a5 * (8 : Int32)) + s0).toNatClampNeg)) else a4) s0 (a6 + 1) σ hf))
set_option maxHeartbeats 16000000 in
set_option maxRecDepth 20000 in
theorem vv_Qu_alongRing_6_B (D : Nat) (hD : 2 ≤ D + 1) (rr : Int32) (σ' : gx_R) (K6 : Int32 → Int32 → Int32 → Int32 → Int32 → Int32 → gx_R → Option (Int32 × gx_R)) (hK6 : ∀ (a1 : Int32) (a2 : Int32) (a3 : Int32) (a4 : Int32) (a5 : Int32) (a6 : Int32) (σ : gx_R), K6 a1 a2 a3 a4 a5 a6 σ = some (rr, σ') → gx_Ev lay0 (E0 D) tt_62 (some (.int rr)) σ' 6 [.ref 77, .int a1, .int a2, .int a3, .int a4, .int a5, .int a6, .null] [] σ) (a1 : Int32) (a2 : Int32) (a3 : Int32) (a4 : Int32) (a5 : Int32) (a6 : Int32) (σ : gx_R) (hf : Qu_alongRing_6_B K6 a1 a2 a3 a4 a5 a6 σ = some (rr, σ')) : gx_Ev lay0 (E0 D) tt_62 (some (.int rr)) σ' 6 [.ref 77, .int a1, .int a2, .int a3, .int a4, .int a5, .int a6, .null] [] σ := by
  unfold Qu_alongRing_6_B at hf
  rcases z_if_inv hf with ⟨h1, hf⟩ | ⟨h1, hf⟩
  · obtain ⟨e1, e2⟩ := z_ret hf
    subst e1
    subst e2
    exact gx_end 5 [.inl 1] [a2 ≤ a6] rfl ⟨h1, trivial⟩
  · rcases z_if_inv hf with ⟨h2, hf⟩ | ⟨h2, hf⟩
    · obtain ⟨e1, e2⟩ := z_ret hf
      subst e1
      subst e2
      exact gx_end 8 [.inl 0, .inl 0] [¬ (a2 ≤ a6), ¬ ¬ (a6 = a3)] rfl ⟨h1, (fun q => q h2), trivial⟩
    · rcases z_if_inv hf with ⟨h3, hf⟩ | ⟨h3, hf⟩
      · exact gx_go_ 13 [.inl 0, .inl 1, .inl 0] [¬ (a2 ≤ a6), ¬ (a6 = a3), ¬ ¬ (a6 = (a2 - (1 : Int32)))] 29 [.ref 77, .int a1, .int a2, .int a3, .int a4, .int a5, .int a6, .null] [.int a1] σ rfl ⟨h1, h2, (fun q => q h3), trivial⟩ (gx_fgt (ls' := [.ref 77, .int a1, .int a2, .int a3, .int a4, .int a5, .int a6, .null]) ⟨Or.inr rfl, Or.inr rfl, Or.inr rfl, Or.inr rfl, Or.inr rfl, Or.inr rfl, Or.inr rfl, Or.inl rfl, trivial⟩ (vv_Qu_alongRing_29 D hD rr σ' K6 hK6 a1 a2 a3 a4 a5 a6 a1 σ hf))
      · obtain ⟨r4, σ5, h6, hf⟩ := z_bd_inv hf
        exact gx_go_ 19 [.inl 0, .inl 1, .inl 1, .inr (some (.int r4), σ5)] [¬ (a2 ≤ a6), ¬ (a6 = a3), ¬ (a6 = (a2 - (1 : Int32))), E0 D 63 [.ref 77, .int a5, .int ((a2 - (1 : Int32)) - a6)] σ (some (.int r4)) σ5] 29 [.ref 77, .int a1, .int a2, .int a3, .int a4, .int a5, .int a6, .null] [.int r4] σ5 rfl ⟨h1, h2, h3, (ww_Qu_nextInRing D (by omega) a5 ((a2 - (1 : Int32)) - a6) σ r4 σ5 h6), trivial⟩ (gx_fgt (ls' := [.ref 77, .int a1, .int a2, .int a3, .int a4, .int a5, .int a6, .null]) ⟨Or.inr rfl, Or.inr rfl, Or.inr rfl, Or.inr rfl, Or.inr rfl, Or.inr rfl, Or.inr rfl, Or.inl rfl, trivial⟩ (vv_Qu_alongRing_29 D hD rr σ' K6 hK6 a1 a2 a3 a4 a5 a6 r4 σ5 hf))
set_option maxHeartbeats 16000000 in
set_option maxRecDepth 20000 in
theorem vv_Qu_alongRing_6 (D : Nat) (hD : 2 ≤ D + 1) (rr : Int32) (σ' : gx_R) : ∀ (n : Nat) (a1 : Int32) (a2 : Int32) (a3 : Int32) (a4 : Int32) (a5 : Int32) (a6 : Int32) (σ : gx_R), Qu_alongRing_6 n a1 a2 a3 a4 a5 a6 σ = some (rr, σ') → gx_Ev lay0 (E0 D) tt_62 (some (.int rr)) σ' 6 [.ref 77, .int a1, .int a2, .int a3, .int a4, .int a5, .int a6, .null] [] σ := by
  intro n
  induction n with
  | zero => intro a1 a2 a3 a4 a5 a6 σ  hf; cases hf
  | succ n ih => intro a1 a2 a3 a4 a5 a6 σ  hf; exact vv_Qu_alongRing_6_B D hD rr σ'  (Qu_alongRing_6 n) ih a1 a2 a3 a4 a5 a6 σ  hf
set_option maxHeartbeats 16000000 in
set_option maxRecDepth 20000 in
theorem vv_Qu_alongRing_E (D : Nat) (hD : 2 ≤ D + 1) (rr : Int32) (σ' : gx_R) (a1 : Int32) (a2 : Int32) (a3 : Int32) (σ : gx_R) (hf : Qu_alongRing a1 a2 a3 σ = some (rr, σ')) : gx_Ev lay0 (E0 D) tt_62 (some (.int rr)) σ' 0 [.ref 77, .int a1, .int a2, .int a3, .null, .null, .null, .null] [] σ := by
  unfold Qu_alongRing at hf
  exact gx_go_ 6 [] [] 6 [.ref 77, .int a1, .int a2, .int a3, .int (99 : Int32), .int a1, .int (0 : Int32), .null] [] σ rfl trivial (gx_fgt (ls' := [.ref 77, .int a1, .int a2, .int a3, .int (99 : Int32), .int a1, .int (0 : Int32), .null]) ⟨Or.inr rfl, Or.inr rfl, Or.inr rfl, Or.inr rfl, Or.inr rfl, Or.inr rfl, Or.inr rfl, Or.inl rfl, trivial⟩ (vv_Qu_alongRing_6 D hD rr σ' z_FU a1 a2 a3 (99 : Int32) a1 (0 : Int32) σ hf))
set_option maxHeartbeats 16000000 in
set_option maxRecDepth 20000 in
theorem ww_Qu_alongRing (D : Nat) (hD : 2 ≤ D) (a1 : Int32) (a2 : Int32) (a3 : Int32) (σ : gx_R) (rr : Int32) (σ' : gx_R) (hf : Qu_alongRing a1 a2 a3 σ = some (rr, σ')) : E0 D 62 [.ref 77, .int a1, .int a2, .int a3] σ (some (.int rr)) σ' := by
  cases D with
  | zero => omega
  | succ D => exact Or.inl ⟨Nat.le_of_ble_eq_true rfl, vv_Qu_alongRing_E D hD rr σ' a1 a2 a3 σ hf⟩
set_option maxHeartbeats 16000000 in
set_option maxRecDepth 20000 in
theorem vv_Qu_ofRing_25 (D : Nat) (hD : 3 ≤ D + 1) (rr : Int32) (σ' : gx_R) (K8 : Int32 → Int32 → Int32 → Int32 → gx_R → Option (Int32 × gx_R)) (hK8 : ∀ (a1 : Int32) (a2 : Int32) (a3 : Int32) (a4 : Int32) (σ : gx_R), K8 a1 a2 a3 a4 σ = some (rr, σ') → gx_Ev lay0 (E0 D) tt_59 (some (.int rr)) σ' 8 [.ref 77, .int a1, .int a2, .int a3, .int a4, .null] [] σ) (a1 : Int32) (a2 : Int32) (a3 : Int32) (a4 : Int32) (σ : gx_R) (hf : Qu_ofRing_25 K8 a1 a2 a3 a4 σ = some (rr, σ')) : gx_Ev lay0 (E0 D) tt_59 (some (.int rr)) σ' 25 [.ref 77, .int a1, .int a2, .int a3, .int a4, .null] [] σ := by
  unfold Qu_ofRing_25 at hf
  exact gx_go_ 2 [] [] 8 [.ref 77, .int a1, .int a2, .int a3, .int (a4 + 1), .null] [] σ rfl trivial (gx_fgt (ls' := [.ref 77, .int a1, .int a2, .int a3, .int (a4 + 1), .null]) ⟨Or.inr rfl, Or.inr rfl, Or.inr rfl, Or.inr rfl, Or.inr rfl, Or.inl rfl, trivial⟩ (hK8 a1 a2 a3 (a4 + 1) σ hf))
set_option maxHeartbeats 16000000 in
set_option maxRecDepth 20000 in
theorem vv_Qu_ofRing_33 (D : Nat) (hD : 3 ≤ D + 1) (rr : Int32) (σ' : gx_R) (a2 : Int32) (a3 : Int32) (σ : gx_R) (hf : Qu_ofRing_33 a2 a3 σ = some (rr, σ')) : gx_Ev lay0 (E0 D) tt_59 (some (.int rr)) σ' 33 [.null, .null, .int a2, .int a3, .null, .null] [] σ := by
  unfold Qu_ofRing_33 at hf
  rcases z_if_inv hf with ⟨h1, hf⟩ | ⟨h1, hf⟩
  · obtain ⟨e1, e2⟩ := z_ret hf
    subst e1
    subst e2
    exact gx_end 6 [.inl 0] [¬ ¬ (a2 = (-1 : Int32))] rfl ⟨(fun q => q h1), trivial⟩
  · obtain ⟨e1, e2⟩ := z_ret hf
    subst e1
    subst e2
    exact gx_end 5 [.inl 1] [¬ (a2 = (-1 : Int32))] rfl ⟨h1, trivial⟩
set_option maxHeartbeats 16000000 in
set_option maxRecDepth 20000 in
theorem vv_Qu_ofRing_27 (D : Nat) (hD : 3 ≤ D + 1) (rr : Int32) (σ' : gx_R) (a1 : Int32) (a2 : Int32) (a3 : Int32) (σ : gx_R) (hf : Qu_ofRing_27 a1 a2 a3 σ = some (rr, σ')) : gx_Ev lay0 (E0 D) tt_59 (some (.int rr)) σ' 27 [.ref 77, .int a1, .int a2, .int a3, .null, .null] [] σ := by
  unfold Qu_ofRing_27 at hf
  rcases z_if_inv hf with ⟨h1, hf⟩ | ⟨h1, hf⟩
  · exact gx_go_ 3 [.inl 1] [a2 = (-1 : Int32)] 33 [.ref 77, .int a1, .int a2, .int a3, .null, .null] [] σ rfl ⟨h1, trivial⟩ (gx_fgt (ls' := [.null, .null, .int a2, .int a3, .null, .null]) ⟨Or.inl rfl, Or.inl rfl, Or.inr rfl, Or.inr rfl, Or.inl rfl, Or.inl rfl, trivial⟩ (vv_Qu_ofRing_33 D hD rr σ' a2 a3 σ hf))
  · rcases z_if_inv hf with ⟨h2, hf⟩ | ⟨h2, hf⟩
    · exact gx_go_ 6 [.inl 0, .inl 0] [¬ (a2 = (-1 : Int32)), ¬ ¬ (a1 = (-1 : Int32))] 33 [.ref 77, .int a1, .int a2, .int a3, .null, .null] [] σ rfl ⟨h1, (fun q => q h2), trivial⟩ (gx_fgt (ls' := [.null, .null, .int a2, .int a3, .null, .null]) ⟨Or.inl rfl, Or.inl rfl, Or.inr rfl, Or.inr rfl, Or.inl rfl, Or.inl rfl, trivial⟩ (vv_Qu_ofRing_33 D hD rr σ' a2 a3 σ hf))
    · obtain ⟨r3, σ4, h5, hf⟩ := z_bd_inv hf
      rcases z_if_inv hf with ⟨h6, hf⟩ | ⟨h6, hf⟩
      · obtain ⟨e1, e2⟩ := z_ret hf
        subst e1
        subst e2
        exact gx_end 15 [.inl 0, .inl 1, .inr (some (.int r3), σ4), .inl 1] [¬ (a2 = (-1 : Int32)), ¬ (a1 = (-1 : Int32)), E0 D 61 [.ref 77, .int a2] σ (some (.int r3)) σ4, a3 ≤ a1] rfl ⟨h1, h2, (ww_Qu_ringFrom D (by omega) a2 σ r3 σ4 h5), h6, trivial⟩
      · obtain ⟨r7, σ8, h9, hf⟩ := z_bd_inv hf
        obtain ⟨e1, e2⟩ := z_ret hf
        subst e1
        subst e2
        exact gx_end 20 [.inl 0, .inl 1, .inr (some (.int r3), σ4), .inl 0, .inr (some (.int r7), σ8)] [¬ (a2 = (-1 : Int32)), ¬ (a1 = (-1 : Int32)), E0 D 61 [.ref 77, .int a2] σ (some (.int r3)) σ4, ¬ (a3 ≤ a1), E0 D 62 [.ref 77, .int a2, .int a3, .int a1] σ4 (some (.int r7)) σ8] rfl ⟨h1, h2, (ww_Qu_ringFrom D (by omega) a2 σ r3 σ4 h5), h6, (ww_Qu_alongRing D (by omega) a2 a3 a1 σ4 r7 σ8 h9), trivial⟩
set_option maxHeartbeats 16000000 in
set_option maxRecDepth 20000 in
theorem vv_Qu_ofRing_8_B (D : Nat) (hD : 3 ≤ D + 1) (rr : Int32) (σ' : gx_R) (K8 : Int32 → Int32 → Int32 → Int32 → gx_R → Option (Int32 × gx_R)) (hK8 : ∀ (a1 : Int32) (a2 : Int32) (a3 : Int32) (a4 : Int32) (σ : gx_R), K8 a1 a2 a3 a4 σ = some (rr, σ') → gx_Ev lay0 (E0 D) tt_59 (some (.int rr)) σ' 8 [.ref 77, .int a1, .int a2, .int a3, .int a4, .null] [] σ) (a1 : Int32) (a2 : Int32) (a3 : Int32) (a4 : Int32) (σ : gx_R) (hf : Qu_ofRing_8_B K8 a1 a2 a3 a4 σ = some (rr, σ')) : gx_Ev lay0 (E0 D) tt_59 (some (.int rr)) σ' 8 [.ref 77, .int a1, .int a2, .int a3, .int a4, .null] [] σ := by
  unfold Qu_ofRing_8_B at hf
  rcases z_if_inv hf with ⟨h1, hf⟩ | ⟨h1, hf⟩
  · exact gx_go_ 3 [.inl 1] [(8 : Int32) ≤ a4] 27 [.ref 77, .int a1, .int a2, .int a3, .int a4, .null] [] σ rfl ⟨h1, trivial⟩ (gx_fgt (ls' := [.ref 77, .int a1, .int a2, .int a3, .null, .null]) ⟨Or.inr rfl, Or.inr rfl, Or.inr rfl, Or.inr rfl, Or.inl rfl, Or.inl rfl, trivial⟩ (vv_Qu_ofRing_27 D hD rr σ' a1 a2 a3 σ hf))
  · obtain ⟨r2, σ3, h4, hf⟩ := z_bd_inv hf
    rcases z_if_inv hf with ⟨h5, hf⟩ | ⟨h5, hf⟩
    · exact gx_go_ 10 [.inl 0, .inr (some (.int r2), σ3), .inl 1] [¬ ((8 : Int32) ≤ a4), E0 D 61 [.ref 77, .int a4] σ (some (.int r2)) σ3, r2 = (-1 : Int32)] 25 [.ref 77, .int a1, .int a2, .int a3, .int a4, .int r2] [] σ3 rfl ⟨h1, (ww_Qu_ringFrom D (by omega) a4 σ r2 σ3 h4), h5, trivial⟩ (gx_fgt (ls' := [.ref 77, .int a1, .int a2, .int a3, .int a4, .null]) ⟨Or.inr rfl, Or.inr rfl, Or.inr rfl, Or.inr rfl, Or.inr rfl, Or.inl rfl, trivial⟩ (vv_Qu_ofRing_25 D hD rr σ' K8 hK8 a1 a2 a3 a4 σ3 hf))
    · rcases z_if_inv hf with ⟨h6, hf⟩ | ⟨h6, hf⟩
      · exact gx_go_ 13 [.inl 0, .inr (some (.int r2), σ3), .inl 0, .inl 1] [¬ ((8 : Int32) ≤ a4), E0 D 61 [.ref 77, .int a4] σ (some (.int r2)) σ3, ¬ (r2 = (-1 : Int32)), a3 ≤ r2] 25 [.ref 77, .int a1, .int a2, .int a3, .int a4, .int r2] [] σ3 rfl ⟨h1, (ww_Qu_ringFrom D (by omega) a4 σ r2 σ3 h4), h5, h6, trivial⟩ (gx_fgt (ls' := [.ref 77, .int a1, .int a2, .int a3, .int a4, .null]) ⟨Or.inr rfl, Or.inr rfl, Or.inr rfl, Or.inr rfl, Or.inr rfl, Or.inl rfl, trivial⟩ (vv_Qu_ofRing_25 D hD rr σ' K8 hK8 a1 a2 a3 a4 σ3 hf))
      · exact gx_go_ 17 [.inl 0, .inr (some (.int r2), σ3), .inl 0, .inl 0] [¬ ((8 : Int32) ≤ a4), E0 D 61 [.ref 77, .int a4] σ (some (.int r2)) σ3, ¬ (r2 = (-1 : Int32)), ¬ (a3 ≤ r2)] 25 [.ref 77, .int a1, .int a4, .int r2, .int a4, .int r2] [] σ3 rfl ⟨h1, (ww_Qu_ringFrom D (by omega) a4 σ r2 σ3 h4), h5, h6, trivial⟩ (gx_fgt (ls' := [.ref 77, .int a1, .int a4, .int r2, .int a4, .null]) ⟨Or.inr rfl, Or.inr rfl, Or.inr rfl, Or.inr rfl, Or.inr rfl, Or.inl rfl, trivial⟩ (vv_Qu_ofRing_25 D hD rr σ' K8 hK8 a1 a4 r2 a4 σ3 hf))
set_option maxHeartbeats 16000000 in
set_option maxRecDepth 20000 in
theorem vv_Qu_ofRing_8 (D : Nat) (hD : 3 ≤ D + 1) (rr : Int32) (σ' : gx_R) : ∀ (n : Nat) (a1 : Int32) (a2 : Int32) (a3 : Int32) (a4 : Int32) (σ : gx_R), Qu_ofRing_8 n a1 a2 a3 a4 σ = some (rr, σ') → gx_Ev lay0 (E0 D) tt_59 (some (.int rr)) σ' 8 [.ref 77, .int a1, .int a2, .int a3, .int a4, .null] [] σ := by
  intro n
  induction n with
  | zero => intro a1 a2 a3 a4 σ  hf; cases hf
  | succ n ih => intro a1 a2 a3 a4 σ  hf; exact vv_Qu_ofRing_8_B D hD rr σ'  (Qu_ofRing_8 n) ih a1 a2 a3 a4 σ  hf
set_option maxHeartbeats 16000000 in
set_option maxRecDepth 20000 in
theorem vv_Qu_ofRing_E (D : Nat) (hD : 3 ≤ D + 1) (rr : Int32) (σ' : gx_R) (a1 : Int32) (σ : gx_R) (hf : Qu_ofRing a1 σ = some (rr, σ')) : gx_Ev lay0 (E0 D) tt_59 (some (.int rr)) σ' 0 [.ref 77, .int a1, .null, .null, .null, .null] [] σ := by
  unfold Qu_ofRing at hf
  obtain ⟨⟨⟩, σ2, h3, hf⟩ := z_bd_inv hf
  exact gx_go_ 8 [.inr (none, σ2)] [E0 D 60 [.ref 77] σ (none) σ2] 8 [.ref 77, .int a1, .int (-1 : Int32), .int (9 : Int32), .int (0 : Int32), .null] [] σ2 rfl ⟨(ww_Qu_listDebts D (by omega) σ () σ2 h3), trivial⟩ (gx_fgt (ls' := [.ref 77, .int a1, .int (-1 : Int32), .int (9 : Int32), .int (0 : Int32), .null]) ⟨Or.inr rfl, Or.inr rfl, Or.inr rfl, Or.inr rfl, Or.inr rfl, Or.inl rfl, trivial⟩ (vv_Qu_ofRing_8 D hD rr σ' z_FU a1 (-1 : Int32) (9 : Int32) (0 : Int32) σ2 hf))
set_option maxHeartbeats 16000000 in
set_option maxRecDepth 20000 in
theorem ww_Qu_ofRing (D : Nat) (hD : 3 ≤ D) (a1 : Int32) (σ : gx_R) (rr : Int32) (σ' : gx_R) (hf : Qu_ofRing a1 σ = some (rr, σ')) : E0 D 59 [.ref 77, .int a1] σ (some (.int rr)) σ' := by
  cases D with
  | zero => omega
  | succ D => exact Or.inl ⟨Nat.le_of_ble_eq_true rfl, vv_Qu_ofRing_E D hD rr σ' a1 σ hf⟩
set_option maxHeartbeats 16000000 in
set_option maxRecDepth 20000 in
theorem vv_Qu_weighDreamless_26 (D : Nat) (hD : 5 ≤ D + 1) (rr : Unit) (σ' : gx_R) (K2 : Int32 → gx_R → Option (Unit × gx_R)) (hK2 : ∀ (a1 : Int32) (σ : gx_R), K2 a1 σ = some (rr, σ') → gx_Ev lay0 (E0 D) tt_64 none σ' 2 [.ref 77, .int a1] [] σ) (a1 : Int32) (s1 : Int32) (s2 : Int32) (σ : gx_R) (hf : Qu_weighDreamless_26 K2 a1 s1 s2 σ = some (rr, σ')) : gx_Ev lay0 (E0 D) tt_64 none σ' 26 [.ref 77, .int a1] [.int s2, .int s1, .ref 80] σ := by
  unfold Qu_weighDreamless_26 at hf
  obtain ⟨h1, hf⟩ := z_ck_inv hf
  exact gx_go_ 3 [] [vp_in s1 8] 2 [.ref 77, .int (a1 + 1)] [] (gx_up σ 80 s1.toNatClampNeg s2) rfl ⟨(z_ix_in h1), trivial⟩ (gx_fgt (ls' := [.ref 77, .int (a1 + 1)]) ⟨Or.inr rfl, Or.inr rfl, trivial⟩ (hK2 (a1 + 1) (gx_up σ 80 s1.toNatClampNeg s2) hf))
set_option maxHeartbeats 16000000 in
set_option maxRecDepth 20000 in
theorem vv_Qu_weighDreamless_2_B (D : Nat) (hD : 5 ≤ D + 1) (rr : Unit) (σ' : gx_R) (K2 : Int32 → gx_R → Option (Unit × gx_R)) (hK2 : ∀ (a1 : Int32) (σ : gx_R), K2 a1 σ = some (rr, σ') → gx_Ev lay0 (E0 D) tt_64 none σ' 2 [.ref 77, .int a1] [] σ) (a1 : Int32) (σ : gx_R) (hf : Qu_weighDreamless_2_B K2 a1 σ = some (rr, σ')) : gx_Ev lay0 (E0 D) tt_64 none σ' 2 [.ref 77, .int a1] [] σ := by
  unfold Qu_weighDreamless_2_B at hf
  rcases z_if_inv hf with ⟨h1, hf⟩ | ⟨h1, hf⟩
  · obtain ⟨e1, e2⟩ := z_ret hf
    subst e1
    subst e2
    exact gx_end 4 [.inl 1] [(8 : Int32) ≤ a1] rfl ⟨h1, trivial⟩
  · obtain ⟨h2, hf⟩ := z_ck_inv hf
    rcases z_if_inv hf with ⟨h3, hf⟩ | ⟨h3, hf⟩
    · obtain ⟨r4, σ5, h6, hf⟩ := z_bd_inv hf
      exact gx_go_ 23 [.inl 0, .inl 0, .inr (some (.int r4), σ5)] [¬ ((8 : Int32) ≤ a1), vp_in a1 8, ¬ ¬ ((σ 10 a1.toNatClampNeg) = (2 : Int32)), E0 D 28 [.ref 50, .ref 9, .int a1, .int (0 : Int32)] σ (some (.int r4)) σ5] 26 [.ref 77, .int a1] [.int r4, .int a1, .ref 80] σ5 rfl ⟨h1, (z_ix_in h2), (fun q => q h3), (ww_La_worthNow D (by omega) a1 (0 : Int32) σ r4 σ5 h6), trivial⟩ (gx_fgt (ls' := [.ref 77, .int a1]) ⟨Or.inr rfl, Or.inr rfl, trivial⟩ (vv_Qu_weighDreamless_26 D hD rr σ' K2 hK2 a1 a1 r4 σ5 hf))
    · exact gx_go_ 15 [.inl 0, .inl 1] [¬ ((8 : Int32) ≤ a1), vp_in a1 8, ¬ ((σ 10 a1.toNatClampNeg) = (2 : Int32))] 26 [.ref 77, .int a1] [.int (0 : Int32), .int a1, .ref 80] σ rfl ⟨h1, (z_ix_in h2), h3, trivial⟩ (gx_fgt (ls' := [.ref 77, .int a1]) ⟨Or.inr rfl, Or.inr rfl, trivial⟩ (vv_Qu_weighDreamless_26 D hD rr σ' K2 hK2 a1 a1 (0 : Int32) σ hf))
set_option maxHeartbeats 16000000 in
set_option maxRecDepth 20000 in
theorem vv_Qu_weighDreamless_2 (D : Nat) (hD : 5 ≤ D + 1) (rr : Unit) (σ' : gx_R) : ∀ (n : Nat) (a1 : Int32) (σ : gx_R), Qu_weighDreamless_2 n a1 σ = some (rr, σ') → gx_Ev lay0 (E0 D) tt_64 none σ' 2 [.ref 77, .int a1] [] σ := by
  intro n
  induction n with
  | zero => intro a1 σ  hf; cases hf
  | succ n ih => intro a1 σ  hf; exact vv_Qu_weighDreamless_2_B D hD rr σ'  (Qu_weighDreamless_2 n) ih a1 σ  hf
set_option maxHeartbeats 16000000 in
set_option maxRecDepth 20000 in
theorem vv_Qu_weighDreamless_E (D : Nat) (hD : 5 ≤ D + 1) (rr : Unit) (σ' : gx_R) (σ : gx_R) (hf : Qu_weighDreamless  σ = some (rr, σ')) : gx_Ev lay0 (E0 D) tt_64 none σ' 0 [.ref 77, .null] [] σ := by
  unfold Qu_weighDreamless at hf
  exact gx_go_ 2 [] [] 2 [.ref 77, .int (0 : Int32)] [] σ rfl trivial (gx_fgt (ls' := [.ref 77, .int (0 : Int32)]) ⟨Or.inr rfl, Or.inr rfl, trivial⟩ (vv_Qu_weighDreamless_2 D hD rr σ' z_FU (0 : Int32) σ hf))
set_option maxHeartbeats 16000000 in
set_option maxRecDepth 20000 in
theorem ww_Qu_weighDreamless (D : Nat) (hD : 5 ≤ D) (σ : gx_R) (rr : Unit) (σ' : gx_R) (hf : Qu_weighDreamless  σ = some (rr, σ')) : E0 D 64 [.ref 77] σ none σ' := by
  cases D with
  | zero => omega
  | succ D => exact Or.inl ⟨Nat.le_of_ble_eq_true rfl, vv_Qu_weighDreamless_E D hD rr σ' σ hf⟩
set_option maxHeartbeats 16000000 in
set_option maxRecDepth 20000 in
theorem vv_Qu_fuelWithout_27 (D : Nat) (hD : 2 ≤ D + 1) (rr : Int32) (σ' : gx_R) (K4 : Int32 → Int32 → Int32 → Int32 → gx_R → Option (Int32 × gx_R)) (hK4 : ∀ (a1 : Int32) (a2 : Int32) (a3 : Int32) (a4 : Int32) (σ : gx_R), K4 a1 a2 a3 a4 σ = some (rr, σ') → gx_Ev lay0 (E0 D) tt_65 (some (.int rr)) σ' 4 [.ref 77, .int a1, .int a2, .int a3, .int a4] [] σ) (a1 : Int32) (a2 : Int32) (a3 : Int32) (a4 : Int32) (σ : gx_R) (hf : Qu_fuelWithout_27 K4 a1 a2 a3 a4 σ = some (rr, σ')) : gx_Ev lay0 (E0 D) tt_65 (some (.int rr)) σ' 27 [.ref 77, .int a1, .int a2, .int a3, .int a4] [] σ := by
  unfold Qu_fuelWithout_27 at hf
  exact gx_go_ 2 [] [] 4 [.ref 77, .int a1, .int a2, .int a3, .int (a4 + 1)] [] σ rfl trivial (gx_fgt (ls' := [.ref 77, .int a1, .int a2, .int a3, .int (a4 + 1)]) ⟨Or.inr rfl, Or.inr rfl, Or.inr rfl, Or.inr rfl, Or.inr rfl, trivial⟩ (hK4 a1 a2 a3 (a4 + 1) σ hf))
set_option maxHeartbeats 16000000 in
set_option maxRecDepth 20000 in
theorem vv_Qu_fuelWithout_4_B (D : Nat) (hD : 2 ≤ D + 1) (rr : Int32) (σ' : gx_R) (K4 : Int32 → Int32 → Int32 → Int32 → gx_R → Option (Int32 × gx_R)) (hK4 : ∀ (a1 : Int32) (a2 : Int32) (a3 : Int32) (a4 : Int32) (σ : gx_R), K4 a1 a2 a3 a4 σ = some (rr, σ') → gx_Ev lay0 (E0 D) tt_65 (some (.int rr)) σ' 4 [.ref 77, .int a1, .int a2, .int a3, .int a4] [] σ) (a1 : Int32) (a2 : Int32) (a3 : Int32) (a4 : Int32) (σ : gx_R) (hf : Qu_fuelWithout_4_B K4 a1 a2 a3 a4 σ = some (rr, σ')) : gx_Ev lay0 (E0 D) tt_65 (some (.int rr)) σ' 4 [.ref 77, .int a1, .int a2, .int a3, .int a4] [] σ := by
  unfold Qu_fuelWithout_4_B at hf
  rcases z_if_inv hf with ⟨h1, hf⟩ | ⟨h1, hf⟩
  · obtain ⟨e1, e2⟩ := z_ret hf
    subst e1
    subst e2
    exact gx_end 5 [.inl 1] [(8 : Int32) ≤ a4] rfl ⟨h1, trivial⟩
  · rcases z_if_inv hf with ⟨h2, hf⟩ | ⟨h2, hf⟩
    · obtain ⟨r3, σ4, h5, hf⟩ := z_bd_inv hf
      rcases z_if_inv hf with ⟨h6, hf⟩ | ⟨h6, hf⟩
      · exact gx_go_ 16 [.inl 0, .inl 0, .inr (some (.int r3), σ4), .inl 1] [¬ ((8 : Int32) ≤ a4), ¬ ¬ (((a2 >>> (a4 &&& 31)) &&& (1 : Int32)) = 0), E0 D 8 [.ref 9, .int a4, .int a1] σ (some (.int r3)) σ4, r3 = 0] 27 [.ref 77, .int a1, .int a2, .int a3, .int a4] [] σ4 rfl ⟨h1, (fun q => q h2), (ww_Ni_sleepsFor D (by omega) 9 a4 a1 σ r3 σ4 (Or.inl rfl) h5), h6, trivial⟩ (gx_fgt (ls' := [.ref 77, .int a1, .int a2, .int a3, .int a4]) ⟨Or.inr rfl, Or.inr rfl, Or.inr rfl, Or.inr rfl, Or.inr rfl, trivial⟩ (vv_Qu_fuelWithout_27 D hD rr σ' K4 hK4 a1 a2 a3 a4 σ4 hf))
      · obtain ⟨h7, hf⟩ := z_ck_inv hf
        exact gx_go_ 23 [.inl 0, .inl 0, .inr (some (.int r3), σ4), .inl 0] [¬ ((8 : Int32) ≤ a4), ¬ ¬ (((a2 >>> (a4 &&& 31)) &&& (1 : Int32)) = 0), E0 D 8 [.ref 9, .int a4, .int a1] σ (some (.int r3)) σ4, ¬ (r3 = 0), vp_in a4 8] 27 [.ref 77, .int a1, .int a2, .int (a3 + (σ4 80 a4.toNatClampNeg)), .int a4] [] σ4 rfl ⟨h1, (fun q => q h2), (ww_Ni_sleepsFor D (by omega) 9 a4 a1 σ r3 σ4 (Or.inl rfl) h5), h6, (z_ix_in h7), trivial⟩ (gx_fgt (ls' := [.ref 77, .int a1, .int a2, .int (a3 + (σ4 80 a4.toNatClampNeg)), .int a4]) ⟨Or.inr rfl, Or.inr rfl, Or.inr rfl, Or.inr rfl, Or.inr rfl, trivial⟩ (vv_Qu_fuelWithout_27 D hD rr σ' K4 hK4 a1 a2 (a3 + (σ4 80 a4.toNatClampNeg)) a4 σ4 hf))
    · exact gx_go_ 9 [.inl 0, .inl 1] [¬ ((8 : Int32) ≤ a4), ¬ (((a2 >>> (a4 &&& 31)) &&& (1 : Int32)) = 0)] 27 [.ref 77, .int a1, .int a2, .int a3, .int a4] [] σ rfl ⟨h1, h2, trivial⟩ (gx_fgt (ls' := [.ref 77, .int a1, .int a2, .int a3, .int a4]) ⟨Or.inr rfl, Or.inr rfl, Or.inr rfl, Or.inr rfl, Or.inr rfl, trivial⟩ (vv_Qu_fuelWithout_27 D hD rr σ' K4 hK4 a1 a2 a3 a4 σ hf))
set_option maxHeartbeats 16000000 in
set_option maxRecDepth 20000 in
theorem vv_Qu_fuelWithout_4 (D : Nat) (hD : 2 ≤ D + 1) (rr : Int32) (σ' : gx_R) : ∀ (n : Nat) (a1 : Int32) (a2 : Int32) (a3 : Int32) (a4 : Int32) (σ : gx_R), Qu_fuelWithout_4 n a1 a2 a3 a4 σ = some (rr, σ') → gx_Ev lay0 (E0 D) tt_65 (some (.int rr)) σ' 4 [.ref 77, .int a1, .int a2, .int a3, .int a4] [] σ := by
  intro n
  induction n with
  | zero => intro a1 a2 a3 a4 σ  hf; cases hf
  | succ n ih => intro a1 a2 a3 a4 σ  hf; exact vv_Qu_fuelWithout_4_B D hD rr σ'  (Qu_fuelWithout_4 n) ih a1 a2 a3 a4 σ  hf
set_option maxHeartbeats 16000000 in
set_option maxRecDepth 20000 in
theorem vv_Qu_fuelWithout_E (D : Nat) (hD : 2 ≤ D + 1) (rr : Int32) (σ' : gx_R) (a1 : Int32) (a2 : Int32) (σ : gx_R) (hf : Qu_fuelWithout a1 a2 σ = some (rr, σ')) : gx_Ev lay0 (E0 D) tt_65 (some (.int rr)) σ' 0 [.ref 77, .int a1, .int a2, .null, .null] [] σ := by
  unfold Qu_fuelWithout at hf
  exact gx_go_ 4 [] [] 4 [.ref 77, .int a1, .int a2, .int (0 : Int32), .int (0 : Int32)] [] σ rfl trivial (gx_fgt (ls' := [.ref 77, .int a1, .int a2, .int (0 : Int32), .int (0 : Int32)]) ⟨Or.inr rfl, Or.inr rfl, Or.inr rfl, Or.inr rfl, Or.inr rfl, trivial⟩ (vv_Qu_fuelWithout_4 D hD rr σ' z_FU a1 a2 (0 : Int32) (0 : Int32) σ hf))
set_option maxHeartbeats 16000000 in
set_option maxRecDepth 20000 in
theorem ww_Qu_fuelWithout (D : Nat) (hD : 2 ≤ D) (a1 : Int32) (a2 : Int32) (σ : gx_R) (rr : Int32) (σ' : gx_R) (hf : Qu_fuelWithout a1 a2 σ = some (rr, σ')) : E0 D 65 [.ref 77, .int a1, .int a2] σ (some (.int rr)) σ' := by
  cases D with
  | zero => omega
  | succ D => exact Or.inl ⟨Nat.le_of_ble_eq_true rfl, vv_Qu_fuelWithout_E D hD rr σ' a1 a2 σ hf⟩
set_option maxHeartbeats 16000000 in
set_option maxRecDepth 20000 in
theorem vv_Qu_stoppedWithout_35 (D : Nat) (hD : 6 ≤ D + 1) (rr : Int32) (σ' : gx_R) (K10 : Int32 → Int32 → Int32 → gx_R → Option (Int32 × gx_R)) (hK10 : ∀ (a1 : Int32) (a3 : Int32) (a4 : Int32) (σ : gx_R), K10 a1 a3 a4 σ = some (rr, σ') → gx_Ev lay0 (E0 D) tt_66 (some (.int rr)) σ' 10 [.ref 77, .int a1, .ref 9, .int a3, .int a4] [] σ) (a1 : Int32) (a3 : Int32) (a4 : Int32) (σ : gx_R) (hf : Qu_stoppedWithout_35 K10 a1 a3 a4 σ = some (rr, σ')) : gx_Ev lay0 (E0 D) tt_66 (some (.int rr)) σ' 35 [.ref 77, .int a1, .ref 9, .int a3, .int a4] [] σ := by
  unfold Qu_stoppedWithout_35 at hf
  exact gx_go_ 2 [] [] 10 [.ref 77, .int a1, .ref 9, .int a3, .int (a4 + 1)] [] σ rfl trivial (gx_fgt (ls' := [.ref 77, .int a1, .ref 9, .int a3, .int (a4 + 1)]) ⟨Or.inr rfl, Or.inr rfl, Or.inr rfl, Or.inr rfl, Or.inr rfl, trivial⟩ (hK10 a1 a3 (a4 + 1) σ hf))
set_option maxHeartbeats 16000000 in
set_option maxRecDepth 20000 in
theorem vv_Qu_stoppedWithout_10_B (D : Nat) (hD : 6 ≤ D + 1) (rr : Int32) (σ' : gx_R) (K10 : Int32 → Int32 → Int32 → gx_R → Option (Int32 × gx_R)) (hK10 : ∀ (a1 : Int32) (a3 : Int32) (a4 : Int32) (σ : gx_R), K10 a1 a3 a4 σ = some (rr, σ') → gx_Ev lay0 (E0 D) tt_66 (some (.int rr)) σ' 10 [.ref 77, .int a1, .ref 9, .int a3, .int a4] [] σ) (a1 : Int32) (a3 : Int32) (a4 : Int32) (σ : gx_R) (hf : Qu_stoppedWithout_10_B K10 a1 a3 a4 σ = some (rr, σ')) : gx_Ev lay0 (E0 D) tt_66 (some (.int rr)) σ' 10 [.ref 77, .int a1, .ref 9, .int a3, .int a4] [] σ := by
  unfold Qu_stoppedWithout_10_B at hf
  rcases z_if_inv hf with ⟨h1, hf⟩ | ⟨h1, hf⟩
  · obtain ⟨e1, e2⟩ := z_ret hf
    subst e1
    subst e2
    exact gx_end 5 [.inl 1] [(8 : Int32) ≤ a4] rfl ⟨h1, trivial⟩
  · obtain ⟨h2, hf⟩ := z_ck_inv hf
    rcases z_if_inv hf with ⟨h3, hf⟩ | ⟨h3, hf⟩
    · obtain ⟨r4, σ5, h6, hf⟩ := z_bd_inv hf
      obtain ⟨r7, σ8, h9, hf⟩ := z_bd_inv hf
      rcases z_if_inv hf with ⟨h10, hf⟩ | ⟨h10, hf⟩
      · exact gx_go_ 19 [.inl 0, .inl 0, .inr (some (.int r4), σ5), .inr (some (.int r7), σ8), .inl 1] [¬ ((8 : Int32) ≤ a4), vp_in a4 8, ¬ ¬ ((σ 10 a4.toNatClampNeg) = (1 : Int32)), E0 D 65 [.ref 77, .int a4, .int a1] σ (some (.int r4)) σ5, E0 D 29 [.ref 50, .ref 9, .int a4] σ5 (some (.int r7)) σ8, r7 ≤ r4] 35 [.ref 77, .int a1, .ref 9, .int a3, .int a4] [] σ8 rfl ⟨h1, (z_ix_in h2), (fun q => q h3), (ww_Qu_fuelWithout D (by omega) a4 a1 σ r4 σ5 h6), (ww_La_burnNow D (by omega) 9 a4 σ5 r7 σ8 (Or.inl rfl) h9), h10, trivial⟩ (gx_fgt (ls' := [.ref 77, .int a1, .ref 9, .int a3, .int a4]) ⟨Or.inr rfl, Or.inr rfl, Or.inr rfl, Or.inr rfl, Or.inr rfl, trivial⟩ (vv_Qu_stoppedWithout_35 D hD rr σ' K10 hK10 a1 a3 a4 σ8 hf))
      · exact gx_go_ 25 [.inl 0, .inl 0, .inr (some (.int r4), σ5), .inr (some (.int r7), σ8), .inl 0] [¬ ((8 : Int32) ≤ a4), vp_in a4 8, ¬ ¬ ((σ 10 a4.toNatClampNeg) = (1 : Int32)), E0 D 65 [.ref 77, .int a4, .int a1] σ (some (.int r4)) σ5, E0 D 29 [.ref 50, .ref 9, .int a4] σ5 (some (.int r7)) σ8, ¬ (r7 ≤ r4)] 35 [.ref 77, .int a1, .ref 9, .int (a3 ||| ((1 : Int32) <<< (a4 &&& 31))), .int a4] [] σ8 rfl ⟨h1, (z_ix_in h2), (fun q => q h3), (ww_Qu_fuelWithout D (by omega) a4 a1 σ r4 σ5 h6), (ww_La_burnNow D (by omega) 9 a4 σ5 r7 σ8 (Or.inl rfl) h9), h10, trivial⟩ (gx_fgt (ls' := [.ref 77, .int a1, .ref 9, .int (a3 ||| ((1 : Int32) <<< (a4 &&& 31))), .int a4]) ⟨Or.inr rfl, Or.inr rfl, Or.inr rfl, Or.inr rfl, Or.inr rfl, trivial⟩ (vv_Qu_stoppedWithout_35 D hD rr σ' K10 hK10 a1 (a3 ||| ((1 : Int32) <<< (a4 &&& 31))) a4 σ8 hf))
    · exact gx_go_ 9 [.inl 0, .inl 1] [¬ ((8 : Int32) ≤ a4), vp_in a4 8, ¬ ((σ 10 a4.toNatClampNeg) = (1 : Int32))] 35 [.ref 77, .int a1, .ref 9, .int a3, .int a4] [] σ rfl ⟨h1, (z_ix_in h2), h3, trivial⟩ (gx_fgt (ls' := [.ref 77, .int a1, .ref 9, .int a3, .int a4]) ⟨Or.inr rfl, Or.inr rfl, Or.inr rfl, Or.inr rfl, Or.inr rfl, trivial⟩ (vv_Qu_stoppedWithout_35 D hD rr σ' K10 hK10 a1 a3 a4 σ hf))
set_option maxHeartbeats 16000000 in
set_option maxRecDepth 20000 in
theorem vv_Qu_stoppedWithout_10 (D : Nat) (hD : 6 ≤ D + 1) (rr : Int32) (σ' : gx_R) : ∀ (n : Nat) (a1 : Int32) (a3 : Int32) (a4 : Int32) (σ : gx_R), Qu_stoppedWithout_10 n a1 a3 a4 σ = some (rr, σ') → gx_Ev lay0 (E0 D) tt_66 (some (.int rr)) σ' 10 [.ref 77, .int a1, .ref 9, .int a3, .int a4] [] σ := by
  intro n
  induction n with
  | zero => intro a1 a3 a4 σ  hf; cases hf
  | succ n ih => intro a1 a3 a4 σ  hf; exact vv_Qu_stoppedWithout_10_B D hD rr σ'  (Qu_stoppedWithout_10 n) ih a1 a3 a4 σ  hf
set_option maxHeartbeats 16000000 in
set_option maxRecDepth 20000 in
theorem vv_Qu_stoppedWithout_E (D : Nat) (hD : 6 ≤ D + 1) (rr : Int32) (σ' : gx_R) (a1 : Int32) (σ : gx_R) (hf : Qu_stoppedWithout a1 σ = some (rr, σ')) : gx_Ev lay0 (E0 D) tt_66 (some (.int rr)) σ' 0 [.ref 77, .int a1, .null, .null, .null] [] σ := by
  unfold Qu_stoppedWithout at hf
  obtain ⟨⟨⟩, σ2, h3, hf⟩ := z_bd_inv hf
  exact gx_go_ 10 [.inr (none, σ2)] [E0 D 64 [.ref 77] σ (none) σ2] 10 [.ref 77, .int a1, .ref 9, .int (0 : Int32), .int (0 : Int32)] [] σ2 rfl ⟨(ww_Qu_weighDreamless D (by omega) σ () σ2 h3), trivial⟩ (gx_fgt (ls' := [.ref 77, .int a1, .ref 9, .int (0 : Int32), .int (0 : Int32)]) ⟨Or.inr rfl, Or.inr rfl, Or.inr rfl, Or.inr rfl, Or.inr rfl, trivial⟩ (vv_Qu_stoppedWithout_10 D hD rr σ' z_FU a1 (0 : Int32) (0 : Int32) σ2 hf))
set_option maxHeartbeats 16000000 in
set_option maxRecDepth 20000 in
theorem ww_Qu_stoppedWithout (D : Nat) (hD : 6 ≤ D) (a1 : Int32) (σ : gx_R) (rr : Int32) (σ' : gx_R) (hf : Qu_stoppedWithout a1 σ = some (rr, σ')) : E0 D 66 [.ref 77, .int a1] σ (some (.int rr)) σ' := by
  cases D with
  | zero => omega
  | succ D => exact Or.inl ⟨Nat.le_of_ble_eq_true rfl, vv_Qu_stoppedWithout_E D hD rr σ' a1 σ hf⟩
set_option maxHeartbeats 16000000 in
set_option maxRecDepth 20000 in
theorem vv_Qu_leastStrike_51 (D : Nat) (hD : 6 ≤ D + 1) (rr : Int32) (σ' : gx_R) (K20 : Int32 → Int32 → Int32 → Int32 → Int32 → gx_R → Option (Int32 × gx_R)) (hK20 : ∀ (a1 : Int32) (a2 : Int32) (a3 : Int32) (a4 : Int32) (a5 : Int32) (σ : gx_R), K20 a1 a2 a3 a4 a5 σ = some (rr, σ') → gx_Ev lay0 (E0 D) tt_67 (some (.int rr)) σ' 20 [.ref 77, .int a1, .int a2, .int a3, .int a4, .int a5, .null] [] σ) (a1 : Int32) (a2 : Int32) (a3 : Int32) (a4 : Int32) (a5 : Int32) (σ : gx_R) (hf : Qu_leastStrike_51 K20 a1 a2 a3 a4 a5 σ = some (rr, σ')) : gx_Ev lay0 (E0 D) tt_67 (some (.int rr)) σ' 51 [.ref 77, .int a1, .int a2, .int a3, .int a4, .int a5, .null] [] σ := by
  unfold Qu_leastStrike_51 at hf
  exact gx_go_ 2 [] [] 20 [.ref 77, .int a1, .int a2, .int a3, .int a4, .int (a5 + 1), .null] [] σ rfl trivial (gx_fgt (ls' := [.ref 77, .int a1, .int a2, .int a3, .int a4, .int (a5 + 1), .null]) ⟨Or.inr rfl, Or.inr rfl, Or.inr rfl, Or.inr rfl, Or.inr rfl, Or.inr rfl, Or.inl rfl, trivial⟩ (hK20 a1 a2 a3 a4 (a5 + 1) σ hf))
set_option maxHeartbeats 16000000 in
set_option maxRecDepth 20000 in
theorem vv_Qu_leastStrike_31 (D : Nat) (hD : 6 ≤ D + 1) (rr : Int32) (σ' : gx_R) (K34 : Int32 → Int32 → Int32 → Int32 → Int32 → Int32 → gx_R → Option (Int32 × gx_R)) (hK34 : ∀ (a1 : Int32) (a2 : Int32) (a3 : Int32) (a4 : Int32) (a5 : Int32) (s0 : Int32) (σ : gx_R), K34 a1 a2 a3 a4 a5 s0 σ = some (rr, σ') → gx_Ev lay0 (E0 D) tt_67 (some (.int rr)) σ' 34 [.ref 77, .int a1, .int a2, .int a3, .int a4, .int a5, .null] [.int s0] σ) (a1 : Int32) (a2 : Int32) (a3 : Int32) (a4 : Int32) (a5 : Int32) (σ : gx_R) (hf : Qu_leastStrike_31 K34 a1 a2 a3 a4 a5 σ = some (rr, σ')) : gx_Ev lay0 (E0 D) tt_67 (some (.int rr)) σ' 31 [.ref 77, .int a1, .int a2, .int a3, .int a4, .int a5, .null] [] σ := by
  unfold Qu_leastStrike_31 at hf
  exact gx_go_ 2 [] [] 34 [.ref 77, .int a1, .int a2, .int a3, .int a4, .int a5, .null] [.int (1 : Int32)] σ rfl trivial (gx_fgt (ls' := [.ref 77, .int a1, .int a2, .int a3, .int a4, .int a5, .null]) ⟨Or.inr rfl, Or.inr rfl, Or.inr rfl, Or.inr rfl, Or.inr rfl, Or.inr rfl, Or.inl rfl, trivial⟩ (hK34 a1 a2 a3 a4 a5 (1 : Int32) σ hf))
set_option maxHeartbeats 16000000 in
set_option maxRecDepth 20000 in
theorem vv_Qu_leastStrike_34 (D : Nat) (hD : 6 ≤ D + 1) (rr : Int32) (σ' : gx_R) (K20 : Int32 → Int32 → Int32 → Int32 → Int32 → gx_R → Option (Int32 × gx_R)) (hK20 : ∀ (a1 : Int32) (a2 : Int32) (a3 : Int32) (a4 : Int32) (a5 : Int32) (σ : gx_R), K20 a1 a2 a3 a4 a5 σ = some (rr, σ') → gx_Ev lay0 (E0 D) tt_67 (some (.int rr)) σ' 20 [.ref 77, .int a1, .int a2, .int a3, .int a4, .int a5, .null] [] σ) (a1 : Int32) (a2 : Int32) (a3 : Int32) (a4 : Int32) (a5 : Int32) (s0 : Int32) (σ : gx_R) (hf : Qu_leastStrike_34 K20 a1 a2 a3 a4 a5 s0 σ = some (rr, σ')) : gx_Ev lay0 (E0 D) tt_67 (some (.int rr)) σ' 34 [.ref 77, .int a1, .int a2, .int a3, .int a4, .int a5, .null] [.int s0] σ := by
  unfold Qu_leastStrike_34 at hf
  rcases z_if_inv hf with ⟨h1, hf⟩ | ⟨h1, hf⟩
  · exact gx_go_ 3 [.inl 1] [s0 = 0] 51 [.ref 77, .int a1, .int a2, .int a3, .int a4, .int a5, .int s0] [] σ rfl ⟨h1, trivial⟩ (gx_fgt (ls' := [.ref 77, .int a1, .int a2, .int a3, .int a4, .int a5, .null]) ⟨Or.inr rfl, Or.inr rfl, Or.inr rfl, Or.inr rfl, Or.inr rfl, Or.inr rfl, Or.inl rfl, trivial⟩ (vv_Qu_leastStrike_51 D hD rr σ' K20 hK20 a1 a2 a3 a4 a5 σ hf))
  · rcases z_if_inv hf with ⟨h2, hf⟩ | ⟨h2, hf⟩
    · obtain ⟨r3, σ4, h5, hf⟩ := z_bd_inv hf
      rcases z_if_inv hf with ⟨h6, hf⟩ | ⟨h6, hf⟩
      · exact gx_go_ 15 [.inl 0, .inl 0, .inr (some (.int r3), σ4), .inl 1] [¬ (s0 = 0), ¬ ¬ ((a5 &&& (a3 ^^^ (-1 : Int32))) = 0), E0 D 65 [.ref 77, .int a1, .int a5] σ (some (.int r3)) σ4, a2 ≤ r3] 51 [.ref 77, .int a1, .int a2, .int a3, .int a4, .int a5, .int s0] [] σ4 rfl ⟨h1, (fun q => q h2), (ww_Qu_fuelWithout D (by omega) a1 a5 σ r3 σ4 h5), h6, trivial⟩ (gx_fgt (ls' := [.ref 77, .int a1, .int a2, .int a3, .int a4, .int a5, .null]) ⟨Or.inr rfl, Or.inr rfl, Or.inr rfl, Or.inr rfl, Or.inr rfl, Or.inr rfl, Or.inl rfl, trivial⟩ (vv_Qu_leastStrike_51 D hD rr σ' K20 hK20 a1 a2 a3 a4 a5 σ4 hf))
      · exact gx_go_ 17 [.inl 0, .inl 0, .inr (some (.int r3), σ4), .inl 0] [¬ (s0 = 0), ¬ ¬ ((a5 &&& (a3 ^^^ (-1 : Int32))) = 0), E0 D 65 [.ref 77, .int a1, .int a5] σ (some (.int r3)) σ4, ¬ (a2 ≤ r3)] 51 [.ref 77, .int a1, .int a2, .int a3, .int a5, .int a5, .int s0] [] σ4 rfl ⟨h1, (fun q => q h2), (ww_Qu_fuelWithout D (by omega) a1 a5 σ r3 σ4 h5), h6, trivial⟩ (gx_fgt (ls' := [.ref 77, .int a1, .int a2, .int a3, .int a5, .int a5, .null]) ⟨Or.inr rfl, Or.inr rfl, Or.inr rfl, Or.inr rfl, Or.inr rfl, Or.inr rfl, Or.inl rfl, trivial⟩ (vv_Qu_leastStrike_51 D hD rr σ' K20 hK20 a1 a2 a3 a5 a5 σ4 hf))
    · exact gx_go_ 9 [.inl 0, .inl 1] [¬ (s0 = 0), ¬ ((a5 &&& (a3 ^^^ (-1 : Int32))) = 0)] 51 [.ref 77, .int a1, .int a2, .int a3, .int a4, .int a5, .int s0] [] σ rfl ⟨h1, h2, trivial⟩ (gx_fgt (ls' := [.ref 77, .int a1, .int a2, .int a3, .int a4, .int a5, .null]) ⟨Or.inr rfl, Or.inr rfl, Or.inr rfl, Or.inr rfl, Or.inr rfl, Or.inr rfl, Or.inl rfl, trivial⟩ (vv_Qu_leastStrike_51 D hD rr σ' K20 hK20 a1 a2 a3 a4 a5 σ hf))
set_option maxHeartbeats 16000000 in
set_option maxRecDepth 20000 in
theorem vv_Qu_leastStrike_20_B (D : Nat) (hD : 6 ≤ D + 1) (rr : Int32) (σ' : gx_R) (K20 : Int32 → Int32 → Int32 → Int32 → Int32 → gx_R → Option (Int32 × gx_R)) (hK20 : ∀ (a1 : Int32) (a2 : Int32) (a3 : Int32) (a4 : Int32) (a5 : Int32) (σ : gx_R), K20 a1 a2 a3 a4 a5 σ = some (rr, σ') → gx_Ev lay0 (E0 D) tt_67 (some (.int rr)) σ' 20 [.ref 77, .int a1, .int a2, .int a3, .int a4, .int a5, .null] [] σ) (a1 : Int32) (a2 : Int32) (a3 : Int32) (a4 : Int32) (a5 : Int32) (σ : gx_R) (hf : Qu_leastStrike_20_B K20 a1 a2 a3 a4 a5 σ = some (rr, σ')) : gx_Ev lay0 (E0 D) tt_67 (some (.int rr)) σ' 20 [.ref 77, .int a1, .int a2, .int a3, .int a4, .int a5, .null] [] σ := by
  unfold Qu_leastStrike_20_B at hf
  rcases z_if_inv hf with ⟨h1, hf⟩ | ⟨h1, hf⟩
  · obtain ⟨e1, e2⟩ := z_ret hf
    subst e1
    subst e2
    exact gx_end 5 [.inl 1] [a3 < a5] rfl ⟨h1, trivial⟩
  · rcases z_if_inv hf with ⟨h2, hf⟩ | ⟨h2, hf⟩
    · exact gx_go_ 6 [.inl 0, .inl 1] [¬ (a3 < a5), a4 = (-1 : Int32)] 31 [.ref 77, .int a1, .int a2, .int a3, .int a4, .int a5, .null] [] σ rfl ⟨h1, h2, trivial⟩ (gx_fgt (ls' := [.ref 77, .int a1, .int a2, .int a3, .int a4, .int a5, .null]) ⟨Or.inr rfl, Or.inr rfl, Or.inr rfl, Or.inr rfl, Or.inr rfl, Or.inr rfl, Or.inl rfl, trivial⟩ (vv_Qu_leastStrike_31 D hD rr σ' (Qu_leastStrike_34 K20) (vv_Qu_leastStrike_34 D hD rr σ' K20 hK20) a1 a2 a3 a4 a5 σ hf))
    · obtain ⟨r3, σ4, h5, hf⟩ := z_bd_inv hf
      obtain ⟨r6, σ7, h8, hf⟩ := z_bd_inv hf
      rcases z_if_inv hf with ⟨h9, hf⟩ | ⟨h9, hf⟩
      · exact gx_go_ 12 [.inl 0, .inl 0, .inr (some (.int r3), σ4), .inr (some (.int r6), σ7), .inl 1] [¬ (a3 < a5), ¬ (a4 = (-1 : Int32)), E0 D 0 [.int a5] σ (some (.int r3)) σ4, E0 D 0 [.int a4] σ4 (some (.int r6)) σ7, r6 ≤ r3] 34 [.ref 77, .int a1, .int a2, .int a3, .int a4, .int a5, .null] [.int (0 : Int32)] σ7 rfl ⟨h1, h2, (ww_Jd_bitCount D (by omega) a5 σ r3 σ4 h5), (ww_Jd_bitCount D (by omega) a4 σ4 r6 σ7 h8), h9, trivial⟩ (gx_fgt (ls' := [.ref 77, .int a1, .int a2, .int a3, .int a4, .int a5, .null]) ⟨Or.inr rfl, Or.inr rfl, Or.inr rfl, Or.inr rfl, Or.inr rfl, Or.inr rfl, Or.inl rfl, trivial⟩ (vv_Qu_leastStrike_34 D hD rr σ' K20 hK20 a1 a2 a3 a4 a5 (0 : Int32) σ7 hf))
      · exact gx_go_ 11 [.inl 0, .inl 0, .inr (some (.int r3), σ4), .inr (some (.int r6), σ7), .inl 0] [¬ (a3 < a5), ¬ (a4 = (-1 : Int32)), E0 D 0 [.int a5] σ (some (.int r3)) σ4, E0 D 0 [.int a4] σ4 (some (.int r6)) σ7, ¬ (r6 ≤ r3)] 31 [.ref 77, .int a1, .int a2, .int a3, .int a4, .int a5, .null] [] σ7 rfl ⟨h1, h2, (ww_Jd_bitCount D (by omega) a5 σ r3 σ4 h5), (ww_Jd_bitCount D (by omega) a4 σ4 r6 σ7 h8), h9, trivial⟩ (gx_fgt (ls' := [.ref 77, .int a1, .int a2, .int a3, .int a4, .int a5, .null]) ⟨Or.inr rfl, Or.inr rfl, Or.inr rfl, Or.inr rfl, Or.inr rfl, Or.inr rfl, Or.inl rfl, trivial⟩ (vv_Qu_leastStrike_31 D hD rr σ' (Qu_leastStrike_34 K20) (vv_Qu_leastStrike_34 D hD rr σ' K20 hK20) a1 a2 a3 a4 a5 σ7 hf))
set_option maxHeartbeats 16000000 in
set_option maxRecDepth 20000 in
theorem vv_Qu_leastStrike_20 (D : Nat) (hD : 6 ≤ D + 1) (rr : Int32) (σ' : gx_R) : ∀ (n : Nat) (a1 : Int32) (a2 : Int32) (a3 : Int32) (a4 : Int32) (a5 : Int32) (σ : gx_R), Qu_leastStrike_20 n a1 a2 a3 a4 a5 σ = some (rr, σ') → gx_Ev lay0 (E0 D) tt_67 (some (.int rr)) σ' 20 [.ref 77, .int a1, .int a2, .int a3, .int a4, .int a5, .null] [] σ := by
  intro n
  induction n with
  | zero => intro a1 a2 a3 a4 a5 σ  hf; cases hf
  | succ n ih => intro a1 a2 a3 a4 a5 σ  hf; exact vv_Qu_leastStrike_20_B D hD rr σ'  (Qu_leastStrike_20 n) ih a1 a2 a3 a4 a5 σ  hf
set_option maxHeartbeats 16000000 in
set_option maxRecDepth 20000 in
theorem vv_Qu_leastStrike_E (D : Nat) (hD : 6 ≤ D + 1) (rr : Int32) (σ' : gx_R) (a1 : Int32) (σ : gx_R) (hf : Qu_leastStrike a1 σ = some (rr, σ')) : gx_Ev lay0 (E0 D) tt_67 (some (.int rr)) σ' 0 [.ref 77, .int a1, .null, .null, .null, .null, .null] [] σ := by
  unfold Qu_leastStrike at hf
  obtain ⟨⟨⟩, σ2, h3, hf⟩ := z_bd_inv hf
  obtain ⟨r4, σ5, h6, hf⟩ := z_bd_inv hf
  obtain ⟨r7, σ8, h9, hf⟩ := z_bd_inv hf
  exact gx_go_ 20 [.inr (none, σ2), .inr (some (.int r4), σ5), .inr (some (.int r7), σ8)] [E0 D 64 [.ref 77] σ (none) σ2, E0 D 29 [.ref 50, .ref 9, .int a1] σ2 (some (.int r4)) σ5, E0 D 7 [.ref 9, .int (2 : Int32)] σ5 (some (.int r7)) σ8] 20 [.ref 77, .int a1, .int r4, .int r7, .int (-1 : Int32), .int (0 : Int32), .null] [] σ8 rfl ⟨(ww_Qu_weighDreamless D (by omega) σ () σ2 h3), (ww_La_burnNow D (by omega) 9 a1 σ2 r4 σ5 (Or.inl rfl) h6), (ww_Ni_those D (by omega) 9 (2 : Int32) σ5 r7 σ8 (Or.inl rfl) h9), trivial⟩ (gx_fgt (ls' := [.ref 77, .int a1, .int r4, .int r7, .int (-1 : Int32), .int (0 : Int32), .null]) ⟨Or.inr rfl, Or.inr rfl, Or.inr rfl, Or.inr rfl, Or.inr rfl, Or.inr rfl, Or.inl rfl, trivial⟩ (vv_Qu_leastStrike_20 D hD rr σ' z_FU a1 r4 r7 (-1 : Int32) (0 : Int32) σ8 hf))
set_option maxHeartbeats 16000000 in
set_option maxRecDepth 20000 in
theorem ww_Qu_leastStrike (D : Nat) (hD : 6 ≤ D) (a1 : Int32) (σ : gx_R) (rr : Int32) (σ' : gx_R) (hf : Qu_leastStrike a1 σ = some (rr, σ')) : E0 D 67 [.ref 77, .int a1] σ (some (.int rr)) σ' := by
  cases D with
  | zero => omega
  | succ D => exact Or.inl ⟨Nat.le_of_ble_eq_true rfl, vv_Qu_leastStrike_E D hD rr σ' a1 σ hf⟩
set_option maxHeartbeats 16000000 in
set_option maxRecDepth 20000 in
theorem vv_Qu_fitting_66 (D : Nat) (hD : 2 ≤ D + 1) (rr : Int32) (σ' : gx_R) (K21 : Int32 → Int32 → Int32 → Int32 → Int32 → gx_R → Option (Int32 × gx_R)) (hK21 : ∀ (a1 : Int32) (a2 : Int32) (a3 : Int32) (a4 : Int32) (a5 : Int32) (σ : gx_R), K21 a1 a2 a3 a4 a5 σ = some (rr, σ') → gx_Ev lay0 (E0 D) tt_68 (some (.int rr)) σ' 21 [.ref 77, .int a1, .int a2, .int a3, .int a4, .int a5, .null, .null] [] σ) (a1 : Int32) (a2 : Int32) (a3 : Int32) (a4 : Int32) (a5 : Int32) (σ : gx_R) (hf : Qu_fitting_66 K21 a1 a2 a3 a4 a5 σ = some (rr, σ')) : gx_Ev lay0 (E0 D) tt_68 (some (.int rr)) σ' 66 [.ref 77, .int a1, .int a2, .int a3, .int a4, .int a5, .null, .null] [] σ := by
  unfold Qu_fitting_66 at hf
  exact gx_go_ 2 [] [] 21 [.ref 77, .int a1, .int a2, .int a3, .int a4, .int (a5 + 1), .null, .null] [] σ rfl trivial (gx_fgt (ls' := [.ref 77, .int a1, .int a2, .int a3, .int a4, .int (a5 + 1), .null, .null]) ⟨Or.inr rfl, Or.inr rfl, Or.inr rfl, Or.inr rfl, Or.inr rfl, Or.inr rfl, Or.inl rfl, Or.inl rfl, trivial⟩ (hK21 a1 a2 a3 a4 (a5 + 1) σ hf))
set_option maxHeartbeats 16000000 in
set_option maxRecDepth 20000 in
theorem vv_Qu_fitting_49 (D : Nat) (hD : 2 ≤ D + 1) (rr : Int32) (σ' : gx_R) (K21 : Int32 → Int32 → Int32 → Int32 → Int32 → gx_R → Option (Int32 × gx_R)) (hK21 : ∀ (a1 : Int32) (a2 : Int32) (a3 : Int32) (a4 : Int32) (a5 : Int32) (σ : gx_R), K21 a1 a2 a3 a4 a5 σ = some (rr, σ') → gx_Ev lay0 (E0 D) tt_68 (some (.int rr)) σ' 21 [.ref 77, .int a1, .int a2, .int a3, .int a4, .int a5, .null, .null] [] σ) (a1 : Int32) (a2 : Int32) (a3 : Int32) (a4 : Int32) (a5 : Int32) (a6 : Int32) (a7 : Int32) (σ : gx_R) (hf : Qu_fitting_49 K21 a1 a2 a3 a4 a5 a6 a7 σ = some (rr, σ')) : gx_Ev lay0 (E0 D) tt_68 (some (.int rr)) σ' 49 [.ref 77, .int a1, .int a2, .int a3, .int a4, .int a5, .int a6, .int a7] [] σ := by
  unfold Qu_fitting_49 at hf
  rcases z_if_inv hf with ⟨h1, hf⟩ | ⟨h1, hf⟩
  · exact gx_go_ 17 [.inl 0] [¬ ¬ (((a6 >>> (((8 : Int32) + a1) &&& 31)) &&& (1 : Int32)) = (1 : Int32))] 66 [.ref 77, .int a1, .int (a2 &&& (a7 ^^^ (-1 : Int32))), .int (1 : Int32), .int a4, .int a5, .int a6, .int a7] [] σ rfl ⟨(fun q => q h1), trivial⟩ (gx_fgt (ls' := [.ref 77, .int a1, .int (a2 &&& (a7 ^^^ (-1 : Int32))), .int (1 : Int32), .int a4, .int a5, .null, .null]) ⟨Or.inr rfl, Or.inr rfl, Or.inr rfl, Or.inr rfl, Or.inr rfl, Or.inr rfl, Or.inl rfl, Or.inl rfl, trivial⟩ (vv_Qu_fitting_66 D hD rr σ' K21 hK21 a1 (a2 &&& (a7 ^^^ (-1 : Int32))) (1 : Int32) a4 a5 σ hf))
  · exact gx_go_ 9 [.inl 1] [¬ (((a6 >>> (((8 : Int32) + a1) &&& 31)) &&& (1 : Int32)) = (1 : Int32))] 66 [.ref 77, .int a1, .int a2, .int a3, .int a4, .int a5, .int a6, .int a7] [] σ rfl ⟨h1, trivial⟩ (gx_fgt (ls' := [.ref 77, .int a1, .int a2, .int a3, .int a4, .int a5, .null, .null]) ⟨Or.inr rfl, Or.inr rfl, Or.inr rfl, Or.inr rfl, Or.inr rfl, Or.inr rfl, Or.inl rfl, Or.inl rfl, trivial⟩ (vv_Qu_fitting_66 D hD rr σ' K21 hK21 a1 a2 a3 a4 a5 σ hf))
set_option maxHeartbeats 16000000 in
set_option maxRecDepth 20000 in
theorem vv_Qu_fitting_68 (D : Nat) (hD : 2 ≤ D + 1) (rr : Int32) (σ' : gx_R) (a2 : Int32) (a3 : Int32) (σ : gx_R) (hf : Qu_fitting_68 a2 a3 σ = some (rr, σ')) : gx_Ev lay0 (E0 D) tt_68 (some (.int rr)) σ' 68 [.null, .null, .int a2, .int a3, .null, .null, .null, .null] [] σ := by
  unfold Qu_fitting_68 at hf
  rcases z_if_inv hf with ⟨h1, hf⟩ | ⟨h1, hf⟩
  · obtain ⟨e1, e2⟩ := z_ret hf
    subst e1
    subst e2
    exact gx_end 4 [.inl 1] [a3 = 0] rfl ⟨h1, trivial⟩
  · obtain ⟨e1, e2⟩ := z_ret hf
    subst e1
    subst e2
    exact gx_end 5 [.inl 0] [¬ (a3 = 0)] rfl ⟨h1, trivial⟩
set_option maxHeartbeats 16000000 in
set_option maxRecDepth 20000 in
theorem vv_Qu_fitting_21_B (D : Nat) (hD : 2 ≤ D + 1) (rr : Int32) (σ' : gx_R) (K21 : Int32 → Int32 → Int32 → Int32 → Int32 → gx_R → Option (Int32 × gx_R)) (hK21 : ∀ (a1 : Int32) (a2 : Int32) (a3 : Int32) (a4 : Int32) (a5 : Int32) (σ : gx_R), K21 a1 a2 a3 a4 a5 σ = some (rr, σ') → gx_Ev lay0 (E0 D) tt_68 (some (.int rr)) σ' 21 [.ref 77, .int a1, .int a2, .int a3, .int a4, .int a5, .null, .null] [] σ) (a1 : Int32) (a2 : Int32) (a3 : Int32) (a4 : Int32) (a5 : Int32) (σ : gx_R) (hf : Qu_fitting_21_B K21 a1 a2 a3 a4 a5 σ = some (rr, σ')) : gx_Ev lay0 (E0 D) tt_68 (some (.int rr)) σ' 21 [.ref 77, .int a1, .int a2, .int a3, .int a4, .int a5, .null, .null] [] σ := by
  unfold Qu_fitting_21_B at hf
  rcases z_if_inv hf with ⟨h1, hf⟩ | ⟨h1, hf⟩
  · exact gx_go_ 3 [.inl 1] [a4 ≤ a5] 68 [.ref 77, .int a1, .int a2, .int a3, .int a4, .int a5, .null, .null] [] σ rfl ⟨h1, trivial⟩ (gx_fgt (ls' := [.null, .null, .int a2, .int a3, .null, .null, .null, .null]) ⟨Or.inl rfl, Or.inl rfl, Or.inr rfl, Or.inr rfl, Or.inl rfl, Or.inl rfl, Or.inl rfl, Or.inl rfl, trivial⟩ (vv_Qu_fitting_68 D hD rr σ' a2 a3 σ hf))
  · obtain ⟨h2, hf⟩ := z_ck_inv hf
    rcases z_if_inv hf with ⟨h3, hf⟩ | ⟨h3, hf⟩
    · exact gx_go_ 28 [.inl 0, .inl 0] [¬ (a4 ≤ a5), vp_in a5 999, ¬ ¬ ((((σ 18 a5.toNatClampNeg) >>> (a1 &&& 31)) &&& (1 : Int32)) = (1 : Int32))] 49 [.ref 77, .int a1, .int (a2 &&& (((σ 18 a5.toNatClampNeg) >>> ((16 : Int32) &&& 31)) &&& (255 : Int32))), .int (1 : Int32), .int a4, .int a5, .int (σ 18 a5.toNatClampNeg), .int (((σ 18 a5.toNatClampNeg) >>> ((16 : Int32) &&& 31)) &&& (255 : Int32))] [] σ rfl ⟨h1, (z_ix_in h2), (fun q => q h3), trivial⟩ (gx_fgt (ls' := [.ref 77, .int a1, .int (a2 &&& (((σ 18 a5.toNatClampNeg) >>> ((16 : Int32) &&& 31)) &&& (255 : Int32))), .int (1 : Int32), .int a4, .int a5, .int (σ 18 a5.toNatClampNeg), .int (((σ 18 a5.toNatClampNeg) >>> ((16 : Int32) &&& 31)) &&& (255 : Int32))]) ⟨Or.inr rfl, Or.inr rfl, Or.inr rfl, Or.inr rfl, Or.inr rfl, Or.inr rfl, Or.inr rfl, Or.inr rfl, trivial⟩ (vv_Qu_fitting_49 D hD rr σ' K21 hK21 a1 (a2 &&& (((σ 18 a5.toNatClampNeg) >>> ((16 : Int32) &&& 31)) &&& (255 : Int32))) (1 : Int32) a4 a5 (σ 18 a5.toNatClampNeg) (((σ 18 a5.toNatClampNeg) >>> ((16 : Int32) &&& 31)) &&& (255 : Int32)) σ hf))
    · exact gx_go_ 22 [.inl 0, .inl 1] [¬ (a4 ≤ a5), vp_in a5 999, ¬ ((((σ 18 a5.toNatClampNeg) >>> (a1 &&& 31)) &&& (1 : Int32)) = (1 : Int32))] 49 [.ref 77, .int a1, .int a2, .int a3, .int a4, .int a5, .int (σ 18 a5.toNatClampNeg), .int (((σ 18 a5.toNatClampNeg) >>> ((16 : Int32) &&& 31)) &&& (255 : Int32))] [] σ rfl ⟨h1, (z_ix_in h2), h3, trivial⟩ (gx_fgt (ls' := [.ref 77, .int a1, .int a2, .int a3, .int a4, .int a5, .int (σ 18 a5.toNatClampNeg), .int (((σ 18 a5.toNatClampNeg) >>> ((16 : Int32) &&& 31)) &&& (255 : Int32))]) ⟨Or.inr rfl, Or.inr rfl, Or.inr rfl, Or.inr rfl, Or.inr rfl, Or.inr rfl, Or.inr rfl, Or.inr rfl, trivial⟩ (vv_Qu_fitting_49 D hD rr σ' K21 hK21 a1 a2 a3 a4 a5 (σ 18 a5.toNatClampNeg) (((σ 18 a5.toNatClampNeg) >>> ((16 : Int32) &&& 31)) &&& (255 : Int32)) σ hf))
set_option maxHeartbeats 16000000 in
set_option maxRecDepth 20000 in
theorem vv_Qu_fitting_21 (D : Nat) (hD : 2 ≤ D + 1) (rr : Int32) (σ' : gx_R) : ∀ (n : Nat) (a1 : Int32) (a2 : Int32) (a3 : Int32) (a4 : Int32) (a5 : Int32) (σ : gx_R), Qu_fitting_21 n a1 a2 a3 a4 a5 σ = some (rr, σ') → gx_Ev lay0 (E0 D) tt_68 (some (.int rr)) σ' 21 [.ref 77, .int a1, .int a2, .int a3, .int a4, .int a5, .null, .null] [] σ := by
  intro n
  induction n with
  | zero => intro a1 a2 a3 a4 a5 σ  hf; cases hf
  | succ n ih => intro a1 a2 a3 a4 a5 σ  hf; exact vv_Qu_fitting_21_B D hD rr σ'  (Qu_fitting_21 n) ih a1 a2 a3 a4 a5 σ  hf
set_option maxHeartbeats 16000000 in
set_option maxRecDepth 20000 in
theorem vv_Qu_fitting_E (D : Nat) (hD : 2 ≤ D + 1) (rr : Int32) (σ' : gx_R) (a1 : Int32) (σ : gx_R) (hf : Qu_fitting a1 σ = some (rr, σ')) : gx_Ev lay0 (E0 D) tt_68 (some (.int rr)) σ' 0 [.ref 77, .int a1, .null, .null, .null, .null, .null, .null] [] σ := by
  unfold Qu_fitting at hf
  obtain ⟨r1, σ2, h3, hf⟩ := z_bd_inv hf
  obtain ⟨r4, σ5, h6, hf⟩ := z_bd_inv hf
  exact gx_go_ 21 [.inr (some (.int r1), σ2), .inr (some (.int r4), σ5)] [E0 D 4 [.ref 2] σ (some (.int r1)) σ2, E0 D 22 [.ref 1] σ2 (some (.int r4)) σ5] 21 [.ref 77, .int a1, .int r1, .int (0 : Int32), .int (if (nI 999) < (σ2 9 6) then (nI 999) else (σ2 9 6)), .int r4, .null, .null] [] σ5 rfl ⟨(ww_Fo_everyone D (by omega) σ r1 σ2 h3), (ww_Va_firstKept D (by omega) σ2 r4 σ5 h6), trivial⟩ (gx_fgt (ls' := [.ref 77, .int a1, .int r1, .int (0 : Int32), .int (if (nI 999) < (σ2 9 6) then (nI 999) else (σ2 9 6)), .int r4, .null, .null]) ⟨Or.inr rfl, Or.inr rfl, Or.inr rfl, Or.inr rfl, Or.inr rfl, Or.inr rfl, Or.inl rfl, Or.inl rfl, trivial⟩ (vv_Qu_fitting_21 D hD rr σ' z_FU a1 r1 (0 : Int32) (if (nI 999) < (σ2 9 6) then (nI 999) else (σ2 9 6)) r4 σ5 hf))
set_option maxHeartbeats 16000000 in
set_option maxRecDepth 20000 in
theorem ww_Qu_fitting (D : Nat) (hD : 2 ≤ D) (a1 : Int32) (σ : gx_R) (rr : Int32) (σ' : gx_R) (hf : Qu_fitting a1 σ = some (rr, σ')) : E0 D 68 [.ref 77, .int a1] σ (some (.int rr)) σ' := by
  cases D with
  | zero => omega
  | succ D => exact Or.inl ⟨Nat.le_of_ble_eq_true rfl, vv_Qu_fitting_E D hD rr σ' a1 σ hf⟩
