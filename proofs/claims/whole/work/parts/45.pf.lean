set_option maxHeartbeats 16000000 in
set_option maxRecDepth 20000 in
theorem vv_Md_clause_79 (D : Nat) (hD : 7 ≤ D + 1) (rr : Unit) (σ' : gx_R) (σ : gx_R) (hf : Md_clause_79  σ = some (rr, σ')) : gx_Ev lay0 (E0 D) tt_189 none σ' 79 [.ref 109] [] σ := by
  unfold Md_clause_79 at hf
  rcases z_if_inv hf with ⟨h1, hf⟩ | ⟨h1, hf⟩
  · obtain ⟨⟨⟩, σ3, h4, hf⟩ := z_bd_inv hf
    obtain ⟨e1, e2⟩ := z_ret hf
    subst e1
    subst e2
    exact gx_end 6 [.inl 0, .inr (none, σ3)] [¬ ¬ ((σ 109 19) = 0), E0 D 184 [.ref 109] σ (none) σ3] rfl ⟨(fun q => q h1), (ww_Md_clauseIsOver D (by omega) σ () σ3 h4), trivial⟩
  · obtain ⟨e1, e2⟩ := z_ret hf
    subst e1
    subst e2
    exact gx_end 4 [.inl 1] [¬ ((σ 109 19) = 0)] rfl ⟨h1, trivial⟩
set_option maxHeartbeats 16000000 in
set_option maxRecDepth 20000 in
theorem vv_Md_clause_29 (D : Nat) (hD : 7 ≤ D + 1) (rr : Unit) (σ' : gx_R) (K36 : gx_R → Option (Unit × gx_R)) (hK36 : ∀ (σ : gx_R), K36  σ = some (rr, σ') → gx_Ev lay0 (E0 D) tt_189 none σ' 36 [.ref 109] [] σ) (σ : gx_R) (hf : Md_clause_29 K36  σ = some (rr, σ')) : gx_Ev lay0 (E0 D) tt_189 none σ' 29 [.ref 109] [] σ := by
  unfold Md_clause_29 at hf
  rcases z_if_inv hf with ⟨h1, hf⟩ | ⟨h1, hf⟩
  · obtain ⟨⟨⟩, σ3, h4, hf⟩ := z_bd_inv hf
    exact gx_go_ 7 [.inl 0, .inr (none, σ3)] [¬ ¬ ((σ 109 30) = (24 : Int32)), E0 D 166 [.ref 109, .int (6 : Int32)] σ (none) σ3] 36 [.ref 109] [] σ3 rfl ⟨(fun q => q h1), (ww_Md_errs D (by omega) (6 : Int32) σ () σ3 h4), trivial⟩ (gx_fgt (ls' := [.ref 109]) ⟨Or.inr rfl, trivial⟩ (hK36 σ3 hf))
  · exact gx_go_ 4 [.inl 1] [¬ ((σ 109 30) = (24 : Int32))] 36 [.ref 109] [] σ rfl ⟨h1, trivial⟩ (gx_fgt (ls' := [.ref 109]) ⟨Or.inr rfl, trivial⟩ (hK36 σ hf))
set_option maxHeartbeats 16000000 in
set_option maxRecDepth 20000 in
theorem vv_Md_clause_36 (D : Nat) (hD : 7 ≤ D + 1) (rr : Unit) (σ' : gx_R) (σ : gx_R) (hf : Md_clause_36  σ = some (rr, σ')) : gx_Ev lay0 (E0 D) tt_189 none σ' 36 [.ref 109] [] σ := by
  unfold Md_clause_36 at hf
  rcases z_if_inv hf with ⟨h1, hf⟩ | ⟨h1, hf⟩
  · obtain ⟨h2, hf⟩ := z_ck_inv hf
    obtain ⟨h3, hf⟩ := z_ck_inv hf
    obtain ⟨⟨⟩, σ5, h6, hf⟩ := z_bd_inv hf
    rcases z_if_inv hf with ⟨h7, hf⟩ | ⟨h7, hf⟩
    · obtain ⟨⟨⟩, σ9, h10, hf⟩ := z_bd_inv hf
      rcases z_if_inv hf with ⟨h11, hf⟩ | ⟨h11, hf⟩
      · obtain ⟨r12, σ13, h14, hf⟩ := z_bd_inv hf
        rcases z_if_inv hf with ⟨h15, hf⟩ | ⟨h15, hf⟩
        · obtain ⟨⟨⟩, σ17, h18, hf⟩ := z_bd_inv hf
          exact gx_go_ 35 [.inl 1, .inr (none, σ5), .inl 1, .inr (none, σ9), .inl 0, .inr (some (.int r12), σ13), .inl 0, .inr (none, σ17)] [(σ 109 19) ≤ 0, vp_in (σ 109 30) 24, vp_in ((gx_up σ 126 (σ 109 30).toNatClampNeg (σ 109 31)) 109 30) 24, E0 D 163 [.ref 109] (gx_up (gx_up σ 126 (σ 109 30).toNatClampNeg (σ 109 31)) 127 ((gx_up σ 126 (σ 109 30).toNatClampNeg (σ 109 31)) 109 30).toNatClampNeg ((gx_up σ 126 (σ 109 30).toNatClampNeg (σ 109 31)) 109 37)) (none) σ5, (3 : Int32) < (σ5 109 31), E0 D 188 [.ref 109] σ5 (none) σ9, ¬ ¬ ((σ9 109 19) = 0), E0 D 164 [.ref 109, .int (59 : Int32)] σ9 (some (.int r12)) σ13, ¬ ¬ (r12 = 0), E0 D 166 [.ref 109, .int (1 : Int32)] σ13 (none) σ17] 79 [.ref 109] [] σ17 rfl ⟨h1, (z_ix_in h2), (z_ix_in h3), (ww_Md_next D (by omega) (gx_up (gx_up σ 126 (σ 109 30).toNatClampNeg (σ 109 31)) 127 ((gx_up σ 126 (σ 109 30).toNatClampNeg (σ 109 31)) 109 30).toNatClampNeg ((gx_up σ 126 (σ 109 30).toNatClampNeg (σ 109 31)) 109 37)) () σ5 h6), h7, (ww_Md_doing D (by omega) σ5 () σ9 h10), (fun q => q h11), (ww_Md_isSign D (by omega) (59 : Int32) σ9 r12 σ13 h14), (fun q => q h15), (ww_Md_errs D (by omega) (1 : Int32) σ13 () σ17 h18), trivial⟩ (gx_fgt (ls' := [.ref 109]) ⟨Or.inr rfl, trivial⟩ (vv_Md_clause_79 D hD rr σ' σ17 hf))
        · exact gx_go_ 32 [.inl 1, .inr (none, σ5), .inl 1, .inr (none, σ9), .inl 0, .inr (some (.int r12), σ13), .inl 1] [(σ 109 19) ≤ 0, vp_in (σ 109 30) 24, vp_in ((gx_up σ 126 (σ 109 30).toNatClampNeg (σ 109 31)) 109 30) 24, E0 D 163 [.ref 109] (gx_up (gx_up σ 126 (σ 109 30).toNatClampNeg (σ 109 31)) 127 ((gx_up σ 126 (σ 109 30).toNatClampNeg (σ 109 31)) 109 30).toNatClampNeg ((gx_up σ 126 (σ 109 30).toNatClampNeg (σ 109 31)) 109 37)) (none) σ5, (3 : Int32) < (σ5 109 31), E0 D 188 [.ref 109] σ5 (none) σ9, ¬ ¬ ((σ9 109 19) = 0), E0 D 164 [.ref 109, .int (59 : Int32)] σ9 (some (.int r12)) σ13, ¬ (r12 = 0)] 79 [.ref 109] [] σ13 rfl ⟨h1, (z_ix_in h2), (z_ix_in h3), (ww_Md_next D (by omega) (gx_up (gx_up σ 126 (σ 109 30).toNatClampNeg (σ 109 31)) 127 ((gx_up σ 126 (σ 109 30).toNatClampNeg (σ 109 31)) 109 30).toNatClampNeg ((gx_up σ 126 (σ 109 30).toNatClampNeg (σ 109 31)) 109 37)) () σ5 h6), h7, (ww_Md_doing D (by omega) σ5 () σ9 h10), (fun q => q h11), (ww_Md_isSign D (by omega) (59 : Int32) σ9 r12 σ13 h14), h15, trivial⟩ (gx_fgt (ls' := [.ref 109]) ⟨Or.inr rfl, trivial⟩ (vv_Md_clause_79 D hD rr σ' σ13 hf))
      · exact gx_go_ 28 [.inl 1, .inr (none, σ5), .inl 1, .inr (none, σ9), .inl 1] [(σ 109 19) ≤ 0, vp_in (σ 109 30) 24, vp_in ((gx_up σ 126 (σ 109 30).toNatClampNeg (σ 109 31)) 109 30) 24, E0 D 163 [.ref 109] (gx_up (gx_up σ 126 (σ 109 30).toNatClampNeg (σ 109 31)) 127 ((gx_up σ 126 (σ 109 30).toNatClampNeg (σ 109 31)) 109 30).toNatClampNeg ((gx_up σ 126 (σ 109 30).toNatClampNeg (σ 109 31)) 109 37)) (none) σ5, (3 : Int32) < (σ5 109 31), E0 D 188 [.ref 109] σ5 (none) σ9, ¬ ((σ9 109 19) = 0)] 79 [.ref 109] [] σ9 rfl ⟨h1, (z_ix_in h2), (z_ix_in h3), (ww_Md_next D (by omega) (gx_up (gx_up σ 126 (σ 109 30).toNatClampNeg (σ 109 31)) 127 ((gx_up σ 126 (σ 109 30).toNatClampNeg (σ 109 31)) 109 30).toNatClampNeg ((gx_up σ 126 (σ 109 30).toNatClampNeg (σ 109 31)) 109 37)) () σ5 h6), h7, (ww_Md_doing D (by omega) σ5 () σ9 h10), h11, trivial⟩ (gx_fgt (ls' := [.ref 109]) ⟨Or.inr rfl, trivial⟩ (vv_Md_clause_79 D hD rr σ' σ9 hf))
    · obtain ⟨⟨⟩, σ20, h21, hf⟩ := z_bd_inv hf
      obtain ⟨e1, e2⟩ := z_ret hf
      subst e1
      subst e2
      exact gx_end 30 [.inl 1, .inr (none, σ5), .inl 0, .inr (none, σ20)] [(σ 109 19) ≤ 0, vp_in (σ 109 30) 24, vp_in ((gx_up σ 126 (σ 109 30).toNatClampNeg (σ 109 31)) 109 30) 24, E0 D 163 [.ref 109] (gx_up (gx_up σ 126 (σ 109 30).toNatClampNeg (σ 109 31)) 127 ((gx_up σ 126 (σ 109 30).toNatClampNeg (σ 109 31)) 109 30).toNatClampNeg ((gx_up σ 126 (σ 109 30).toNatClampNeg (σ 109 31)) 109 37)) (none) σ5, ¬ ((3 : Int32) < (σ5 109 31)), E0 D 168 [.ref 109, .int (1 : Int32)] σ5 (none) σ20] rfl ⟨h1, (z_ix_in h2), (z_ix_in h3), (ww_Md_next D (by omega) (gx_up (gx_up σ 126 (σ 109 30).toNatClampNeg (σ 109 31)) 127 ((gx_up σ 126 (σ 109 30).toNatClampNeg (σ 109 31)) 109 30).toNatClampNeg ((gx_up σ 126 (σ 109 30).toNatClampNeg (σ 109 31)) 109 37)) () σ5 h6), h7, (ww_Md_opensFrame D (by omega) (1 : Int32) σ5 () σ20 h21), trivial⟩
  · obtain ⟨e1, e2⟩ := z_ret hf
    subst e1
    subst e2
    exact gx_end 4 [.inl 0] [¬ ((σ 109 19) ≤ 0)] rfl ⟨h1, trivial⟩
set_option maxHeartbeats 16000000 in
set_option maxRecDepth 20000 in
theorem vv_Md_clause_8 (D : Nat) (hD : 7 ≤ D + 1) (rr : Unit) (σ' : gx_R) (σ : gx_R) (hf : Md_clause_8  σ = some (rr, σ')) : gx_Ev lay0 (E0 D) tt_189 none σ' 8 [.ref 109] [] σ := by
  unfold Md_clause_8 at hf
  obtain ⟨⟨⟩, σ2, h3, hf⟩ := z_bd_inv hf
  obtain ⟨e1, e2⟩ := z_ret hf
  subst e1
  subst e2
  exact gx_end 4 [.inr (none, σ2)] [E0 D 166 [.ref 109, .int (1 : Int32)] σ (none) σ2] rfl ⟨(ww_Md_errs D (by omega) (1 : Int32) σ () σ2 h3), trivial⟩
set_option maxHeartbeats 16000000 in
set_option maxRecDepth 20000 in
theorem vv_Md_clause_E (D : Nat) (hD : 7 ≤ D + 1) (rr : Unit) (σ' : gx_R) (σ : gx_R) (hf : Md_clause  σ = some (rr, σ')) : gx_Ev lay0 (E0 D) tt_189 none σ' 0 [.ref 109] [] σ := by
  unfold Md_clause at hf
  rcases z_if_inv hf with ⟨h1, hf⟩ | ⟨h1, hf⟩
  · rcases z_if_inv hf with ⟨h2, hf⟩ | ⟨h2, hf⟩
    · rcases z_if_inv hf with ⟨h3, hf⟩ | ⟨h3, hf⟩
      · exact gx_go_ 16 [.inl 0, .inl 1, .inl 1] [¬ ¬ ((σ 109 17) = (1 : Int32)), (σ 109 18) ≤ (9 : Int32), (3 : Int32) < ((gx_up σ 109 31 (σ 109 18)) 109 31)] 29 [.ref 109] [] (gx_up σ 109 31 (σ 109 18)) rfl ⟨(fun q => q h1), h2, h3, trivial⟩ (gx_fgt (ls' := [.ref 109]) ⟨Or.inr rfl, trivial⟩ (vv_Md_clause_29 D hD rr σ' (Md_clause_36) (vv_Md_clause_36 D hD rr σ') (gx_up σ 109 31 (σ 109 18)) hf))
      · obtain ⟨r4, σ5, h6, hf⟩ := z_bd_inv hf
        rcases z_if_inv hf with ⟨h7, hf⟩ | ⟨h7, hf⟩
        · exact gx_go_ 21 [.inl 0, .inl 1, .inl 0, .inr (some (.int r4), σ5), .inl 1] [¬ ¬ ((σ 109 17) = (1 : Int32)), (σ 109 18) ≤ (9 : Int32), ¬ ((3 : Int32) < ((gx_up σ 109 31 (σ 109 18)) 109 31)), E0 D 186 [.ref 109, .int ((gx_up σ 109 31 (σ 109 18)) 109 31)] (gx_up σ 109 31 (σ 109 18)) (some (.int r4)) σ5, r4 = 0] 29 [.ref 109] [] σ5 rfl ⟨(fun q => q h1), h2, h3, (ww_Md_wasTold D (by omega) ((gx_up σ 109 31 (σ 109 18)) 109 31) (gx_up σ 109 31 (σ 109 18)) r4 σ5 h6), h7, trivial⟩ (gx_fgt (ls' := [.ref 109]) ⟨Or.inr rfl, trivial⟩ (vv_Md_clause_29 D hD rr σ' (Md_clause_36) (vv_Md_clause_36 D hD rr σ') σ5 hf))
        · obtain ⟨⟨⟩, σ9, h10, hf⟩ := z_bd_inv hf
          exact gx_go_ 25 [.inl 0, .inl 1, .inl 0, .inr (some (.int r4), σ5), .inl 0, .inr (none, σ9)] [¬ ¬ ((σ 109 17) = (1 : Int32)), (σ 109 18) ≤ (9 : Int32), ¬ ((3 : Int32) < ((gx_up σ 109 31 (σ 109 18)) 109 31)), E0 D 186 [.ref 109, .int ((gx_up σ 109 31 (σ 109 18)) 109 31)] (gx_up σ 109 31 (σ 109 18)) (some (.int r4)) σ5, ¬ (r4 = 0), E0 D 166 [.ref 109, .int (4 : Int32)] σ5 (none) σ9] 36 [.ref 109] [] σ9 rfl ⟨(fun q => q h1), h2, h3, (ww_Md_wasTold D (by omega) ((gx_up σ 109 31 (σ 109 18)) 109 31) (gx_up σ 109 31 (σ 109 18)) r4 σ5 h6), h7, (ww_Md_errs D (by omega) (4 : Int32) σ5 () σ9 h10), trivial⟩ (gx_fgt (ls' := [.ref 109]) ⟨Or.inr rfl, trivial⟩ (vv_Md_clause_36 D hD rr σ' σ9 hf))
    · exact gx_go_ 8 [.inl 0, .inl 0] [¬ ¬ ((σ 109 17) = (1 : Int32)), ¬ ((σ 109 18) ≤ (9 : Int32))] 8 [.ref 109] [] σ rfl ⟨(fun q => q h1), h2, trivial⟩ (gx_fgt (ls' := [.ref 109]) ⟨Or.inr rfl, trivial⟩ (vv_Md_clause_8 D hD rr σ' σ hf))
  · exact gx_go_ 4 [.inl 1] [¬ ((σ 109 17) = (1 : Int32))] 8 [.ref 109] [] σ rfl ⟨h1, trivial⟩ (gx_fgt (ls' := [.ref 109]) ⟨Or.inr rfl, trivial⟩ (vv_Md_clause_8 D hD rr σ' σ hf))
set_option maxHeartbeats 16000000 in
set_option maxRecDepth 20000 in
theorem ww_Md_clause (D : Nat) (hD : 7 ≤ D) (σ : gx_R) (rr : Unit) (σ' : gx_R) (hf : Md_clause  σ = some (rr, σ')) : E0 D 189 [.ref 109] σ none σ' := by
  cases D with
  | zero => omega
  | succ D => exact Or.inl ⟨Nat.le_of_ble_eq_true rfl, vv_Md_clause_E D hD rr σ' σ hf⟩
set_option maxHeartbeats 16000000 in
set_option maxRecDepth 20000 in
theorem vv_Md_text_220 (D : Nat) (hD : 8 ≤ D + 1) (rr : Int32) (σ' : gx_R) (K170 : Int32 → Int32 → gx_R → Option (Int32 × gx_R)) (hK170 : ∀ (a1 : Int32) (a2 : Int32) (σ : gx_R), K170 a1 a2 σ = some (rr, σ') → gx_Ev lay0 (E0 D) tt_190 (some (.int rr)) σ' 170 [.ref 109, .int a1, .int a2, .null] [] σ) (a1 : Int32) (a2 : Int32) (s1 : Int32) (s2 : Int32) (s3 : Int32) (σ : gx_R) (hf : Md_text_220 K170 a1 a2 s1 s2 s3 σ = some (rr, σ')) : gx_Ev lay0 (E0 D) tt_190 (some (.int rr)) σ' 220 [.ref 109, .int a1, .int a2, .null] [.int s3, .int s2, .int s1, .ref 120] σ := by
  unfold Md_text_220 at hf
  obtain ⟨h1, hf⟩ := z_ck_inv hf
  exact gx_go_ 4 [] [vp_in s1 1600] 170 [.ref 109, .int a1, .int (a2 + 1), .null] [] (gx_up σ 120 s1.toNatClampNeg (s2 + s3)) rfl ⟨(z_ix_in h1), trivial⟩ (gx_fgt (ls' := [.ref 109, .int a1, .int (a2 + 1), .null]) ⟨Or.inr rfl, Or.inr rfl, Or.inr rfl, Or.inl rfl, trivial⟩ (hK170 a1 (a2 + 1) (gx_up σ 120 s1.toNatClampNeg (s2 + s3)) hf))
set_option maxHeartbeats 16000000 in
set_option maxRecDepth 20000 in
theorem vv_Md_text_186 (D : Nat) (hD : 8 ≤ D + 1) (rr : Int32) (σ' : gx_R) (K189 : Int32 → Int32 → Int32 → gx_R → Option (Int32 × gx_R)) (hK189 : ∀ (a1 : Int32) (a2 : Int32) (s0 : Int32) (σ : gx_R), K189 a1 a2 s0 σ = some (rr, σ') → gx_Ev lay0 (E0 D) tt_190 (some (.int rr)) σ' 189 [.ref 109, .int a1, .int a2, .null] [.int s0] σ) (a1 : Int32) (a2 : Int32) (σ : gx_R) (hf : Md_text_186 K189 a1 a2 σ = some (rr, σ')) : gx_Ev lay0 (E0 D) tt_190 (some (.int rr)) σ' 186 [.ref 109, .int a1, .int a2, .null] [] σ := by
  unfold Md_text_186 at hf
  exact gx_go_ 2 [] [] 189 [.ref 109, .int a1, .int a2, .null] [.int (1 : Int32)] σ rfl trivial (gx_fgt (ls' := [.ref 109, .int a1, .int a2, .null]) ⟨Or.inr rfl, Or.inr rfl, Or.inr rfl, Or.inl rfl, trivial⟩ (hK189 a1 a2 (1 : Int32) σ hf))
set_option maxHeartbeats 16000000 in
set_option maxRecDepth 20000 in
theorem vv_Md_text_189 (D : Nat) (hD : 8 ≤ D + 1) (rr : Int32) (σ' : gx_R) (K170 : Int32 → Int32 → gx_R → Option (Int32 × gx_R)) (hK170 : ∀ (a1 : Int32) (a2 : Int32) (σ : gx_R), K170 a1 a2 σ = some (rr, σ') → gx_Ev lay0 (E0 D) tt_190 (some (.int rr)) σ' 170 [.ref 109, .int a1, .int a2, .null] [] σ) (a1 : Int32) (a2 : Int32) (s0 : Int32) (σ : gx_R) (hf : Md_text_189 K170 a1 a2 s0 σ = some (rr, σ')) : gx_Ev lay0 (E0 D) tt_190 (some (.int rr)) σ' 189 [.ref 109, .int a1, .int a2, .null] [.int s0] σ := by
  unfold Md_text_189 at hf
  obtain ⟨h1, hf⟩ := z_ck_inv hf
  obtain ⟨h2, hf⟩ := z_ck_inv hf
  obtain ⟨h3, hf⟩ := z_ck_inv hf
  rcases z_if_inv hf with ⟨h4, hf⟩ | ⟨h4, hf⟩
  · exact gx_go_ 27 [.inl 1] [vp_in a2 400, vp_in (((400 : Int32) * a1) + a2) 1600, vp_in a2 400, s0 = 0] 220 [.ref 109, .int a1, .int a2, .int s0] [.int (0 : Int32), .int ((gx_up σ 119 (((400 : Int32) * a1) + a2).toNatClampNeg (σ 131 a2.toNatClampNeg)) 132 a2.toNatClampNeg), .int (((400 : Int32) * a1) + a2), .ref 120] (gx_up σ 119 (((400 : Int32) * a1) + a2).toNatClampNeg (σ 131 a2.toNatClampNeg)) rfl ⟨(z_ix_in h1), (z_ix_in h2), (z_ix_in h3), h4, trivial⟩ (gx_fgt (ls' := [.ref 109, .int a1, .int a2, .null]) ⟨Or.inr rfl, Or.inr rfl, Or.inr rfl, Or.inl rfl, trivial⟩ (vv_Md_text_220 D hD rr σ' K170 hK170 a1 a2 (((400 : Int32) * a1) + a2) ((gx_up σ 119 (((400 : Int32) * a1) + a2).toNatClampNeg (σ 131 a2.toNatClampNeg)) 132 a2.toNatClampNeg) (0 : Int32) (gx_up σ 119 (((400 : Int32) * a1) + a2).toNatClampNeg (σ 131 a2.toNatClampNeg)) hf))
  · exact gx_go_ 30 [.inl 0] [vp_in a2 400, vp_in (((400 : Int32) * a1) + a2) 1600, vp_in a2 400, ¬ (s0 = 0)] 220 [.ref 109, .int a1, .int a2, .int s0] [.int ((400 : Int32) * a1), .int ((gx_up σ 119 (((400 : Int32) * a1) + a2).toNatClampNeg (σ 131 a2.toNatClampNeg)) 132 a2.toNatClampNeg), .int (((400 : Int32) * a1) + a2), .ref 120] (gx_up σ 119 (((400 : Int32) * a1) + a2).toNatClampNeg (σ 131 a2.toNatClampNeg)) rfl ⟨(z_ix_in h1), (z_ix_in h2), (z_ix_in h3), h4, trivial⟩ (gx_fgt (ls' := [.ref 109, .int a1, .int a2, .null]) ⟨Or.inr rfl, Or.inr rfl, Or.inr rfl, Or.inl rfl, trivial⟩ (vv_Md_text_220 D hD rr σ' K170 hK170 a1 a2 (((400 : Int32) * a1) + a2) ((gx_up σ 119 (((400 : Int32) * a1) + a2).toNatClampNeg (σ 131 a2.toNatClampNeg)) 132 a2.toNatClampNeg) ((400 : Int32) * a1) (gx_up σ 119 (((400 : Int32) * a1) + a2).toNatClampNeg (σ 131 a2.toNatClampNeg)) hf))
set_option maxHeartbeats 16000000 in
set_option maxRecDepth 20000 in
theorem vv_Md_text_224 (D : Nat) (hD : 8 ≤ D + 1) (rr : Int32) (σ' : gx_R) (a1 : Int32) (σ : gx_R) (hf : Md_text_224 a1 σ = some (rr, σ')) : gx_Ev lay0 (E0 D) tt_190 (some (.int rr)) σ' 224 [.ref 109, .int a1, .null, .null] [] σ := by
  unfold Md_text_224 at hf
  obtain ⟨e1, e2⟩ := z_ret hf
  subst e1
  subst e2
  exact gx_end 10 [] [vp_in (2 : Int32) 8880, vp_in (2 : Int32) 8880] rfl ⟨(z_ix_in rfl), (z_ix_in rfl), trivial⟩
set_option maxHeartbeats 16000000 in
set_option maxRecDepth 20000 in
theorem vv_Md_text_170_B (D : Nat) (hD : 8 ≤ D + 1) (rr : Int32) (σ' : gx_R) (K170 : Int32 → Int32 → gx_R → Option (Int32 × gx_R)) (hK170 : ∀ (a1 : Int32) (a2 : Int32) (σ : gx_R), K170 a1 a2 σ = some (rr, σ') → gx_Ev lay0 (E0 D) tt_190 (some (.int rr)) σ' 170 [.ref 109, .int a1, .int a2, .null] [] σ) (a1 : Int32) (a2 : Int32) (σ : gx_R) (hf : Md_text_170_B K170 a1 a2 σ = some (rr, σ')) : gx_Ev lay0 (E0 D) tt_190 (some (.int rr)) σ' 170 [.ref 109, .int a1, .int a2, .null] [] σ := by
  unfold Md_text_170_B at hf
  rcases z_if_inv hf with ⟨h1, hf⟩ | ⟨h1, hf⟩
  · exact gx_go_ 4 [.inl 1] [(σ 109 37) ≤ a2] 224 [.ref 109, .int a1, .int a2, .null] [] σ rfl ⟨h1, trivial⟩ (gx_fgt (ls' := [.ref 109, .int a1, .null, .null]) ⟨Or.inr rfl, Or.inr rfl, Or.inl rfl, Or.inl rfl, trivial⟩ (vv_Md_text_224 D hD rr σ' a1 σ hf))
  · obtain ⟨h2, hf⟩ := z_ck_inv hf
    rcases z_if_inv hf with ⟨h3, hf⟩ | ⟨h3, hf⟩
    · exact gx_go_ 10 [.inl 0, .inl 1] [¬ ((σ 109 37) ≤ a2), vp_in a2 400, (σ 131 a2.toNatClampNeg) = (403 : Int32)] 186 [.ref 109, .int a1, .int a2, .null] [] σ rfl ⟨h1, (z_ix_in h2), h3, trivial⟩ (gx_fgt (ls' := [.ref 109, .int a1, .int a2, .null]) ⟨Or.inr rfl, Or.inr rfl, Or.inr rfl, Or.inl rfl, trivial⟩ (vv_Md_text_186 D hD rr σ' (Md_text_189 K170) (vv_Md_text_189 D hD rr σ' K170 hK170) a1 a2 σ hf))
    · obtain ⟨h4, hf⟩ := z_ck_inv hf
      rcases z_if_inv hf with ⟨h5, hf⟩ | ⟨h5, hf⟩
      · exact gx_go_ 16 [.inl 0, .inl 0, .inl 0] [¬ ((σ 109 37) ≤ a2), vp_in a2 400, ¬ ((σ 131 a2.toNatClampNeg) = (403 : Int32)), vp_in a2 400, ¬ ¬ ((σ 131 a2.toNatClampNeg) = (404 : Int32))] 186 [.ref 109, .int a1, .int a2, .null] [] σ rfl ⟨h1, (z_ix_in h2), h3, (z_ix_in h4), (fun q => q h5), trivial⟩ (gx_fgt (ls' := [.ref 109, .int a1, .int a2, .null]) ⟨Or.inr rfl, Or.inr rfl, Or.inr rfl, Or.inl rfl, trivial⟩ (vv_Md_text_186 D hD rr σ' (Md_text_189 K170) (vv_Md_text_189 D hD rr σ' K170 hK170) a1 a2 σ hf))
      · exact gx_go_ 17 [.inl 0, .inl 0, .inl 1] [¬ ((σ 109 37) ≤ a2), vp_in a2 400, ¬ ((σ 131 a2.toNatClampNeg) = (403 : Int32)), vp_in a2 400, ¬ ((σ 131 a2.toNatClampNeg) = (404 : Int32))] 189 [.ref 109, .int a1, .int a2, .null] [.int (0 : Int32)] σ rfl ⟨h1, (z_ix_in h2), h3, (z_ix_in h4), h5, trivial⟩ (gx_fgt (ls' := [.ref 109, .int a1, .int a2, .null]) ⟨Or.inr rfl, Or.inr rfl, Or.inr rfl, Or.inl rfl, trivial⟩ (vv_Md_text_189 D hD rr σ' K170 hK170 a1 a2 (0 : Int32) σ hf))
set_option maxHeartbeats 16000000 in
set_option maxRecDepth 20000 in
theorem vv_Md_text_170 (D : Nat) (hD : 8 ≤ D + 1) (rr : Int32) (σ' : gx_R) : ∀ (n : Nat) (a1 : Int32) (a2 : Int32) (σ : gx_R), Md_text_170 n a1 a2 σ = some (rr, σ') → gx_Ev lay0 (E0 D) tt_190 (some (.int rr)) σ' 170 [.ref 109, .int a1, .int a2, .null] [] σ := by
  intro n
  induction n with
  | zero => intro a1 a2 σ  hf; cases hf
  | succ n ih => intro a1 a2 σ  hf; exact vv_Md_text_170_B D hD rr σ'  (Md_text_170 n) ih a1 a2 σ  hf
set_option maxHeartbeats 16000000 in
set_option maxRecDepth 20000 in
theorem vv_Md_text_168 (D : Nat) (hD : 8 ≤ D + 1) (rr : Int32) (σ' : gx_R) (a1 : Int32) (σ : gx_R) (hf : Md_text_168 a1 σ = some (rr, σ')) : gx_Ev lay0 (E0 D) tt_190 (some (.int rr)) σ' 168 [.ref 109, .int a1, .null, .null] [] σ := by
  unfold Md_text_168 at hf
  exact gx_go_ 2 [] [] 170 [.ref 109, .int a1, .int (0 : Int32), .null] [] σ rfl trivial (gx_fgt (ls' := [.ref 109, .int a1, .int (0 : Int32), .null]) ⟨Or.inr rfl, Or.inr rfl, Or.inr rfl, Or.inl rfl, trivial⟩ (vv_Md_text_170 D hD rr σ' z_FU a1 (0 : Int32) σ hf))
set_option maxHeartbeats 16000000 in
set_option maxRecDepth 20000 in
theorem vv_Md_text_98_B (D : Nat) (hD : 8 ≤ D + 1) (rr : Int32) (σ' : gx_R) (K98 : Int32 → Int32 → gx_R → Option (Int32 × gx_R)) (hK98 : ∀ (a1 : Int32) (a2 : Int32) (σ : gx_R), K98 a1 a2 σ = some (rr, σ') → gx_Ev lay0 (E0 D) tt_190 (some (.int rr)) σ' 98 [.ref 109, .int a1, .int a2, .null] [] σ) (a1 : Int32) (a2 : Int32) (σ : gx_R) (hf : Md_text_98_B K98 a1 a2 σ = some (rr, σ')) : gx_Ev lay0 (E0 D) tt_190 (some (.int rr)) σ' 98 [.ref 109, .int a1, .int a2, .null] [] σ := by
  unfold Md_text_98_B at hf
  rcases z_if_inv hf with ⟨h1, hf⟩ | ⟨h1, hf⟩
  · exact gx_go_ 4 [.inl 1] [(σ 109 30) ≤ a2] 168 [.ref 109, .int a1, .int a2, .null] [] σ rfl ⟨h1, trivial⟩ (gx_fgt (ls' := [.ref 109, .int a1, .null, .null]) ⟨Or.inr rfl, Or.inr rfl, Or.inl rfl, Or.inl rfl, trivial⟩ (vv_Md_text_168 D hD rr σ' a1 σ hf))
  · obtain ⟨h2, hf⟩ := z_ck_inv hf
    obtain ⟨h3, hf⟩ := z_ck_inv hf
    obtain ⟨h4, hf⟩ := z_ck_inv hf
    obtain ⟨h5, hf⟩ := z_ck_inv hf
    obtain ⟨h6, hf⟩ := z_ck_inv hf
    obtain ⟨h7, hf⟩ := z_ck_inv hf
    obtain ⟨h8, hf⟩ := z_ck_inv hf
    obtain ⟨h9, hf⟩ := z_ck_inv hf
    obtain ⟨h10, hf⟩ := z_ck_inv hf
    obtain ⟨h11, hf⟩ := z_ck_inv hf
    exact gx_go_ 70 [.inl 0] [¬ ((σ 109 30) ≤ a2), vp_in a2 24, vp_in (((24 : Int32) * a1) + a2) 96, vp_in a2 24, vp_in (((24 : Int32) * a1) + a2) 96, vp_in a2 24, vp_in (((24 : Int32) * a1) + a2) 96, vp_in a2 24, vp_in (((24 : Int32) * a1) + a2) 96, vp_in a2 24, vp_in (((24 : Int32) * a1) + a2) 96] 98 [.ref 109, .int a1, .int (a2 + 1), .null] [] (gx_up (gx_up (gx_up (gx_up (gx_up σ 114 (((24 : Int32) * a1) + a2).toNatClampNeg (σ 126 a2.toNatClampNeg)) 115 (((24 : Int32) * a1) + a2).toNatClampNeg (((400 : Int32) * a1) + ((gx_up σ 114 (((24 : Int32) * a1) + a2).toNatClampNeg (σ 126 a2.toNatClampNeg)) 127 a2.toNatClampNeg))) 116 (((24 : Int32) * a1) + a2).toNatClampNeg ((gx_up (gx_up σ 114 (((24 : Int32) * a1) + a2).toNatClampNeg (σ 126 a2.toNatClampNeg)) 115 (((24 : Int32) * a1) + a2).toNatClampNeg (((400 : Int32) * a1) + ((gx_up σ 114 (((24 : Int32) * a1) + a2).toNatClampNeg (σ 126 a2.toNatClampNeg)) 127 a2.toNatClampNeg))) 128 a2.toNatClampNeg)) 117 (((24 : Int32) * a1) + a2).toNatClampNeg ((gx_up (gx_up (gx_up σ 114 (((24 : Int32) * a1) + a2).toNatClampNeg (σ 126 a2.toNatClampNeg)) 115 (((24 : Int32) * a1) + a2).toNatClampNeg (((400 : Int32) * a1) + ((gx_up σ 114 (((24 : Int32) * a1) + a2).toNatClampNeg (σ 126 a2.toNatClampNeg)) 127 a2.toNatClampNeg))) 116 (((24 : Int32) * a1) + a2).toNatClampNeg ((gx_up (gx_up σ 114 (((24 : Int32) * a1) + a2).toNatClampNeg (σ 126 a2.toNatClampNeg)) 115 (((24 : Int32) * a1) + a2).toNatClampNeg (((400 : Int32) * a1) + ((gx_up σ 114 (((24 : Int32) * a1) + a2).toNatClampNeg (σ 126 a2.toNatClampNeg)) 127 a2.toNatClampNeg))) 128 a2.toNatClampNeg)) 129 a2.toNatClampNeg)) 118 (((24 : Int32) * a1) + a2).toNatClampNeg ((gx_up (gx_up (gx_up (gx_up σ 114 (((24 : Int32) * a1) + a2).toNatClampNeg (σ 126 a2.toNatClampNeg)) 115 (((24 : Int32) * a1) + a2).toNatClampNeg (((400 : Int32) * a1) + ((gx_up σ 114 (((24 : Int32) * a1) + a2).toNatClampNeg (σ 126 a2.toNatClampNeg)) 127 a2.toNatClampNeg))) 116 (((24 : Int32) * a1) + a2).toNatClampNeg ((gx_up (gx_up σ 114 (((24 : Int32) * a1) + a2).toNatClampNeg (σ 126 a2.toNatClampNeg)) 115 (((24 : Int32) * a1) + a2).toNatClampNeg (((400 : Int32) * a1) + ((gx_up σ 114 (((24 : Int32) * a1) + a2).toNatClampNeg (σ 126 a2.toNatClampNeg)) 127 a2.toNatClampNeg))) 128 a2.toNatClampNeg)) 117 (((24 : Int32) * a1) + a2).toNatClampNeg ((gx_up (gx_up (gx_up σ 114 (((24 : Int32) * a1) + a2).toNatClampNeg (σ 126 a2.toNatClampNeg)) 115 (((24 : Int32) * a1) + a2).toNatClampNeg (((400 : Int32) * a1) + ((gx_up σ 114 (((24 : Int32) * a1) + a2).toNatClampNeg (σ 126 a2.toNatClampNeg)) 127 a2.toNatClampNeg))) 116 (((24 : Int32) * a1) + a2).toNatClampNeg ((gx_up (gx_up σ 114 (((24 : Int32) * a1) + a2).toNatClampNeg (σ 126 a2.toNatClampNeg)) 115 (((24 : Int32) * a1) + a2).toNatClampNeg (((400 : Int32) * a1) + ((gx_up σ 114 (((24 : Int32) * a1) + a2).toNatClampNeg (σ 126 a2.toNatClampNeg)) 127 a2.toNatClampNeg))) 128 a2.toNatClampNeg)) 129 a2.toNatClampNeg)) 130 a2.toNatClampNeg)) rfl ⟨h1, (z_ix_in h2), (z_ix_in h3), (z_ix_in h4), (z_ix_in h5), (z_ix_in h6), (z_ix_in h7), (z_ix_in h8), (z_ix_in h9), (z_ix_in h10), (z_ix_in h11), trivial⟩ (gx_fgt (ls' := [.ref 109, .int a1, .int (a2 + 1), .null]) ⟨Or.inr rfl, Or.inr rfl, Or.inr rfl, Or.inl rfl, trivial⟩ (hK98 a1 (a2 + 1) (gx_up (gx_up (gx_up (gx_up (gx_up σ 114 (((24 : Int32) * a1) + a2).toNatClampNeg (σ 126 a2.toNatClampNeg)) 115 (((24 : Int32) * a1) + a2).toNatClampNeg (((400 : Int32) * a1) + ((gx_up σ 114 (((24 : Int32) * a1) + a2).toNatClampNeg (σ 126 a2.toNatClampNeg)) 127 a2.toNatClampNeg))) 116 (((24 : Int32) * a1) + a2).toNatClampNeg ((gx_up (gx_up σ 114 (((24 : Int32) * a1) + a2).toNatClampNeg (σ 126 a2.toNatClampNeg)) 115 (((24 : Int32) * a1) + a2).toNatClampNeg (((400 : Int32) * a1) + ((gx_up σ 114 (((24 : Int32) * a1) + a2).toNatClampNeg (σ 126 a2.toNatClampNeg)) 127 a2.toNatClampNeg))) 128 a2.toNatClampNeg)) 117 (((24 : Int32) * a1) + a2).toNatClampNeg ((gx_up (gx_up (gx_up σ 114 (((24 : Int32) * a1) + a2).toNatClampNeg (σ 126 a2.toNatClampNeg)) 115 (((24 : Int32) * a1) + a2).toNatClampNeg (((400 : Int32) * a1) + ((gx_up σ 114 (((24 : Int32) * a1) + a2).toNatClampNeg (σ 126 a2.toNatClampNeg)) 127 a2.toNatClampNeg))) 116 (((24 : Int32) * a1) + a2).toNatClampNeg ((gx_up (gx_up σ 114 (((24 : Int32) * a1) + a2).toNatClampNeg (σ 126 a2.toNatClampNeg)) 115 (((24 : Int32) * a1) + a2).toNatClampNeg (((400 : Int32) * a1) + ((gx_up σ 114 (((24 : Int32) * a1) + a2).toNatClampNeg (σ 126 a2.toNatClampNeg)) 127 a2.toNatClampNeg))) 128 a2.toNatClampNeg)) 129 a2.toNatClampNeg)) 118 (((24 : Int32) * a1) + a2).toNatClampNeg ((gx_up (gx_up (gx_up (gx_up σ 114 (((24 : Int32) * a1) + a2).toNatClampNeg (σ 126 a2.toNatClampNeg)) 115 (((24 : Int32) * a1) + a2).toNatClampNeg (((400 : Int32) * a1) + ((gx_up σ 114 (((24 : Int32) * a1) + a2).toNatClampNeg (σ 126 a2.toNatClampNeg)) 127 a2.toNatClampNeg))) 116 (((24 : Int32) * a1) + a2).toNatClampNeg ((gx_up (gx_up σ 114 (((24 : Int32) * a1) + a2).toNatClampNeg (σ 126 a2.toNatClampNeg)) 115 (((24 : Int32) * a1) + a2).toNatClampNeg (((400 : Int32) * a1) + ((gx_up σ 114 (((24 : Int32) * a1) + a2).toNatClampNeg (σ 126 a2.toNatClampNeg)) 127 a2.toNatClampNeg))) 128 a2.toNatClampNeg)) 117 (((24 : Int32) * a1) + a2).toNatClampNeg ((gx_up (gx_up (gx_up σ 114 (((24 : Int32) * a1) + a2).toNatClampNeg (σ 126 a2.toNatClampNeg)) 115 (((24 : Int32) * a1) + a2).toNatClampNeg (((400 : Int32) * a1) + ((gx_up σ 114 (((24 : Int32) * a1) + a2).toNatClampNeg (σ 126 a2.toNatClampNeg)) 127 a2.toNatClampNeg))) 116 (((24 : Int32) * a1) + a2).toNatClampNeg ((gx_up (gx_up σ 114 (((24 : Int32) * a1) + a2).toNatClampNeg (σ 126 a2.toNatClampNeg)) 115 (((24 : Int32) * a1) + a2).toNatClampNeg (((400 : Int32) * a1) + ((gx_up σ 114 (((24 : Int32) * a1) + a2).toNatClampNeg (σ 126 a2.toNatClampNeg)) 127 a2.toNatClampNeg))) 128 a2.toNatClampNeg)) 129 a2.toNatClampNeg)) 130 a2.toNatClampNeg)) hf))
set_option maxHeartbeats 16000000 in
set_option maxRecDepth 20000 in
theorem vv_Md_text_98 (D : Nat) (hD : 8 ≤ D + 1) (rr : Int32) (σ' : gx_R) : ∀ (n : Nat) (a1 : Int32) (a2 : Int32) (σ : gx_R), Md_text_98 n a1 a2 σ = some (rr, σ') → gx_Ev lay0 (E0 D) tt_190 (some (.int rr)) σ' 98 [.ref 109, .int a1, .int a2, .null] [] σ := by
  intro n
  induction n with
  | zero => intro a1 a2 σ  hf; cases hf
  | succ n ih => intro a1 a2 σ  hf; exact vv_Md_text_98_B D hD rr σ'  (Md_text_98 n) ih a1 a2 σ  hf
set_option maxHeartbeats 16000000 in
set_option maxRecDepth 20000 in
theorem vv_Md_text_54 (D : Nat) (hD : 8 ≤ D + 1) (rr : Int32) (σ' : gx_R) (K44 : gx_R → Option (Int32 × gx_R)) (hK44 : ∀ (σ : gx_R), K44  σ = some (rr, σ') → gx_Ev lay0 (E0 D) tt_190 (some (.int rr)) σ' 44 [.ref 109, .null, .null, .null] [] σ) (σ : gx_R) (hf : Md_text_54 K44  σ = some (rr, σ')) : gx_Ev lay0 (E0 D) tt_190 (some (.int rr)) σ' 54 [.ref 109, .null, .null, .null] [] σ := by
  unfold Md_text_54 at hf
  rcases z_if_inv hf with ⟨h1, hf⟩ | ⟨h1, hf⟩
  · obtain ⟨⟨⟩, σ3, h4, hf⟩ := z_bd_inv hf
    exact gx_go_ 6 [.inl 1, .inr (none, σ3)] [(σ 109 28).toInt = 0 + (0 : Nat), E0 D 174 [.ref 109] σ (none) σ3] 44 [.ref 109, .null, .null, .null] [] σ3 rfl ⟨(z_sw_in h1 (by decide)), (ww_Md_asks D (by omega) σ () σ3 h4), trivial⟩ (gx_fgt (ls' := [.ref 109, .null, .null, .null]) ⟨Or.inr rfl, Or.inl rfl, Or.inl rfl, Or.inl rfl, trivial⟩ (hK44 σ3 hf))
  · skip
    rcases z_if_inv hf with ⟨h5, hf⟩ | ⟨h5, hf⟩
    · obtain ⟨⟨⟩, σ7, h8, hf⟩ := z_bd_inv hf
      exact gx_go_ 6 [.inl 2, .inr (none, σ7)] [(σ 109 28).toInt = 0 + (1 : Nat), E0 D 177 [.ref 109] σ (none) σ7] 44 [.ref 109, .null, .null, .null] [] σ7 rfl ⟨(z_sw_in h5 (by decide)), (ww_Md_begins D (by omega) σ () σ7 h8), trivial⟩ (gx_fgt (ls' := [.ref 109, .null, .null, .null]) ⟨Or.inr rfl, Or.inl rfl, Or.inl rfl, Or.inl rfl, trivial⟩ (hK44 σ7 hf))
    · skip
      rcases z_if_inv hf with ⟨h9, hf⟩ | ⟨h9, hf⟩
      · obtain ⟨⟨⟩, σ11, h12, hf⟩ := z_bd_inv hf
        exact gx_go_ 6 [.inl 3, .inr (none, σ11)] [(σ 109 28).toInt = 0 + (2 : Nat), E0 D 182 [.ref 109] σ (none) σ11] 44 [.ref 109, .null, .null, .null] [] σ11 rfl ⟨(z_sw_in h9 (by decide)), (ww_Md_goesOn D (by omega) σ () σ11 h12), trivial⟩ (gx_fgt (ls' := [.ref 109, .null, .null, .null]) ⟨Or.inr rfl, Or.inl rfl, Or.inl rfl, Or.inl rfl, trivial⟩ (hK44 σ11 hf))
      · skip
        rcases z_if_inv hf with ⟨h13, hf⟩ | ⟨h13, hf⟩
        · obtain ⟨⟨⟩, σ15, h16, hf⟩ := z_bd_inv hf
          exact gx_go_ 6 [.inl 4, .inr (none, σ15)] [(σ 109 28).toInt = 0 + (3 : Nat), E0 D 183 [.ref 109] σ (none) σ15] 44 [.ref 109, .null, .null, .null] [] σ15 rfl ⟨(z_sw_in h13 (by decide)), (ww_Md_asksOn D (by omega) σ () σ15 h16), trivial⟩ (gx_fgt (ls' := [.ref 109, .null, .null, .null]) ⟨Or.inr rfl, Or.inl rfl, Or.inl rfl, Or.inl rfl, trivial⟩ (hK44 σ15 hf))
        · skip
          refine gx_go_ 2 [] [] 56 [.ref 109, .null, .null, .null] [.int (σ 109 28)] σ rfl trivial ?_
          refine gx_sw (td := 69) (tt := [57, 60, 63, 66]) (lo := 0) rfl rfl ?_
          rw [gx_swt_df (td := 69) (tt := [57, 60, 63, 66]) (lo := 0) ⟨Or.inr (z_sw_ne h1 (by decide)), Or.inr (z_sw_ne h5 (by decide)), Or.inr (z_sw_ne h9 (by decide)), Or.inr (z_sw_ne h13 (by decide)), trivial⟩]
          obtain ⟨⟨⟩, σ19, h20, hf⟩ := z_bd_inv hf
          exact gx_go_ 3 [.inr (none, σ19)] [E0 D 189 [.ref 109] σ (none) σ19] 44 [.ref 109, .null, .null, .null] [] σ19 rfl ⟨(ww_Md_clause D (by omega) σ () σ19 h20), trivial⟩ (gx_fgt (ls' := [.ref 109, .null, .null, .null]) ⟨Or.inr rfl, Or.inl rfl, Or.inl rfl, Or.inl rfl, trivial⟩ (hK44 σ19 hf))
set_option maxHeartbeats 16000000 in
set_option maxRecDepth 20000 in
theorem vv_Md_text_72 (D : Nat) (hD : 8 ≤ D + 1) (rr : Int32) (σ' : gx_R) (σ : gx_R) (hf : Md_text_72  σ = some (rr, σ')) : gx_Ev lay0 (E0 D) tt_190 (some (.int rr)) σ' 72 [.ref 109, .null, .null, .null] [] σ := by
  unfold Md_text_72 at hf
  rcases z_if_inv hf with ⟨h1, hf⟩ | ⟨h1, hf⟩
  · obtain ⟨h2, hf⟩ := z_ck_inv hf
    exact gx_go_ 24 [.inl 1] [((gx_up (gx_up σ 109 4 (σ 109 19)) 109 5 ((gx_up σ 109 4 (σ 109 19)) 109 20)) 109 19) ≤ 0, vp_in (2 : Int32) 8880, vp_in ((gx_up (gx_up σ 109 4 (σ 109 19)) 109 5 ((gx_up σ 109 4 (σ 109 19)) 109 20)) 110 ((2 : Int32).toNatClampNeg)) 4] 98 [.ref 109, .int ((gx_up (gx_up σ 109 4 (σ 109 19)) 109 5 ((gx_up σ 109 4 (σ 109 19)) 109 20)) 110 ((2 : Int32).toNatClampNeg)), .int (0 : Int32), .null] [] (gx_up (gx_up (gx_up σ 109 4 (σ 109 19)) 109 5 ((gx_up σ 109 4 (σ 109 19)) 109 20)) 113 ((gx_up (gx_up σ 109 4 (σ 109 19)) 109 5 ((gx_up σ 109 4 (σ 109 19)) 109 20)) 110 ((2 : Int32).toNatClampNeg)).toNatClampNeg ((gx_up (gx_up σ 109 4 (σ 109 19)) 109 5 ((gx_up σ 109 4 (σ 109 19)) 109 20)) 109 30)) rfl ⟨h1, (z_ix_in rfl), (z_ix_in h2), trivial⟩ (gx_fgt (ls' := [.ref 109, .int ((gx_up (gx_up σ 109 4 (σ 109 19)) 109 5 ((gx_up σ 109 4 (σ 109 19)) 109 20)) 110 ((2 : Int32).toNatClampNeg)), .int (0 : Int32), .null]) ⟨Or.inr rfl, Or.inr rfl, Or.inr rfl, Or.inl rfl, trivial⟩ (vv_Md_text_98 D hD rr σ' z_FU ((gx_up (gx_up σ 109 4 (σ 109 19)) 109 5 ((gx_up σ 109 4 (σ 109 19)) 109 20)) 110 ((2 : Int32).toNatClampNeg)) (0 : Int32) (gx_up (gx_up (gx_up σ 109 4 (σ 109 19)) 109 5 ((gx_up σ 109 4 (σ 109 19)) 109 20)) 113 ((gx_up (gx_up σ 109 4 (σ 109 19)) 109 5 ((gx_up σ 109 4 (σ 109 19)) 109 20)) 110 ((2 : Int32).toNatClampNeg)).toNatClampNeg ((gx_up (gx_up σ 109 4 (σ 109 19)) 109 5 ((gx_up σ 109 4 (σ 109 19)) 109 20)) 109 30)) hf))
  · obtain ⟨e1, e2⟩ := z_ret hf
    subst e1
    subst e2
    exact gx_end 13 [.inl 0] [¬ (((gx_up (gx_up σ 109 4 (σ 109 19)) 109 5 ((gx_up σ 109 4 (σ 109 19)) 109 20)) 109 19) ≤ 0)] rfl ⟨h1, trivial⟩
set_option maxHeartbeats 16000000 in
set_option maxRecDepth 20000 in
theorem vv_Md_text_44_B (D : Nat) (hD : 8 ≤ D + 1) (rr : Int32) (σ' : gx_R) (K44 : gx_R → Option (Int32 × gx_R)) (hK44 : ∀ (σ : gx_R), K44  σ = some (rr, σ') → gx_Ev lay0 (E0 D) tt_190 (some (.int rr)) σ' 44 [.ref 109, .null, .null, .null] [] σ) (σ : gx_R) (hf : Md_text_44_B K44  σ = some (rr, σ')) : gx_Ev lay0 (E0 D) tt_190 (some (.int rr)) σ' 44 [.ref 109, .null, .null, .null] [] σ := by
  unfold Md_text_44_B at hf
  rcases z_if_inv hf with ⟨h1, hf⟩ | ⟨h1, hf⟩
  · rcases z_if_inv hf with ⟨h2, hf⟩ | ⟨h2, hf⟩
    · rcases z_if_inv hf with ⟨h3, hf⟩ | ⟨h3, hf⟩
      · exact gx_go_ 10 [.inl 0, .inl 0, .inl 1] [¬ ¬ ((σ 109 19) = 0), ¬ ¬ ((σ 109 28) = (4 : Int32)), (σ 109 17) = 0] 72 [.ref 109, .null, .null, .null] [] σ rfl ⟨(fun q => q h1), (fun q => q h2), h3, trivial⟩ (gx_fgt (ls' := [.ref 109, .null, .null, .null]) ⟨Or.inr rfl, Or.inl rfl, Or.inl rfl, Or.inl rfl, trivial⟩ (vv_Md_text_72 D hD rr σ' σ hf))
      · exact gx_go_ 10 [.inl 0, .inl 0, .inl 0] [¬ ¬ ((σ 109 19) = 0), ¬ ¬ ((σ 109 28) = (4 : Int32)), ¬ ((σ 109 17) = 0)] 54 [.ref 109, .null, .null, .null] [] σ rfl ⟨(fun q => q h1), (fun q => q h2), h3, trivial⟩ (gx_fgt (ls' := [.ref 109, .null, .null, .null]) ⟨Or.inr rfl, Or.inl rfl, Or.inl rfl, Or.inl rfl, trivial⟩ (vv_Md_text_54 D hD rr σ' K44 hK44 σ hf))
    · exact gx_go_ 7 [.inl 0, .inl 1] [¬ ¬ ((σ 109 19) = 0), ¬ ((σ 109 28) = (4 : Int32))] 54 [.ref 109, .null, .null, .null] [] σ rfl ⟨(fun q => q h1), h2, trivial⟩ (gx_fgt (ls' := [.ref 109, .null, .null, .null]) ⟨Or.inr rfl, Or.inl rfl, Or.inl rfl, Or.inl rfl, trivial⟩ (vv_Md_text_54 D hD rr σ' K44 hK44 σ hf))
  · exact gx_go_ 3 [.inl 1] [¬ ((σ 109 19) = 0)] 72 [.ref 109, .null, .null, .null] [] σ rfl ⟨h1, trivial⟩ (gx_fgt (ls' := [.ref 109, .null, .null, .null]) ⟨Or.inr rfl, Or.inl rfl, Or.inl rfl, Or.inl rfl, trivial⟩ (vv_Md_text_72 D hD rr σ' σ hf))
set_option maxHeartbeats 16000000 in
set_option maxRecDepth 20000 in
theorem vv_Md_text_44 (D : Nat) (hD : 8 ≤ D + 1) (rr : Int32) (σ' : gx_R) : ∀ (n : Nat) (σ : gx_R), Md_text_44 n  σ = some (rr, σ') → gx_Ev lay0 (E0 D) tt_190 (some (.int rr)) σ' 44 [.ref 109, .null, .null, .null] [] σ := by
  intro n
  induction n with
  | zero => intro  σ  hf; cases hf
  | succ n ih => intro  σ  hf; exact vv_Md_text_44_B D hD rr σ'  (Md_text_44 n) ih  σ  hf
set_option maxHeartbeats 16000000 in
set_option maxRecDepth 20000 in
theorem vv_Md_text_E (D : Nat) (hD : 8 ≤ D + 1) (rr : Int32) (σ' : gx_R) (σ : gx_R) (hf : Md_text  σ = some (rr, σ')) : gx_Ev lay0 (E0 D) tt_190 (some (.int rr)) σ' 0 [.ref 109, .null, .null, .null] [] σ := by
  unfold Md_text at hf
  rcases z_if_inv hf with ⟨h1, hf⟩ | ⟨h1, hf⟩
  · obtain ⟨e1, e2⟩ := z_ret hf
    subst e1
    subst e2
    exact gx_end 8 [.inl 0] [vp_in (2 : Int32) 8880, ¬ ¬ ((σ 110 ((2 : Int32).toNatClampNeg)) = (4 : Int32))] rfl ⟨(z_ix_in rfl), (fun q => q h1), trivial⟩
  · obtain ⟨⟨⟩, σ3, h4, hf⟩ := z_bd_inv hf
    exact gx_go_ 42 [.inl 1, .inr (none, σ3)] [vp_in (2 : Int32) 8880, ¬ ((σ 110 ((2 : Int32).toNatClampNeg)) = (4 : Int32)), E0 D 163 [.ref 109] (gx_up (gx_up (gx_up (gx_up (gx_up (gx_up (gx_up (gx_up (gx_up (gx_up (gx_up σ 109 14 (σ 109 3)) 109 3 (0 : Int32)) 109 15 (0 : Int32)) 109 19 (0 : Int32)) 109 20 (-1 : Int32)) 109 21 (0 : Int32)) 109 22 (0 : Int32)) 109 25 (0 : Int32)) 109 28 (4 : Int32)) 109 30 (0 : Int32)) 109 37 (0 : Int32)) (none) σ3] 44 [.ref 109, .null, .null, .null] [] σ3 rfl ⟨(z_ix_in rfl), h1, (ww_Md_next D (by omega) (gx_up (gx_up (gx_up (gx_up (gx_up (gx_up (gx_up (gx_up (gx_up (gx_up (gx_up σ 109 14 (σ 109 3)) 109 3 (0 : Int32)) 109 15 (0 : Int32)) 109 19 (0 : Int32)) 109 20 (-1 : Int32)) 109 21 (0 : Int32)) 109 22 (0 : Int32)) 109 25 (0 : Int32)) 109 28 (4 : Int32)) 109 30 (0 : Int32)) 109 37 (0 : Int32)) () σ3 h4), trivial⟩ (gx_fgt (ls' := [.ref 109, .null, .null, .null]) ⟨Or.inr rfl, Or.inl rfl, Or.inl rfl, Or.inl rfl, trivial⟩ (vv_Md_text_44 D hD rr σ' z_FU σ3 hf))
set_option maxHeartbeats 16000000 in
set_option maxRecDepth 20000 in
theorem ww_Md_text (D : Nat) (hD : 8 ≤ D) (σ : gx_R) (rr : Int32) (σ' : gx_R) (hf : Md_text  σ = some (rr, σ')) : E0 D 190 [.ref 109] σ (some (.int rr)) σ' := by
  cases D with
  | zero => omega
  | succ D => exact Or.inl ⟨Nat.le_of_ble_eq_true rfl, vv_Md_text_E D hD rr σ' σ hf⟩
set_option maxHeartbeats 16000000 in
set_option maxRecDepth 20000 in
theorem vv_Md_fault_E (D : Nat) (hD : 1 ≤ D + 1) (rr : Int32) (σ' : gx_R) (a1 : Int32) (σ : gx_R) (hf : Md_fault a1 σ = some (rr, σ')) : gx_Ev lay0 (E0 D) tt_191 (some (.int rr)) σ' 0 [.ref 109, .int a1] [] σ := by
  unfold Md_fault at hf
  rcases z_if_inv hf with ⟨h1, hf⟩ | ⟨h1, hf⟩
  · obtain ⟨e1, e2⟩ := z_ret hf
    subst e1
    subst e2
    exact gx_end 6 [.inl 0] [¬ ¬ (a1 = 0)] rfl ⟨(fun q => q h1), trivial⟩
  · rcases z_if_inv hf with ⟨h2, hf⟩ | ⟨h2, hf⟩
    · obtain ⟨e1, e2⟩ := z_ret hf
      subst e1
      subst e2
      exact gx_end 9 [.inl 1, .inl 0] [¬ (a1 = 0), ¬ ¬ (a1 = (1 : Int32))] rfl ⟨h1, (fun q => q h2), trivial⟩
    · obtain ⟨e1, e2⟩ := z_ret hf
      subst e1
      subst e2
      exact gx_end 7 [.inl 1, .inl 1] [¬ (a1 = 0), ¬ (a1 = (1 : Int32))] rfl ⟨h1, h2, trivial⟩
set_option maxHeartbeats 16000000 in
set_option maxRecDepth 20000 in
theorem ww_Md_fault (D : Nat) (hD : 1 ≤ D) (a1 : Int32) (σ : gx_R) (rr : Int32) (σ' : gx_R) (hf : Md_fault a1 σ = some (rr, σ')) : E0 D 191 [.ref 109, .int a1] σ (some (.int rr)) σ' := by
  cases D with
  | zero => omega
  | succ D => exact Or.inl ⟨Nat.le_of_ble_eq_true rfl, vv_Md_fault_E D hD rr σ' a1 σ hf⟩
set_option maxHeartbeats 16000000 in
set_option maxRecDepth 20000 in
theorem vv_Md_bound_E (D : Nat) (hD : 1 ≤ D + 1) (rr : Int64) (σ' : gx_R) (l0 : Int64) (σ : gx_R) (hf : Md_bound l0 σ = some (rr, σ')) : gx_Ev lay0 (E0 D) tt_192 (some (.long rr)) σ' 0 [.long l0, .null] [] σ := by
  unfold Md_bound at hf
  rcases z_if_inv hf with ⟨h1, hf⟩ | ⟨h1, hf⟩
  · rcases z_if_inv hf with ⟨h2, hf⟩ | ⟨h2, hf⟩
    · obtain ⟨e1, e2⟩ := z_ret hf
      subst e1
      subst e2
      exact gx_end 10 [.inl 1, .inl 1] [(lg_cmp l0 (1000000 : Int64)) ≤ 0, 0 ≤ (lg_cmp l0 (-1000000 : Int64))] rfl ⟨h1, h2, trivial⟩
    · obtain ⟨e1, e2⟩ := z_ret hf
      subst e1
      subst e2
      exact gx_end 11 [.inl 1, .inl 0] [(lg_cmp l0 (1000000 : Int64)) ≤ 0, ¬ (0 ≤ (lg_cmp l0 (-1000000 : Int64)))] rfl ⟨h1, h2, trivial⟩
  · obtain ⟨e1, e2⟩ := z_ret hf
    subst e1
    subst e2
    exact gx_end 7 [.inl 0] [¬ ((lg_cmp l0 (1000000 : Int64)) ≤ 0)] rfl ⟨h1, trivial⟩
set_option maxHeartbeats 16000000 in
set_option maxRecDepth 20000 in
theorem ww_Md_bound (D : Nat) (hD : 1 ≤ D) (l0 : Int64) (σ : gx_R) (rr : Int64) (σ' : gx_R) (hf : Md_bound l0 σ = some (rr, σ')) : E0 D 192 [.long l0] σ (some (.long rr)) σ' := by
  cases D with
  | zero => omega
  | succ D => exact Or.inl ⟨Nat.le_of_ble_eq_true rfl, vv_Md_bound_E D hD rr σ' l0 σ hf⟩
set_option maxHeartbeats 16000000 in
set_option maxRecDepth 20000 in
theorem vv_Md_worked_E (D : Nat) (hD : 2 ≤ D + 1) (rr : Int64) (σ' : gx_R) (a0 : Int32) (l1 : Int64) (l3 : Int64) (σ : gx_R) (hf : Md_worked a0 l1 l3 σ = some (rr, σ')) : gx_Ev lay0 (E0 D) tt_193 (some (.long rr)) σ' 0 [.int a0, .long l1, .null, .long l3, .null] [] σ := by
  unfold Md_worked at hf
  rcases z_if_inv hf with ⟨h1, hf⟩ | ⟨h1, hf⟩
  · rcases z_if_inv hf with ⟨h2, hf⟩ | ⟨h2, hf⟩
    · obtain ⟨e1, e2⟩ := z_ret hf
      subst e1
      subst e2
      exact gx_end 8 [.inl 1, .inl 1] [Op.lookupswitch.offset [(35, 170), (42, 113), (43, 99), (45, 106), (47, 120), (60, 134), (61, 158), (62, 146), (300, 182), (301, 194), (406, 206)] 210 a0.toInt = 170, (lg_cmp l1 l3) = 0] rfl ⟨(by rw [h1]; decide +kernel), h2, trivial⟩
    · obtain ⟨e1, e2⟩ := z_ret hf
      subst e1
      subst e2
      exact gx_end 9 [.inl 1, .inl 0] [Op.lookupswitch.offset [(35, 170), (42, 113), (43, 99), (45, 106), (47, 120), (60, 134), (61, 158), (62, 146), (300, 182), (301, 194), (406, 206)] 210 a0.toInt = 170, ¬ ((lg_cmp l1 l3) = 0)] rfl ⟨(by rw [h1]; decide +kernel), h2, trivial⟩
  · skip
    rcases z_if_inv hf with ⟨h3, hf⟩ | ⟨h3, hf⟩
    · obtain ⟨r4, σ5, h6, hf⟩ := z_bd_inv hf
      obtain ⟨e1, e2⟩ := z_ret hf
      subst e1
      subst e2
      exact gx_end 7 [.inl 2, .inr (some (.long r4), σ5)] [Op.lookupswitch.offset [(35, 170), (42, 113), (43, 99), (45, 106), (47, 120), (60, 134), (61, 158), (62, 146), (300, 182), (301, 194), (406, 206)] 210 a0.toInt = 113, E0 D 192 [.long (l1 * l3)] σ (some (.long r4)) σ5] rfl ⟨(by rw [h3]; decide +kernel), (ww_Md_bound D (by omega) (l1 * l3) σ r4 σ5 h6), trivial⟩
    · skip
      rcases z_if_inv hf with ⟨h7, hf⟩ | ⟨h7, hf⟩
      · obtain ⟨r8, σ9, h10, hf⟩ := z_bd_inv hf
        obtain ⟨e1, e2⟩ := z_ret hf
        subst e1
        subst e2
        exact gx_end 7 [.inl 3, .inr (some (.long r8), σ9)] [Op.lookupswitch.offset [(35, 170), (42, 113), (43, 99), (45, 106), (47, 120), (60, 134), (61, 158), (62, 146), (300, 182), (301, 194), (406, 206)] 210 a0.toInt = 99, E0 D 192 [.long (l1 + l3)] σ (some (.long r8)) σ9] rfl ⟨(by rw [h7]; decide +kernel), (ww_Md_bound D (by omega) (l1 + l3) σ r8 σ9 h10), trivial⟩
      · skip
        rcases z_if_inv hf with ⟨h11, hf⟩ | ⟨h11, hf⟩
        · obtain ⟨r12, σ13, h14, hf⟩ := z_bd_inv hf
          obtain ⟨e1, e2⟩ := z_ret hf
          subst e1
          subst e2
          exact gx_end 7 [.inl 4, .inr (some (.long r12), σ13)] [Op.lookupswitch.offset [(35, 170), (42, 113), (43, 99), (45, 106), (47, 120), (60, 134), (61, 158), (62, 146), (300, 182), (301, 194), (406, 206)] 210 a0.toInt = 106, E0 D 192 [.long (l1 - l3)] σ (some (.long r12)) σ13] rfl ⟨(by rw [h11]; decide +kernel), (ww_Md_bound D (by omega) (l1 - l3) σ r12 σ13 h14), trivial⟩
        · skip
          rcases z_if_inv hf with ⟨h15, hf⟩ | ⟨h15, hf⟩
          · rcases z_if_inv hf with ⟨h16, hf⟩ | ⟨h16, hf⟩
            · obtain ⟨e1, e2⟩ := z_ret hf
              subst e1
              subst e2
              exact gx_end 9 [.inl 5, .inl 0] [Op.lookupswitch.offset [(35, 170), (42, 113), (43, 99), (45, 106), (47, 120), (60, 134), (61, 158), (62, 146), (300, 182), (301, 194), (406, 206)] 210 a0.toInt = 120, ¬ ¬ ((lg_cmp l3 (0 : Int64)) = 0)] rfl ⟨(by rw [h15]; decide +kernel), (fun q => q h16), trivial⟩
            · obtain ⟨h17, hf⟩ := z_ck_inv hf
              obtain ⟨e1, e2⟩ := z_ret hf
              subst e1
              subst e2
              exact gx_end 10 [.inl 5, .inl 1] [Op.lookupswitch.offset [(35, 170), (42, 113), (43, 99), (45, 106), (47, 120), (60, 134), (61, 158), (62, 146), (300, 182), (301, 194), (406, 206)] 210 a0.toInt = 120, ¬ ((lg_cmp l3 (0 : Int64)) = 0), ¬ l3 = 0] rfl ⟨(by rw [h15]; decide +kernel), h16, (z_nzl_in h17), trivial⟩
          · skip
            rcases z_if_inv hf with ⟨h18, hf⟩ | ⟨h18, hf⟩
            · rcases z_if_inv hf with ⟨h19, hf⟩ | ⟨h19, hf⟩
              · obtain ⟨e1, e2⟩ := z_ret hf
                subst e1
                subst e2
                exact gx_end 8 [.inl 6, .inl 1] [Op.lookupswitch.offset [(35, 170), (42, 113), (43, 99), (45, 106), (47, 120), (60, 134), (61, 158), (62, 146), (300, 182), (301, 194), (406, 206)] 210 a0.toInt = 134, 0 ≤ (lg_cmp l1 l3)] rfl ⟨(by rw [h18]; decide +kernel), h19, trivial⟩
              · obtain ⟨e1, e2⟩ := z_ret hf
                subst e1
                subst e2
                exact gx_end 9 [.inl 6, .inl 0] [Op.lookupswitch.offset [(35, 170), (42, 113), (43, 99), (45, 106), (47, 120), (60, 134), (61, 158), (62, 146), (300, 182), (301, 194), (406, 206)] 210 a0.toInt = 134, ¬ (0 ≤ (lg_cmp l1 l3))] rfl ⟨(by rw [h18]; decide +kernel), h19, trivial⟩
            · skip
              rcases z_if_inv hf with ⟨h20, hf⟩ | ⟨h20, hf⟩
              · rcases z_if_inv hf with ⟨h21, hf⟩ | ⟨h21, hf⟩
                · obtain ⟨e1, e2⟩ := z_ret hf
                  subst e1
                  subst e2
                  exact gx_end 9 [.inl 7, .inl 0] [Op.lookupswitch.offset [(35, 170), (42, 113), (43, 99), (45, 106), (47, 120), (60, 134), (61, 158), (62, 146), (300, 182), (301, 194), (406, 206)] 210 a0.toInt = 158, ¬ ¬ ((lg_cmp l1 l3) = 0)] rfl ⟨(by rw [h20]; decide +kernel), (fun q => q h21), trivial⟩
                · obtain ⟨e1, e2⟩ := z_ret hf
                  subst e1
                  subst e2
                  exact gx_end 8 [.inl 7, .inl 1] [Op.lookupswitch.offset [(35, 170), (42, 113), (43, 99), (45, 106), (47, 120), (60, 134), (61, 158), (62, 146), (300, 182), (301, 194), (406, 206)] 210 a0.toInt = 158, ¬ ((lg_cmp l1 l3) = 0)] rfl ⟨(by rw [h20]; decide +kernel), h21, trivial⟩
              · skip
                rcases z_if_inv hf with ⟨h22, hf⟩ | ⟨h22, hf⟩
                · rcases z_if_inv hf with ⟨h23, hf⟩ | ⟨h23, hf⟩
                  · obtain ⟨e1, e2⟩ := z_ret hf
                    subst e1
                    subst e2
                    exact gx_end 8 [.inl 8, .inl 1] [Op.lookupswitch.offset [(35, 170), (42, 113), (43, 99), (45, 106), (47, 120), (60, 134), (61, 158), (62, 146), (300, 182), (301, 194), (406, 206)] 210 a0.toInt = 146, (lg_cmp l1 l3) ≤ 0] rfl ⟨(by rw [h22]; decide +kernel), h23, trivial⟩
                  · obtain ⟨e1, e2⟩ := z_ret hf
                    subst e1
                    subst e2
                    exact gx_end 9 [.inl 8, .inl 0] [Op.lookupswitch.offset [(35, 170), (42, 113), (43, 99), (45, 106), (47, 120), (60, 134), (61, 158), (62, 146), (300, 182), (301, 194), (406, 206)] 210 a0.toInt = 146, ¬ ((lg_cmp l1 l3) ≤ 0)] rfl ⟨(by rw [h22]; decide +kernel), h23, trivial⟩
                · skip
                  rcases z_if_inv hf with ⟨h24, hf⟩ | ⟨h24, hf⟩
                  · rcases z_if_inv hf with ⟨h25, hf⟩ | ⟨h25, hf⟩
                    · obtain ⟨e1, e2⟩ := z_ret hf
                      subst e1
                      subst e2
                      exact gx_end 8 [.inl 9, .inl 1] [Op.lookupswitch.offset [(35, 170), (42, 113), (43, 99), (45, 106), (47, 120), (60, 134), (61, 158), (62, 146), (300, 182), (301, 194), (406, 206)] 210 a0.toInt = 182, 0 < (lg_cmp l1 l3)] rfl ⟨(by rw [h24]; decide +kernel), h25, trivial⟩
                    · obtain ⟨e1, e2⟩ := z_ret hf
                      subst e1
                      subst e2
                      exact gx_end 9 [.inl 9, .inl 0] [Op.lookupswitch.offset [(35, 170), (42, 113), (43, 99), (45, 106), (47, 120), (60, 134), (61, 158), (62, 146), (300, 182), (301, 194), (406, 206)] 210 a0.toInt = 182, ¬ (0 < (lg_cmp l1 l3))] rfl ⟨(by rw [h24]; decide +kernel), h25, trivial⟩
                  · skip
                    rcases z_if_inv hf with ⟨h26, hf⟩ | ⟨h26, hf⟩
                    · rcases z_if_inv hf with ⟨h27, hf⟩ | ⟨h27, hf⟩
                      · obtain ⟨e1, e2⟩ := z_ret hf
                        subst e1
                        subst e2
                        exact gx_end 8 [.inl 10, .inl 1] [Op.lookupswitch.offset [(35, 170), (42, 113), (43, 99), (45, 106), (47, 120), (60, 134), (61, 158), (62, 146), (300, 182), (301, 194), (406, 206)] 210 a0.toInt = 194, (lg_cmp l1 l3) < 0] rfl ⟨(by rw [h26]; decide +kernel), h27, trivial⟩
                      · obtain ⟨e1, e2⟩ := z_ret hf
                        subst e1
                        subst e2
                        exact gx_end 9 [.inl 10, .inl 0] [Op.lookupswitch.offset [(35, 170), (42, 113), (43, 99), (45, 106), (47, 120), (60, 134), (61, 158), (62, 146), (300, 182), (301, 194), (406, 206)] 210 a0.toInt = 194, ¬ ((lg_cmp l1 l3) < 0)] rfl ⟨(by rw [h26]; decide +kernel), h27, trivial⟩
                    · skip
                      rcases z_if_inv hf with ⟨h28, hf⟩ | ⟨h28, hf⟩
                      · obtain ⟨e1, e2⟩ := z_ret hf
                        subst e1
                        subst e2
                        exact gx_end 6 [.inl 11] [Op.lookupswitch.offset [(35, 170), (42, 113), (43, 99), (45, 106), (47, 120), (60, 134), (61, 158), (62, 146), (300, 182), (301, 194), (406, 206)] 210 a0.toInt = 206] rfl ⟨(by rw [h28]; decide +kernel), trivial⟩
                      · skip
                        rcases z_if_inv hf with ⟨h30, hf⟩ | ⟨h30, hf⟩
                        · obtain ⟨e1, e2⟩ := z_ret hf
                          subst e1
                          subst e2
                          exact gx_end 10 [.inl 0, .inl 1] [Op.lookupswitch.offset [(35, 170), (42, 113), (43, 99), (45, 106), (47, 120), (60, 134), (61, 158), (62, 146), (300, 182), (301, 194), (406, 206)] 210 a0.toInt = 210, (lg_cmp (l1 + l3) (0 : Int64)) ≤ 0] rfl ⟨(z_lkn h1 (by decide) (z_lkn h3 (by decide) (z_lkn h7 (by decide) (z_lkn h11 (by decide) (z_lkn h15 (by decide) (z_lkn h18 (by decide) (z_lkn h20 (by decide) (z_lkn h22 (by decide) (z_lkn h24 (by decide) (z_lkn h26 (by decide) (z_lkn h28 (by decide) rfl))))))))))), h30, trivial⟩
                        · obtain ⟨e1, e2⟩ := z_ret hf
                          subst e1
                          subst e2
                          exact gx_end 11 [.inl 0, .inl 0] [Op.lookupswitch.offset [(35, 170), (42, 113), (43, 99), (45, 106), (47, 120), (60, 134), (61, 158), (62, 146), (300, 182), (301, 194), (406, 206)] 210 a0.toInt = 210, ¬ ((lg_cmp (l1 + l3) (0 : Int64)) ≤ 0)] rfl ⟨(z_lkn h1 (by decide) (z_lkn h3 (by decide) (z_lkn h7 (by decide) (z_lkn h11 (by decide) (z_lkn h15 (by decide) (z_lkn h18 (by decide) (z_lkn h20 (by decide) (z_lkn h22 (by decide) (z_lkn h24 (by decide) (z_lkn h26 (by decide) (z_lkn h28 (by decide) rfl))))))))))), h30, trivial⟩
set_option maxHeartbeats 16000000 in
set_option maxRecDepth 20000 in
theorem ww_Md_worked (D : Nat) (hD : 2 ≤ D) (a0 : Int32) (l1 : Int64) (l3 : Int64) (σ : gx_R) (rr : Int64) (σ' : gx_R) (hf : Md_worked a0 l1 l3 σ = some (rr, σ')) : E0 D 193 [.int a0, .long l1, .long l3] σ (some (.long rr)) σ' := by
  cases D with
  | zero => omega
  | succ D => exact Or.inl ⟨Nat.le_of_ble_eq_true rfl, vv_Md_worked_E D hD rr σ' a0 l1 l3 σ hf⟩
set_option maxHeartbeats 16000000 in
set_option maxRecDepth 20000 in
theorem vv_Md_saysOf_63 (D : Nat) (hD : 3 ≤ D + 1) (rr : Int64) (σ' : gx_R) (K130 : Int32 → Int32 → gx_R → Option (Int64 × gx_R)) (hK130 : ∀ (a2 : Int32) (a3 : Int32) (σ : gx_R), K130 a2 a3 σ = some (rr, σ') → gx_Ev lay0 (E0 D) tt_194 (some (.long rr)) σ' 130 [.ref 109, .null, .int a2, .int a3, .null] [] σ) (a2 : Int32) (s0 : Int32) (σ : gx_R) (hf : Md_saysOf_63 K130 a2 s0 σ = some (rr, σ')) : gx_Ev lay0 (E0 D) tt_194 (some (.long rr)) σ' 63 [.ref 109, .null, .int a2, .null, .null] [.int s0] σ := by
  unfold Md_saysOf_63 at hf
  exact gx_go_ 2 [] [] 130 [.ref 109, .null, .int a2, .int s0, .null] [] σ rfl trivial (gx_fgt (ls' := [.ref 109, .null, .int a2, .int s0, .null]) ⟨Or.inr rfl, Or.inl rfl, Or.inr rfl, Or.inr rfl, Or.inl rfl, trivial⟩ (hK130 a2 s0 σ hf))
set_option maxHeartbeats 16000000 in
set_option maxRecDepth 20000 in
theorem vv_Md_saysOf_41 (D : Nat) (hD : 3 ≤ D + 1) (rr : Int64) (σ' : gx_R) (K130 : Int32 → Int32 → gx_R → Option (Int64 × gx_R)) (hK130 : ∀ (a2 : Int32) (a3 : Int32) (σ : gx_R), K130 a2 a3 σ = some (rr, σ') → gx_Ev lay0 (E0 D) tt_194 (some (.long rr)) σ' 130 [.ref 109, .null, .int a2, .int a3, .null] [] σ) (a2 : Int32) (a3 : Int32) (s1 : Int32) (s2 : Int64) (σ : gx_R) (hf : Md_saysOf_41 K130 a2 a3 s1 s2 σ = some (rr, σ')) : gx_Ev lay0 (E0 D) tt_194 (some (.long rr)) σ' 41 [.ref 109, .null, .int a2, .int a3, .null] [.long s2, .int s1, .ref 134] σ := by
  unfold Md_saysOf_41 at hf
  obtain ⟨h1, hf⟩ := z_ck_inv hf
  exact gx_go_ 3 [] [vp_in s1 200] 130 [.ref 109, .null, .int (a2 + 1), .int a3, .null] [] (gx_upl σ 134 s1.toNatClampNeg s2) rfl ⟨(z_ix_in h1), trivial⟩ (gx_fgt (ls' := [.ref 109, .null, .int (a2 + 1), .int a3, .null]) ⟨Or.inr rfl, Or.inl rfl, Or.inr rfl, Or.inr rfl, Or.inl rfl, trivial⟩ (hK130 (a2 + 1) a3 (gx_upl σ 134 s1.toNatClampNeg s2) hf))
set_option maxHeartbeats 16000000 in
set_option maxRecDepth 20000 in
theorem vv_Md_saysOf_21 (D : Nat) (hD : 3 ≤ D + 1) (rr : Int64) (σ' : gx_R) (K130 : Int32 → Int32 → gx_R → Option (Int64 × gx_R)) (hK130 : ∀ (a2 : Int32) (a3 : Int32) (σ : gx_R), K130 a2 a3 σ = some (rr, σ') → gx_Ev lay0 (E0 D) tt_194 (some (.long rr)) σ' 130 [.ref 109, .null, .int a2, .int a3, .null] [] σ) (a2 : Int32) (a3 : Int32) (a4 : Int32) (σ : gx_R) (hf : Md_saysOf_21 K130 a2 a3 a4 σ = some (rr, σ')) : gx_Ev lay0 (E0 D) tt_194 (some (.long rr)) σ' 21 [.ref 109, .null, .int a2, .int a3, .int a4] [] σ := by
  unfold Md_saysOf_21 at hf
  rcases z_if_inv hf with ⟨h1, hf⟩ | ⟨h1, hf⟩
  · obtain ⟨h2, hf⟩ := z_ck_inv hf
    exact gx_go_ 12 [.inl 0] [¬ ¬ (a4 = (400 : Int32)), vp_in a3 1600] 41 [.ref 109, .null, .int a2, .int a3, .int a4] [.long ((σ 120 a3.toNatClampNeg).toInt64), .int a2, .ref 134] σ rfl ⟨(fun q => q h1), (z_ix_in h2), trivial⟩ (gx_fgt (ls' := [.ref 109, .null, .int a2, .int a3, .null]) ⟨Or.inr rfl, Or.inl rfl, Or.inr rfl, Or.inr rfl, Or.inl rfl, trivial⟩ (vv_Md_saysOf_41 D hD rr σ' K130 hK130 a2 a3 a2 ((σ 120 a3.toNatClampNeg).toInt64) σ hf))
  · obtain ⟨h3, hf⟩ := z_ck_inv hf
    obtain ⟨h4, hf⟩ := z_ck_inv hf
    exact gx_go_ 14 [.inl 1] [¬ (a4 = (400 : Int32)), vp_in a3 1600, vp_in (σ 120 a3.toNatClampNeg) 11] 41 [.ref 109, .null, .int a2, .int a3, .int a4] [.long ((σ 133 ((σ 120 a3.toNatClampNeg).toNatClampNeg)).toInt64), .int a2, .ref 134] σ rfl ⟨h1, (z_ix_in h3), (z_ix_in h4), trivial⟩ (gx_fgt (ls' := [.ref 109, .null, .int a2, .int a3, .null]) ⟨Or.inr rfl, Or.inl rfl, Or.inr rfl, Or.inr rfl, Or.inl rfl, trivial⟩ (vv_Md_saysOf_41 D hD rr σ' K130 hK130 a2 a3 a2 ((σ 133 ((σ 120 a3.toNatClampNeg).toNatClampNeg)).toInt64) σ hf))
set_option maxHeartbeats 16000000 in
set_option maxRecDepth 20000 in
theorem vv_Md_saysOf_130 (D : Nat) (hD : 3 ≤ D + 1) (rr : Int64) (σ' : gx_R) (K4 : Int32 → Int32 → gx_R → Option (Int64 × gx_R)) (hK4 : ∀ (a2 : Int32) (a3 : Int32) (σ : gx_R), K4 a2 a3 σ = some (rr, σ') → gx_Ev lay0 (E0 D) tt_194 (some (.long rr)) σ' 4 [.ref 109, .null, .int a2, .int a3, .null] [] σ) (a2 : Int32) (a3 : Int32) (σ : gx_R) (hf : Md_saysOf_130 K4 a2 a3 σ = some (rr, σ')) : gx_Ev lay0 (E0 D) tt_194 (some (.long rr)) σ' 130 [.ref 109, .null, .int a2, .int a3, .null] [] σ := by
  unfold Md_saysOf_130 at hf
  exact gx_go_ 2 [] [] 4 [.ref 109, .null, .int a2, .int (a3 + 1), .null] [] σ rfl trivial (gx_fgt (ls' := [.ref 109, .null, .int a2, .int (a3 + 1), .null]) ⟨Or.inr rfl, Or.inl rfl, Or.inr rfl, Or.inr rfl, Or.inl rfl, trivial⟩ (hK4 a2 (a3 + 1) σ hf))
set_option maxHeartbeats 16000000 in
set_option maxRecDepth 20000 in
theorem vv_Md_saysOf_132 (D : Nat) (hD : 3 ≤ D + 1) (rr : Int64) (σ' : gx_R) (σ : gx_R) (hf : Md_saysOf_132  σ = some (rr, σ')) : gx_Ev lay0 (E0 D) tt_194 (some (.long rr)) σ' 132 [.ref 109, .null, .null, .null, .null] [] σ := by
  unfold Md_saysOf_132 at hf
  obtain ⟨e1, e2⟩ := z_ret hf
  subst e1
  subst e2
  exact gx_end 5 [] [vp_in (0 : Int32) 200] rfl ⟨(z_ix_in rfl), trivial⟩
set_option maxHeartbeats 16000000 in
set_option maxRecDepth 20000 in
theorem vv_Md_saysOf_4_B (D : Nat) (hD : 3 ≤ D + 1) (rr : Int64) (σ' : gx_R) (K4 : Int32 → Int32 → gx_R → Option (Int64 × gx_R)) (hK4 : ∀ (a2 : Int32) (a3 : Int32) (σ : gx_R), K4 a2 a3 σ = some (rr, σ') → gx_Ev lay0 (E0 D) tt_194 (some (.long rr)) σ' 4 [.ref 109, .null, .int a2, .int a3, .null] [] σ) (a2 : Int32) (a3 : Int32) (σ : gx_R) (hf : Md_saysOf_4_B K4 a2 a3 σ = some (rr, σ')) : gx_Ev lay0 (E0 D) tt_194 (some (.long rr)) σ' 4 [.ref 109, .null, .int a2, .int a3, .null] [] σ := by
  unfold Md_saysOf_4_B at hf
  obtain ⟨h1, hf⟩ := z_ck_inv hf
  rcases z_if_inv hf with ⟨h2, hf⟩ | ⟨h2, hf⟩
  · exact gx_go_ 6 [.inl 1] [vp_in a3 1600, (σ 119 a3.toNatClampNeg) = (408 : Int32)] 132 [.ref 109, .null, .int a2, .int a3, .null] [] σ rfl ⟨(z_ix_in h1), h2, trivial⟩ (gx_fgt (ls' := [.ref 109, .null, .null, .null, .null]) ⟨Or.inr rfl, Or.inl rfl, Or.inl rfl, Or.inl rfl, Or.inl rfl, trivial⟩ (vv_Md_saysOf_132 D hD rr σ' σ hf))
  · obtain ⟨h3, hf⟩ := z_ck_inv hf
    rcases z_if_inv hf with ⟨h4, hf⟩ | ⟨h4, hf⟩
    · exact gx_go_ 14 [.inl 0, .inl 1] [vp_in a3 1600, ¬ ((σ 119 a3.toNatClampNeg) = (408 : Int32)), vp_in a3 1600, (σ 119 a3.toNatClampNeg) = (400 : Int32)] 21 [.ref 109, .null, .int a2, .int a3, .int (σ 119 a3.toNatClampNeg)] [] σ rfl ⟨(z_ix_in h1), h2, (z_ix_in h3), h4, trivial⟩ (gx_fgt (ls' := [.ref 109, .null, .int a2, .int a3, .int (σ 119 a3.toNatClampNeg)]) ⟨Or.inr rfl, Or.inl rfl, Or.inr rfl, Or.inr rfl, Or.inr rfl, trivial⟩ (vv_Md_saysOf_21 D hD rr σ' (Md_saysOf_130 K4) (vv_Md_saysOf_130 D hD rr σ' K4 hK4) a2 a3 (σ 119 a3.toNatClampNeg) σ hf))
    · rcases z_if_inv hf with ⟨h5, hf⟩ | ⟨h5, hf⟩
      · exact gx_go_ 17 [.inl 0, .inl 0, .inl 0] [vp_in a3 1600, ¬ ((σ 119 a3.toNatClampNeg) = (408 : Int32)), vp_in a3 1600, ¬ ((σ 119 a3.toNatClampNeg) = (400 : Int32)), ¬ ¬ ((σ 119 a3.toNatClampNeg) = (401 : Int32))] 21 [.ref 109, .null, .int a2, .int a3, .int (σ 119 a3.toNatClampNeg)] [] σ rfl ⟨(z_ix_in h1), h2, (z_ix_in h3), h4, (fun q => q h5), trivial⟩ (gx_fgt (ls' := [.ref 109, .null, .int a2, .int a3, .int (σ 119 a3.toNatClampNeg)]) ⟨Or.inr rfl, Or.inl rfl, Or.inr rfl, Or.inr rfl, Or.inr rfl, trivial⟩ (vv_Md_saysOf_21 D hD rr σ' (Md_saysOf_130 K4) (vv_Md_saysOf_130 D hD rr σ' K4 hK4) a2 a3 (σ 119 a3.toNatClampNeg) σ hf))
      · rcases z_if_inv hf with ⟨h6, hf⟩ | ⟨h6, hf⟩
        · obtain ⟨h7, hf⟩ := z_ck_inv hf
          rcases z_if_inv hf with ⟨h8, hf⟩ | ⟨h8, hf⟩
          · obtain ⟨h9, hf⟩ := z_ck_inv hf
            exact gx_go_ 35 [.inl 0, .inl 0, .inl 1, .inl 0, .inl 0] [vp_in a3 1600, ¬ ((σ 119 a3.toNatClampNeg) = (408 : Int32)), vp_in a3 1600, ¬ ((σ 119 a3.toNatClampNeg) = (400 : Int32)), ¬ ((σ 119 a3.toNatClampNeg) = (401 : Int32)), ¬ ¬ ((σ 119 a3.toNatClampNeg) = (403 : Int32)), vp_in (a2 + (-1)) 200, ¬ ¬ ((lg_cmp (gx_l (σ 134) (a2 + (-1)).toNatClampNeg) (0 : Int64)) = 0), vp_in a3 1600] 63 [.ref 109, .null, .int (a2 + (-1)), .int a3, .int (σ 119 a3.toNatClampNeg)] [.int ((σ 120 a3.toNatClampNeg) - (1 : Int32))] σ rfl ⟨(z_ix_in h1), h2, (z_ix_in h3), h4, h5, (fun q => q h6), (z_ix_in h7), (fun q => q h8), (z_ix_in h9), trivial⟩ (gx_fgt (ls' := [.ref 109, .null, .int (a2 + (-1)), .null, .null]) ⟨Or.inr rfl, Or.inl rfl, Or.inr rfl, Or.inl rfl, Or.inl rfl, trivial⟩ (vv_Md_saysOf_63 D hD rr σ' (Md_saysOf_130 K4) (vv_Md_saysOf_130 D hD rr σ' K4 hK4) (a2 + (-1)) ((σ 120 a3.toNatClampNeg) - (1 : Int32)) σ hf))
          · exact gx_go_ 29 [.inl 0, .inl 0, .inl 1, .inl 0, .inl 1] [vp_in a3 1600, ¬ ((σ 119 a3.toNatClampNeg) = (408 : Int32)), vp_in a3 1600, ¬ ((σ 119 a3.toNatClampNeg) = (400 : Int32)), ¬ ((σ 119 a3.toNatClampNeg) = (401 : Int32)), ¬ ¬ ((σ 119 a3.toNatClampNeg) = (403 : Int32)), vp_in (a2 + (-1)) 200, ¬ ((lg_cmp (gx_l (σ 134) (a2 + (-1)).toNatClampNeg) (0 : Int64)) = 0)] 63 [.ref 109, .null, .int (a2 + (-1)), .int a3, .int (σ 119 a3.toNatClampNeg)] [.int a3] σ rfl ⟨(z_ix_in h1), h2, (z_ix_in h3), h4, h5, (fun q => q h6), (z_ix_in h7), h8, trivial⟩ (gx_fgt (ls' := [.ref 109, .null, .int (a2 + (-1)), .null, .null]) ⟨Or.inr rfl, Or.inl rfl, Or.inr rfl, Or.inl rfl, Or.inl rfl, trivial⟩ (vv_Md_saysOf_63 D hD rr σ' (Md_saysOf_130 K4) (vv_Md_saysOf_130 D hD rr σ' K4 hK4) (a2 + (-1)) a3 σ hf))
        · rcases z_if_inv hf with ⟨h10, hf⟩ | ⟨h10, hf⟩
          · obtain ⟨h11, hf⟩ := z_ck_inv hf
            exact gx_go_ 31 [.inl 0, .inl 0, .inl 1, .inl 1, .inl 0] [vp_in a3 1600, ¬ ((σ 119 a3.toNatClampNeg) = (408 : Int32)), vp_in a3 1600, ¬ ((σ 119 a3.toNatClampNeg) = (400 : Int32)), ¬ ((σ 119 a3.toNatClampNeg) = (401 : Int32)), ¬ ((σ 119 a3.toNatClampNeg) = (403 : Int32)), ¬ ¬ ((σ 119 a3.toNatClampNeg) = (404 : Int32)), vp_in a3 1600] 130 [.ref 109, .null, .int a2, .int ((σ 120 a3.toNatClampNeg) - (1 : Int32)), .int (σ 119 a3.toNatClampNeg)] [] σ rfl ⟨(z_ix_in h1), h2, (z_ix_in h3), h4, h5, h6, (fun q => q h10), (z_ix_in h11), trivial⟩ (gx_fgt (ls' := [.ref 109, .null, .int a2, .int ((σ 120 a3.toNatClampNeg) - (1 : Int32)), .null]) ⟨Or.inr rfl, Or.inl rfl, Or.inr rfl, Or.inr rfl, Or.inl rfl, trivial⟩ (vv_Md_saysOf_130 D hD rr σ' K4 hK4 a2 ((σ 120 a3.toNatClampNeg) - (1 : Int32)) σ hf))
          · rcases z_if_inv hf with ⟨h12, hf⟩ | ⟨h12, hf⟩
            · obtain ⟨h13, hf⟩ := z_ck_inv hf
              obtain ⟨h14, hf⟩ := z_ck_inv hf
              exact gx_go_ 40 [.inl 0, .inl 0, .inl 1, .inl 1, .inl 1, .inl 0] [vp_in a3 1600, ¬ ((σ 119 a3.toNatClampNeg) = (408 : Int32)), vp_in a3 1600, ¬ ((σ 119 a3.toNatClampNeg) = (400 : Int32)), ¬ ((σ 119 a3.toNatClampNeg) = (401 : Int32)), ¬ ((σ 119 a3.toNatClampNeg) = (403 : Int32)), ¬ ((σ 119 a3.toNatClampNeg) = (404 : Int32)), ¬ ¬ ((σ 119 a3.toNatClampNeg) = (402 : Int32)), vp_in (a2 - (1 : Int32)) 200, vp_in (a2 - (1 : Int32)) 200] 130 [.ref 109, .null, .int a2, .int a3, .int (σ 119 a3.toNatClampNeg)] [] (gx_upl σ 134 (a2 - (1 : Int32)).toNatClampNeg (-(gx_l (σ 134) (a2 - (1 : Int32)).toNatClampNeg))) rfl ⟨(z_ix_in h1), h2, (z_ix_in h3), h4, h5, h6, h10, (fun q => q h12), (z_ix_in h13), (z_ix_in h14), trivial⟩ (gx_fgt (ls' := [.ref 109, .null, .int a2, .int a3, .null]) ⟨Or.inr rfl, Or.inl rfl, Or.inr rfl, Or.inr rfl, Or.inl rfl, trivial⟩ (vv_Md_saysOf_130 D hD rr σ' K4 hK4 a2 a3 (gx_upl σ 134 (a2 - (1 : Int32)).toNatClampNeg (-(gx_l (σ 134) (a2 - (1 : Int32)).toNatClampNeg))) hf))
            · rcases z_if_inv hf with ⟨h15, hf⟩ | ⟨h15, hf⟩
              · obtain ⟨h16, hf⟩ := z_ck_inv hf
                obtain ⟨h17, hf⟩ := z_ck_inv hf
                exact gx_go_ 44 [.inl 0, .inl 0, .inl 1, .inl 1, .inl 1, .inl 1, .inl 0] [vp_in a3 1600, ¬ ((σ 119 a3.toNatClampNeg) = (408 : Int32)), vp_in a3 1600, ¬ ((σ 119 a3.toNatClampNeg) = (400 : Int32)), ¬ ((σ 119 a3.toNatClampNeg) = (401 : Int32)), ¬ ((σ 119 a3.toNatClampNeg) = (403 : Int32)), ¬ ((σ 119 a3.toNatClampNeg) = (404 : Int32)), ¬ ((σ 119 a3.toNatClampNeg) = (402 : Int32)), ¬ ¬ ((σ 119 a3.toNatClampNeg) = (405 : Int32)), vp_in (a2 - (1 : Int32)) 200, vp_in (a2 - (1 : Int32)) 200] 130 [.ref 109, .null, .int a2, .int a3, .int (σ 119 a3.toNatClampNeg)] [] (gx_upl σ 134 (a2 - (1 : Int32)).toNatClampNeg ((1 : Int64) - (gx_l (σ 134) (a2 - (1 : Int32)).toNatClampNeg))) rfl ⟨(z_ix_in h1), h2, (z_ix_in h3), h4, h5, h6, h10, h12, (fun q => q h15), (z_ix_in h16), (z_ix_in h17), trivial⟩ (gx_fgt (ls' := [.ref 109, .null, .int a2, .int a3, .null]) ⟨Or.inr rfl, Or.inl rfl, Or.inr rfl, Or.inr rfl, Or.inl rfl, trivial⟩ (vv_Md_saysOf_130 D hD rr σ' K4 hK4 a2 a3 (gx_upl σ 134 (a2 - (1 : Int32)).toNatClampNeg ((1 : Int64) - (gx_l (σ 134) (a2 - (1 : Int32)).toNatClampNeg))) hf))
              · obtain ⟨h18, hf⟩ := z_ck_inv hf
                obtain ⟨h19, hf⟩ := z_ck_inv hf
                obtain ⟨r20, σ21, h22, hf⟩ := z_bd_inv hf
                obtain ⟨h23, hf⟩ := z_ck_inv hf
                exact gx_go_ 48 [.inl 0, .inl 0, .inl 1, .inl 1, .inl 1, .inl 1, .inl 1, .inr (some (.long r20), σ21)] [vp_in a3 1600, ¬ ((σ 119 a3.toNatClampNeg) = (408 : Int32)), vp_in a3 1600, ¬ ((σ 119 a3.toNatClampNeg) = (400 : Int32)), ¬ ((σ 119 a3.toNatClampNeg) = (401 : Int32)), ¬ ((σ 119 a3.toNatClampNeg) = (403 : Int32)), ¬ ((σ 119 a3.toNatClampNeg) = (404 : Int32)), ¬ ((σ 119 a3.toNatClampNeg) = (402 : Int32)), ¬ ((σ 119 a3.toNatClampNeg) = (405 : Int32)), vp_in ((a2 + (-1)) - (1 : Int32)) 200, vp_in (a2 + (-1)) 200, E0 D 193 [.int (σ 119 a3.toNatClampNeg), .long (gx_l (σ 134) ((a2 + (-1)) - (1 : Int32)).toNatClampNeg), .long (gx_l (σ 134) (a2 + (-1)).toNatClampNeg)] σ (some (.long r20)) σ21, vp_in ((a2 + (-1)) - (1 : Int32)) 200] 130 [.ref 109, .null, .int (a2 + (-1)), .int a3, .int (σ 119 a3.toNatClampNeg)] [] (gx_upl σ21 134 ((a2 + (-1)) - (1 : Int32)).toNatClampNeg r20) rfl ⟨(z_ix_in h1), h2, (z_ix_in h3), h4, h5, h6, h10, h12, h15, (z_ix_in h18), (z_ix_in h19), (ww_Md_worked D (by omega) (σ 119 a3.toNatClampNeg) (gx_l (σ 134) ((a2 + (-1)) - (1 : Int32)).toNatClampNeg) (gx_l (σ 134) (a2 + (-1)).toNatClampNeg) σ r20 σ21 h22), (z_ix_in h23), trivial⟩ (gx_fgt (ls' := [.ref 109, .null, .int (a2 + (-1)), .int a3, .null]) ⟨Or.inr rfl, Or.inl rfl, Or.inr rfl, Or.inr rfl, Or.inl rfl, trivial⟩ (vv_Md_saysOf_130 D hD rr σ' K4 hK4 (a2 + (-1)) a3 (gx_upl σ21 134 ((a2 + (-1)) - (1 : Int32)).toNatClampNeg r20) hf))
set_option maxHeartbeats 16000000 in
set_option maxRecDepth 20000 in
theorem vv_Md_saysOf_4 (D : Nat) (hD : 3 ≤ D + 1) (rr : Int64) (σ' : gx_R) : ∀ (n : Nat) (a2 : Int32) (a3 : Int32) (σ : gx_R), Md_saysOf_4 n a2 a3 σ = some (rr, σ') → gx_Ev lay0 (E0 D) tt_194 (some (.long rr)) σ' 4 [.ref 109, .null, .int a2, .int a3, .null] [] σ := by
  intro n
  induction n with
  | zero => intro a2 a3 σ  hf; cases hf
  | succ n ih => intro a2 a3 σ  hf; exact vv_Md_saysOf_4_B D hD rr σ'  (Md_saysOf_4 n) ih a2 a3 σ  hf
set_option maxHeartbeats 16000000 in
set_option maxRecDepth 20000 in
theorem vv_Md_saysOf_E (D : Nat) (hD : 3 ≤ D + 1) (rr : Int64) (σ' : gx_R) (a1 : Int32) (σ : gx_R) (hf : Md_saysOf a1 σ = some (rr, σ')) : gx_Ev lay0 (E0 D) tt_194 (some (.long rr)) σ' 0 [.ref 109, .int a1, .null, .null, .null] [] σ := by
  unfold Md_saysOf at hf
  exact gx_go_ 4 [] [] 4 [.ref 109, .int a1, .int (0 : Int32), .int a1, .null] [] σ rfl trivial (gx_fgt (ls' := [.ref 109, .null, .int (0 : Int32), .int a1, .null]) ⟨Or.inr rfl, Or.inl rfl, Or.inr rfl, Or.inr rfl, Or.inl rfl, trivial⟩ (vv_Md_saysOf_4 D hD rr σ' z_FU (0 : Int32) a1 σ hf))
set_option maxHeartbeats 16000000 in
set_option maxRecDepth 20000 in
theorem ww_Md_saysOf (D : Nat) (hD : 3 ≤ D) (a1 : Int32) (σ : gx_R) (rr : Int64) (σ' : gx_R) (hf : Md_saysOf a1 σ = some (rr, σ')) : E0 D 194 [.ref 109, .int a1] σ (some (.long rr)) σ' := by
  cases D with
  | zero => omega
  | succ D => exact Or.inl ⟨Nat.le_of_ble_eq_true rfl, vv_Md_saysOf_E D hD rr σ' a1 σ hf⟩
set_option maxHeartbeats 16000000 in
set_option maxRecDepth 20000 in
theorem vv_Md_by_15 (D : Nat) (hD : 2 ≤ D + 1) (rr : Int32) (σ' : gx_R) (a1 : Int32) (σ : gx_R) (hf : Md_by_15 a1 σ = some (rr, σ')) : gx_Ev lay0 (E0 D) tt_195 (some (.int rr)) σ' 15 [.ref 109, .int a1] [] σ := by
  unfold Md_by_15 at hf
  obtain ⟨e1, e2⟩ := z_ret hf
  subst e1
  subst e2
  exact gx_end 7 [] [vp_in (3 : Int32) 8880, (1 : Int32) &&& 1 = (1 : Int32)] rfl ⟨(z_ix_in rfl), rfl, trivial⟩
set_option maxHeartbeats 16000000 in
set_option maxRecDepth 20000 in
theorem vv_Md_by_E (D : Nat) (hD : 2 ≤ D + 1) (rr : Int32) (σ' : gx_R) (a1 : Int32) (σ : gx_R) (hf : Md_by a1 σ = some (rr, σ')) : gx_Ev lay0 (E0 D) tt_195 (some (.int rr)) σ' 0 [.ref 109, .int a1] [] σ := by
  unfold Md_by at hf
  rcases z_if_inv hf with ⟨h1, hf⟩ | ⟨h1, hf⟩
  · exact gx_go_ 3 [.inl 1] [a1 = (-1 : Int32)] 15 [.ref 109, .int a1] [] σ rfl ⟨h1, trivial⟩ (gx_fgt (ls' := [.ref 109, .int a1]) ⟨Or.inr rfl, Or.inr rfl, trivial⟩ (vv_Md_by_15 D hD rr σ' a1 σ hf))
  · obtain ⟨r2, σ3, h4, hf⟩ := z_bd_inv hf
    rcases z_if_inv hf with ⟨h5, hf⟩ | ⟨h5, hf⟩
    · obtain ⟨e1, e2⟩ := z_ret hf
      subst e1
      subst e2
      exact gx_end 15 [.inl 0, .inr (some (.int r2), σ3), .inl 0] [¬ (a1 = (-1 : Int32)), vp_in (2 : Int32) 8880, E0 D 145 [.int a1, .int (0 : Int32), .int ((σ 110 ((2 : Int32).toNatClampNeg)) - (1 : Int32))] σ (some (.int r2)) σ3, ¬ ¬ (r2 = 0), (0 : Int32) &&& 1 = (0 : Int32)] rfl ⟨h1, (z_ix_in rfl), (ww_Md_in D (by omega) a1 (0 : Int32) ((σ 110 ((2 : Int32).toNatClampNeg)) - (1 : Int32)) σ r2 σ3 h4), (fun q => q h5), rfl, trivial⟩
    · exact gx_go_ 13 [.inl 0, .inr (some (.int r2), σ3), .inl 1] [¬ (a1 = (-1 : Int32)), vp_in (2 : Int32) 8880, E0 D 145 [.int a1, .int (0 : Int32), .int ((σ 110 ((2 : Int32).toNatClampNeg)) - (1 : Int32))] σ (some (.int r2)) σ3, ¬ (r2 = 0)] 15 [.ref 109, .int a1] [] σ3 rfl ⟨h1, (z_ix_in rfl), (ww_Md_in D (by omega) a1 (0 : Int32) ((σ 110 ((2 : Int32).toNatClampNeg)) - (1 : Int32)) σ r2 σ3 h4), h5, trivial⟩ (gx_fgt (ls' := [.ref 109, .int a1]) ⟨Or.inr rfl, Or.inr rfl, trivial⟩ (vv_Md_by_15 D hD rr σ' a1 σ3 hf))
set_option maxHeartbeats 16000000 in
set_option maxRecDepth 20000 in
theorem ww_Md_by (D : Nat) (hD : 2 ≤ D) (a1 : Int32) (σ : gx_R) (rr : Int32) (σ' : gx_R) (hf : Md_by a1 σ = some (rr, σ')) : E0 D 195 [.ref 109, .int a1] σ (some (.int rr)) σ' := by
  cases D with
  | zero => omega
  | succ D => exact Or.inl ⟨Nat.le_of_ble_eq_true rfl, vv_Md_by_E D hD rr σ' a1 σ hf⟩
set_option maxHeartbeats 16000000 in
set_option maxRecDepth 20000 in
theorem vv_Md_ordersOf_40 (D : Nat) (hD : 1 ≤ D + 1) (rr : Int32) (σ' : gx_R) (K4 : Int32 → Int32 → Int32 → gx_R → Option (Int32 × gx_R)) (hK4 : ∀ (a1 : Int32) (a2 : Int32) (a3 : Int32) (σ : gx_R), K4 a1 a2 a3 σ = some (rr, σ') → gx_Ev lay0 (E0 D) tt_196 (some (.int rr)) σ' 4 [.ref 109, .int a1, .int a2, .int a3, .null] [] σ) (a1 : Int32) (a3 : Int32) (s0 : Int32) (σ : gx_R) (hf : Md_ordersOf_40 K4 a1 a3 s0 σ = some (rr, σ')) : gx_Ev lay0 (E0 D) tt_196 (some (.int rr)) σ' 40 [.ref 109, .int a1, .null, .int a3, .null] [.int s0] σ := by
  unfold Md_ordersOf_40 at hf
  exact gx_go_ 3 [] [] 4 [.ref 109, .int a1, .int s0, .int (a3 + 1), .null] [] σ rfl trivial (gx_fgt (ls' := [.ref 109, .int a1, .int s0, .int (a3 + 1), .null]) ⟨Or.inr rfl, Or.inr rfl, Or.inr rfl, Or.inr rfl, Or.inl rfl, trivial⟩ (hK4 a1 s0 (a3 + 1) σ hf))
set_option maxHeartbeats 16000000 in
set_option maxRecDepth 20000 in
theorem vv_Md_ordersOf_4_B (D : Nat) (hD : 1 ≤ D + 1) (rr : Int32) (σ' : gx_R) (K4 : Int32 → Int32 → Int32 → gx_R → Option (Int32 × gx_R)) (hK4 : ∀ (a1 : Int32) (a2 : Int32) (a3 : Int32) (σ : gx_R), K4 a1 a2 a3 σ = some (rr, σ') → gx_Ev lay0 (E0 D) tt_196 (some (.int rr)) σ' 4 [.ref 109, .int a1, .int a2, .int a3, .null] [] σ) (a1 : Int32) (a2 : Int32) (a3 : Int32) (σ : gx_R) (hf : Md_ordersOf_4_B K4 a1 a2 a3 σ = some (rr, σ')) : gx_Ev lay0 (E0 D) tt_196 (some (.int rr)) σ' 4 [.ref 109, .int a1, .int a2, .int a3, .null] [] σ := by
  unfold Md_ordersOf_4_B at hf
  rcases z_if_inv hf with ⟨h1, hf⟩ | ⟨h1, hf⟩
  · obtain ⟨e1, e2⟩ := z_ret hf
    subst e1
    subst e2
    exact gx_end 8 [.inl 1] [vp_in (3 : Int32) 8880, (σ 110 ((3 : Int32).toNatClampNeg)) = (-1 : Int32)] rfl ⟨(z_ix_in rfl), h1, trivial⟩
  · obtain ⟨h2, hf⟩ := z_ck_inv hf
    rcases z_if_inv hf with ⟨h3, hf⟩ | ⟨h3, hf⟩
    · obtain ⟨e1, e2⟩ := z_ret hf
      subst e1
      subst e2
      exact gx_end 17 [.inl 0, .inl 1] [vp_in (3 : Int32) 8880, ¬ ((σ 110 ((3 : Int32).toNatClampNeg)) = (-1 : Int32)), vp_in (3 : Int32) 8880, vp_in (σ 110 ((3 : Int32).toNatClampNeg)) 4, (σ 113 ((σ 110 ((3 : Int32).toNatClampNeg)).toNatClampNeg)) ≤ a3] rfl ⟨(z_ix_in rfl), h1, (z_ix_in rfl), (z_ix_in h2), h3, trivial⟩
    · obtain ⟨h4, hf⟩ := z_ck_inv hf
      rcases z_if_inv hf with ⟨h5, hf⟩ | ⟨h5, hf⟩
      · obtain ⟨h6, hf⟩ := z_ck_inv hf
        exact gx_go_ 35 [.inl 0, .inl 0, .inl 0] [vp_in (3 : Int32) 8880, ¬ ((σ 110 ((3 : Int32).toNatClampNeg)) = (-1 : Int32)), vp_in (3 : Int32) 8880, vp_in (σ 110 ((3 : Int32).toNatClampNeg)) 4, ¬ ((σ 113 ((σ 110 ((3 : Int32).toNatClampNeg)).toNatClampNeg)) ≤ a3), vp_in (3 : Int32) 8880, vp_in (((24 : Int32) * (σ 110 ((3 : Int32).toNatClampNeg))) + a3) 96, ¬ ¬ ((σ 114 ((((24 : Int32) * (σ 110 ((3 : Int32).toNatClampNeg))) + a3).toNatClampNeg)) = a1), vp_in (((24 : Int32) * (σ 110 ((3 : Int32).toNatClampNeg))) + a3) 96] 40 [.ref 109, .int a1, .int a2, .int a3, .int (((24 : Int32) * (σ 110 ((3 : Int32).toNatClampNeg))) + a3)] [.int (σ 115 ((((24 : Int32) * (σ 110 ((3 : Int32).toNatClampNeg))) + a3).toNatClampNeg))] σ rfl ⟨(z_ix_in rfl), h1, (z_ix_in rfl), (z_ix_in h2), h3, (z_ix_in rfl), (z_ix_in h4), (fun q => q h5), (z_ix_in h6), trivial⟩ (gx_fgt (ls' := [.ref 109, .int a1, .null, .int a3, .null]) ⟨Or.inr rfl, Or.inr rfl, Or.inl rfl, Or.inr rfl, Or.inl rfl, trivial⟩ (vv_Md_ordersOf_40 D hD rr σ' K4 hK4 a1 a3 (σ 115 ((((24 : Int32) * (σ 110 ((3 : Int32).toNatClampNeg))) + a3).toNatClampNeg)) σ hf))
      · exact gx_go_ 31 [.inl 0, .inl 0, .inl 1] [vp_in (3 : Int32) 8880, ¬ ((σ 110 ((3 : Int32).toNatClampNeg)) = (-1 : Int32)), vp_in (3 : Int32) 8880, vp_in (σ 110 ((3 : Int32).toNatClampNeg)) 4, ¬ ((σ 113 ((σ 110 ((3 : Int32).toNatClampNeg)).toNatClampNeg)) ≤ a3), vp_in (3 : Int32) 8880, vp_in (((24 : Int32) * (σ 110 ((3 : Int32).toNatClampNeg))) + a3) 96, ¬ ((σ 114 ((((24 : Int32) * (σ 110 ((3 : Int32).toNatClampNeg))) + a3).toNatClampNeg)) = a1)] 40 [.ref 109, .int a1, .int a2, .int a3, .int (((24 : Int32) * (σ 110 ((3 : Int32).toNatClampNeg))) + a3)] [.int a2] σ rfl ⟨(z_ix_in rfl), h1, (z_ix_in rfl), (z_ix_in h2), h3, (z_ix_in rfl), (z_ix_in h4), h5, trivial⟩ (gx_fgt (ls' := [.ref 109, .int a1, .null, .int a3, .null]) ⟨Or.inr rfl, Or.inr rfl, Or.inl rfl, Or.inr rfl, Or.inl rfl, trivial⟩ (vv_Md_ordersOf_40 D hD rr σ' K4 hK4 a1 a3 a2 σ hf))
set_option maxHeartbeats 16000000 in
set_option maxRecDepth 20000 in
theorem vv_Md_ordersOf_4 (D : Nat) (hD : 1 ≤ D + 1) (rr : Int32) (σ' : gx_R) : ∀ (n : Nat) (a1 : Int32) (a2 : Int32) (a3 : Int32) (σ : gx_R), Md_ordersOf_4 n a1 a2 a3 σ = some (rr, σ') → gx_Ev lay0 (E0 D) tt_196 (some (.int rr)) σ' 4 [.ref 109, .int a1, .int a2, .int a3, .null] [] σ := by
  intro n
  induction n with
  | zero => intro a1 a2 a3 σ  hf; cases hf
  | succ n ih => intro a1 a2 a3 σ  hf; exact vv_Md_ordersOf_4_B D hD rr σ'  (Md_ordersOf_4 n) ih a1 a2 a3 σ  hf
set_option maxHeartbeats 16000000 in
set_option maxRecDepth 20000 in
theorem vv_Md_ordersOf_E (D : Nat) (hD : 1 ≤ D + 1) (rr : Int32) (σ' : gx_R) (a1 : Int32) (σ : gx_R) (hf : Md_ordersOf a1 σ = some (rr, σ')) : gx_Ev lay0 (E0 D) tt_196 (some (.int rr)) σ' 0 [.ref 109, .int a1, .null, .null, .null] [] σ := by
  unfold Md_ordersOf at hf
  exact gx_go_ 4 [] [] 4 [.ref 109, .int a1, .int (-1 : Int32), .int (0 : Int32), .null] [] σ rfl trivial (gx_fgt (ls' := [.ref 109, .int a1, .int (-1 : Int32), .int (0 : Int32), .null]) ⟨Or.inr rfl, Or.inr rfl, Or.inr rfl, Or.inr rfl, Or.inl rfl, trivial⟩ (vv_Md_ordersOf_4 D hD rr σ' z_FU a1 (-1 : Int32) (0 : Int32) σ hf))
set_option maxHeartbeats 16000000 in
set_option maxRecDepth 20000 in
theorem ww_Md_ordersOf (D : Nat) (hD : 1 ≤ D) (a1 : Int32) (σ : gx_R) (rr : Int32) (σ' : gx_R) (hf : Md_ordersOf a1 σ = some (rr, σ')) : E0 D 196 [.ref 109, .int a1] σ (some (.int rr)) σ' := by
  cases D with
  | zero => omega
  | succ D => exact Or.inl ⟨Nat.le_of_ble_eq_true rfl, vv_Md_ordersOf_E D hD rr σ' a1 σ hf⟩
set_option maxHeartbeats 16000000 in
set_option maxRecDepth 20000 in
theorem vv_Md_held_E (D : Nat) (hD : 1 ≤ D + 1) (rr : Int32) (σ' : gx_R) (l0 : Int64) (a2 : Int32) (a3 : Int32) (σ : gx_R) (hf : Md_held l0 a2 a3 σ = some (rr, σ')) : gx_Ev lay0 (E0 D) tt_197 (some (.int rr)) σ' 0 [.long l0, .null, .int a2, .int a3] [] σ := by
  unfold Md_held at hf
  rcases z_if_inv hf with ⟨h1, hf⟩ | ⟨h1, hf⟩
  · rcases z_if_inv hf with ⟨h2, hf⟩ | ⟨h2, hf⟩
    · obtain ⟨e1, e2⟩ := z_ret hf
      subst e1
      subst e2
      exact gx_end 13 [.inl 1, .inl 1] [0 ≤ (lg_cmp l0 a2.toInt64), (lg_cmp l0 a3.toInt64) ≤ 0] rfl ⟨h1, h2, trivial⟩
    · obtain ⟨e1, e2⟩ := z_ret hf
      subst e1
      subst e2
      exact gx_end 13 [.inl 1, .inl 0] [0 ≤ (lg_cmp l0 a2.toInt64), ¬ ((lg_cmp l0 a3.toInt64) ≤ 0)] rfl ⟨h1, h2, trivial⟩
  · obtain ⟨e1, e2⟩ := z_ret hf
    subst e1
    subst e2
    exact gx_end 8 [.inl 0] [¬ (0 ≤ (lg_cmp l0 a2.toInt64))] rfl ⟨h1, trivial⟩
set_option maxHeartbeats 16000000 in
set_option maxRecDepth 20000 in
theorem ww_Md_held (D : Nat) (hD : 1 ≤ D) (l0 : Int64) (a2 : Int32) (a3 : Int32) (σ : gx_R) (rr : Int32) (σ' : gx_R) (hf : Md_held l0 a2 a3 σ = some (rr, σ')) : E0 D 197 [.long l0, .int a2, .int a3] σ (some (.int rr)) σ' := by
  cases D with
  | zero => omega
  | succ D => exact Or.inl ⟨Nat.le_of_ble_eq_true rfl, vv_Md_held_E D hD rr σ' l0 a2 a3 σ hf⟩
set_option maxHeartbeats 16000000 in
set_option maxRecDepth 20000 in
theorem vv_Md_laysNow_78_B (D : Nat) (hD : 1 ≤ D + 1) (rr : Unit) (σ' : gx_R) (K78 : Int32 → gx_R → Option (Unit × gx_R)) (hK78 : ∀ (a1 : Int32) (σ : gx_R), K78 a1 σ = some (rr, σ') → gx_Ev lay0 (E0 D) tt_198 none σ' 78 [.ref 109, .int a1] [] σ) (a1 : Int32) (σ : gx_R) (hf : Md_laysNow_78_B K78 a1 σ = some (rr, σ')) : gx_Ev lay0 (E0 D) tt_198 none σ' 78 [.ref 109, .int a1] [] σ := by
  unfold Md_laysNow_78_B at hf
  rcases z_if_inv hf with ⟨h1, hf⟩ | ⟨h1, hf⟩
  · obtain ⟨e1, e2⟩ := z_ret hf
    subst e1
    subst e2
    exact gx_end 4 [.inl 1] [(64 : Int32) ≤ a1] rfl ⟨h1, trivial⟩
  · obtain ⟨h2, hf⟩ := z_ck_inv hf
    obtain ⟨h3, hf⟩ := z_ck_inv hf
    exact gx_go_ 15 [.inl 0] [¬ ((64 : Int32) ≤ a1), vp_in ((98 : Int32) + a1) 8880, vp_in a1 64] 78 [.ref 109, .int (a1 + 1)] [] (gx_up σ 140 a1.toNatClampNeg (σ 110 (((98 : Int32) + a1).toNatClampNeg))) rfl ⟨h1, (z_ix_in h2), (z_ix_in h3), trivial⟩ (gx_fgt (ls' := [.ref 109, .int (a1 + 1)]) ⟨Or.inr rfl, Or.inr rfl, trivial⟩ (hK78 (a1 + 1) (gx_up σ 140 a1.toNatClampNeg (σ 110 (((98 : Int32) + a1).toNatClampNeg))) hf))
set_option maxHeartbeats 16000000 in
set_option maxRecDepth 20000 in
theorem vv_Md_laysNow_78 (D : Nat) (hD : 1 ≤ D + 1) (rr : Unit) (σ' : gx_R) : ∀ (n : Nat) (a1 : Int32) (σ : gx_R), Md_laysNow_78 n a1 σ = some (rr, σ') → gx_Ev lay0 (E0 D) tt_198 none σ' 78 [.ref 109, .int a1] [] σ := by
  intro n
  induction n with
  | zero => intro a1 σ  hf; cases hf
  | succ n ih => intro a1 σ  hf; exact vv_Md_laysNow_78_B D hD rr σ'  (Md_laysNow_78 n) ih a1 σ  hf
set_option maxHeartbeats 16000000 in
set_option maxRecDepth 20000 in
theorem vv_Md_laysNow_76 (D : Nat) (hD : 1 ≤ D + 1) (rr : Unit) (σ' : gx_R) (σ : gx_R) (hf : Md_laysNow_76  σ = some (rr, σ')) : gx_Ev lay0 (E0 D) tt_198 none σ' 76 [.ref 109, .null] [] σ := by
  unfold Md_laysNow_76 at hf
  exact gx_go_ 2 [] [] 78 [.ref 109, .int (0 : Int32)] [] σ rfl trivial (gx_fgt (ls' := [.ref 109, .int (0 : Int32)]) ⟨Or.inr rfl, Or.inr rfl, trivial⟩ (vv_Md_laysNow_78 D hD rr σ' z_FU (0 : Int32) σ hf))
set_option maxHeartbeats 16000000 in
set_option maxRecDepth 20000 in
theorem vv_Md_laysNow_61_B (D : Nat) (hD : 1 ≤ D + 1) (rr : Unit) (σ' : gx_R) (K61 : Int32 → gx_R → Option (Unit × gx_R)) (hK61 : ∀ (a1 : Int32) (σ : gx_R), K61 a1 σ = some (rr, σ') → gx_Ev lay0 (E0 D) tt_198 none σ' 61 [.ref 109, .int a1] [] σ) (a1 : Int32) (σ : gx_R) (hf : Md_laysNow_61_B K61 a1 σ = some (rr, σ')) : gx_Ev lay0 (E0 D) tt_198 none σ' 61 [.ref 109, .int a1] [] σ := by
  unfold Md_laysNow_61_B at hf
  rcases z_if_inv hf with ⟨h1, hf⟩ | ⟨h1, hf⟩
  · exact gx_go_ 3 [.inl 1] [(6 : Int32) ≤ a1] 76 [.ref 109, .int a1] [] σ rfl ⟨h1, trivial⟩ (gx_fgt (ls' := [.ref 109, .null]) ⟨Or.inr rfl, Or.inl rfl, trivial⟩ (vv_Md_laysNow_76 D hD rr σ' σ hf))
  · obtain ⟨h2, hf⟩ := z_ck_inv hf
    obtain ⟨h3, hf⟩ := z_ck_inv hf
    exact gx_go_ 15 [.inl 0] [¬ ((6 : Int32) ≤ a1), vp_in ((92 : Int32) + a1) 8880, vp_in a1 6] 61 [.ref 109, .int (a1 + 1)] [] (gx_up σ 139 a1.toNatClampNeg (σ 110 (((92 : Int32) + a1).toNatClampNeg))) rfl ⟨h1, (z_ix_in h2), (z_ix_in h3), trivial⟩ (gx_fgt (ls' := [.ref 109, .int (a1 + 1)]) ⟨Or.inr rfl, Or.inr rfl, trivial⟩ (hK61 (a1 + 1) (gx_up σ 139 a1.toNatClampNeg (σ 110 (((92 : Int32) + a1).toNatClampNeg))) hf))
set_option maxHeartbeats 16000000 in
set_option maxRecDepth 20000 in
theorem vv_Md_laysNow_61 (D : Nat) (hD : 1 ≤ D + 1) (rr : Unit) (σ' : gx_R) : ∀ (n : Nat) (a1 : Int32) (σ : gx_R), Md_laysNow_61 n a1 σ = some (rr, σ') → gx_Ev lay0 (E0 D) tt_198 none σ' 61 [.ref 109, .int a1] [] σ := by
  intro n
  induction n with
  | zero => intro a1 σ  hf; cases hf
  | succ n ih => intro a1 σ  hf; exact vv_Md_laysNow_61_B D hD rr σ'  (Md_laysNow_61 n) ih a1 σ  hf
set_option maxHeartbeats 16000000 in
set_option maxRecDepth 20000 in
theorem vv_Md_laysNow_59 (D : Nat) (hD : 1 ≤ D + 1) (rr : Unit) (σ' : gx_R) (σ : gx_R) (hf : Md_laysNow_59  σ = some (rr, σ')) : gx_Ev lay0 (E0 D) tt_198 none σ' 59 [.ref 109, .null] [] σ := by
  unfold Md_laysNow_59 at hf
  exact gx_go_ 2 [] [] 61 [.ref 109, .int (0 : Int32)] [] σ rfl trivial (gx_fgt (ls' := [.ref 109, .int (0 : Int32)]) ⟨Or.inr rfl, Or.inr rfl, trivial⟩ (vv_Md_laysNow_61 D hD rr σ' z_FU (0 : Int32) σ hf))
set_option maxHeartbeats 16000000 in
set_option maxRecDepth 20000 in
theorem vv_Md_laysNow_14_B (D : Nat) (hD : 1 ≤ D + 1) (rr : Unit) (σ' : gx_R) (K14 : Int32 → gx_R → Option (Unit × gx_R)) (hK14 : ∀ (a1 : Int32) (σ : gx_R), K14 a1 σ = some (rr, σ') → gx_Ev lay0 (E0 D) tt_198 none σ' 14 [.ref 109, .int a1] [] σ) (a1 : Int32) (σ : gx_R) (hf : Md_laysNow_14_B K14 a1 σ = some (rr, σ')) : gx_Ev lay0 (E0 D) tt_198 none σ' 14 [.ref 109, .int a1] [] σ := by
  unfold Md_laysNow_14_B at hf
  rcases z_if_inv hf with ⟨h1, hf⟩ | ⟨h1, hf⟩
  · exact gx_go_ 3 [.inl 1] [(8 : Int32) ≤ a1] 59 [.ref 109, .int a1] [] σ rfl ⟨h1, trivial⟩ (gx_fgt (ls' := [.ref 109, .null]) ⟨Or.inr rfl, Or.inl rfl, trivial⟩ (vv_Md_laysNow_59 D hD rr σ' σ hf))
  · obtain ⟨h2, hf⟩ := z_ck_inv hf
    obtain ⟨h3, hf⟩ := z_ck_inv hf
    obtain ⟨h4, hf⟩ := z_ck_inv hf
    obtain ⟨h5, hf⟩ := z_ck_inv hf
    obtain ⟨h6, hf⟩ := z_ck_inv hf
    obtain ⟨h7, hf⟩ := z_ck_inv hf
    obtain ⟨h8, hf⟩ := z_ck_inv hf
    obtain ⟨h9, hf⟩ := z_ck_inv hf
    exact gx_go_ 45 [.inl 0] [¬ ((8 : Int32) ≤ a1), vp_in ((60 : Int32) + a1) 8880, vp_in a1 8, vp_in ((68 : Int32) + a1) 8880, vp_in a1 8, vp_in ((76 : Int32) + a1) 8880, vp_in a1 8, vp_in ((84 : Int32) + a1) 8880, vp_in a1 8] 14 [.ref 109, .int (a1 + 1)] [] (gx_up (gx_up (gx_up (gx_up σ 135 a1.toNatClampNeg (σ 110 (((60 : Int32) + a1).toNatClampNeg))) 136 a1.toNatClampNeg ((gx_up σ 135 a1.toNatClampNeg (σ 110 (((60 : Int32) + a1).toNatClampNeg))) 110 (((68 : Int32) + a1).toNatClampNeg))) 137 a1.toNatClampNeg ((gx_up (gx_up σ 135 a1.toNatClampNeg (σ 110 (((60 : Int32) + a1).toNatClampNeg))) 136 a1.toNatClampNeg ((gx_up σ 135 a1.toNatClampNeg (σ 110 (((60 : Int32) + a1).toNatClampNeg))) 110 (((68 : Int32) + a1).toNatClampNeg))) 110 (((76 : Int32) + a1).toNatClampNeg))) 138 a1.toNatClampNeg ((gx_up (gx_up (gx_up σ 135 a1.toNatClampNeg (σ 110 (((60 : Int32) + a1).toNatClampNeg))) 136 a1.toNatClampNeg ((gx_up σ 135 a1.toNatClampNeg (σ 110 (((60 : Int32) + a1).toNatClampNeg))) 110 (((68 : Int32) + a1).toNatClampNeg))) 137 a1.toNatClampNeg ((gx_up (gx_up σ 135 a1.toNatClampNeg (σ 110 (((60 : Int32) + a1).toNatClampNeg))) 136 a1.toNatClampNeg ((gx_up σ 135 a1.toNatClampNeg (σ 110 (((60 : Int32) + a1).toNatClampNeg))) 110 (((68 : Int32) + a1).toNatClampNeg))) 110 (((76 : Int32) + a1).toNatClampNeg))) 110 (((84 : Int32) + a1).toNatClampNeg))) rfl ⟨h1, (z_ix_in h2), (z_ix_in h3), (z_ix_in h4), (z_ix_in h5), (z_ix_in h6), (z_ix_in h7), (z_ix_in h8), (z_ix_in h9), trivial⟩ (gx_fgt (ls' := [.ref 109, .int (a1 + 1)]) ⟨Or.inr rfl, Or.inr rfl, trivial⟩ (hK14 (a1 + 1) (gx_up (gx_up (gx_up (gx_up σ 135 a1.toNatClampNeg (σ 110 (((60 : Int32) + a1).toNatClampNeg))) 136 a1.toNatClampNeg ((gx_up σ 135 a1.toNatClampNeg (σ 110 (((60 : Int32) + a1).toNatClampNeg))) 110 (((68 : Int32) + a1).toNatClampNeg))) 137 a1.toNatClampNeg ((gx_up (gx_up σ 135 a1.toNatClampNeg (σ 110 (((60 : Int32) + a1).toNatClampNeg))) 136 a1.toNatClampNeg ((gx_up σ 135 a1.toNatClampNeg (σ 110 (((60 : Int32) + a1).toNatClampNeg))) 110 (((68 : Int32) + a1).toNatClampNeg))) 110 (((76 : Int32) + a1).toNatClampNeg))) 138 a1.toNatClampNeg ((gx_up (gx_up (gx_up σ 135 a1.toNatClampNeg (σ 110 (((60 : Int32) + a1).toNatClampNeg))) 136 a1.toNatClampNeg ((gx_up σ 135 a1.toNatClampNeg (σ 110 (((60 : Int32) + a1).toNatClampNeg))) 110 (((68 : Int32) + a1).toNatClampNeg))) 137 a1.toNatClampNeg ((gx_up (gx_up σ 135 a1.toNatClampNeg (σ 110 (((60 : Int32) + a1).toNatClampNeg))) 136 a1.toNatClampNeg ((gx_up σ 135 a1.toNatClampNeg (σ 110 (((60 : Int32) + a1).toNatClampNeg))) 110 (((68 : Int32) + a1).toNatClampNeg))) 110 (((76 : Int32) + a1).toNatClampNeg))) 110 (((84 : Int32) + a1).toNatClampNeg))) hf))
set_option maxHeartbeats 16000000 in
set_option maxRecDepth 20000 in
theorem vv_Md_laysNow_14 (D : Nat) (hD : 1 ≤ D + 1) (rr : Unit) (σ' : gx_R) : ∀ (n : Nat) (a1 : Int32) (σ : gx_R), Md_laysNow_14 n a1 σ = some (rr, σ') → gx_Ev lay0 (E0 D) tt_198 none σ' 14 [.ref 109, .int a1] [] σ := by
  intro n
  induction n with
  | zero => intro a1 σ  hf; cases hf
  | succ n ih => intro a1 σ  hf; exact vv_Md_laysNow_14_B D hD rr σ'  (Md_laysNow_14 n) ih a1 σ  hf
set_option maxHeartbeats 16000000 in
set_option maxRecDepth 20000 in
theorem vv_Md_laysNow_E (D : Nat) (hD : 1 ≤ D + 1) (rr : Unit) (σ' : gx_R) (σ : gx_R) (hf : Md_laysNow  σ = some (rr, σ')) : gx_Ev lay0 (E0 D) tt_198 none σ' 0 [.ref 109, .null] [] σ := by
  unfold Md_laysNow at hf
  exact gx_go_ 14 [] [vp_in (162 : Int32) 8880, vp_in (163 : Int32) 8880] 14 [.ref 109, .int (0 : Int32)] [] (gx_up (gx_up σ 109 42 (σ 110 ((162 : Int32).toNatClampNeg))) 109 43 ((gx_up σ 109 42 (σ 110 ((162 : Int32).toNatClampNeg))) 110 ((163 : Int32).toNatClampNeg))) rfl ⟨(z_ix_in rfl), (z_ix_in rfl), trivial⟩ (gx_fgt (ls' := [.ref 109, .int (0 : Int32)]) ⟨Or.inr rfl, Or.inr rfl, trivial⟩ (vv_Md_laysNow_14 D hD rr σ' z_FU (0 : Int32) (gx_up (gx_up σ 109 42 (σ 110 ((162 : Int32).toNatClampNeg))) 109 43 ((gx_up σ 109 42 (σ 110 ((162 : Int32).toNatClampNeg))) 110 ((163 : Int32).toNatClampNeg))) hf))
set_option maxHeartbeats 16000000 in
set_option maxRecDepth 20000 in
theorem ww_Md_laysNow (D : Nat) (hD : 1 ≤ D) (σ : gx_R) (rr : Unit) (σ' : gx_R) (hf : Md_laysNow  σ = some (rr, σ')) : E0 D 198 [.ref 109] σ none σ' := by
  cases D with
  | zero => omega
  | succ D => exact Or.inl ⟨Nat.le_of_ble_eq_true rfl, vv_Md_laysNow_E D hD rr σ' σ hf⟩
set_option maxHeartbeats 16000000 in
set_option maxRecDepth 20000 in
theorem vv_Md_keepsNow_78_B (D : Nat) (hD : 1 ≤ D + 1) (rr : Unit) (σ' : gx_R) (K78 : Int32 → gx_R → Option (Unit × gx_R)) (hK78 : ∀ (a1 : Int32) (σ : gx_R), K78 a1 σ = some (rr, σ') → gx_Ev lay0 (E0 D) tt_199 none σ' 78 [.ref 109, .int a1] [] σ) (a1 : Int32) (σ : gx_R) (hf : Md_keepsNow_78_B K78 a1 σ = some (rr, σ')) : gx_Ev lay0 (E0 D) tt_199 none σ' 78 [.ref 109, .int a1] [] σ := by
  unfold Md_keepsNow_78_B at hf
  rcases z_if_inv hf with ⟨h1, hf⟩ | ⟨h1, hf⟩
  · obtain ⟨e1, e2⟩ := z_ret hf
    subst e1
    subst e2
    exact gx_end 4 [.inl 1] [(64 : Int32) ≤ a1] rfl ⟨h1, trivial⟩
  · obtain ⟨h2, hf⟩ := z_ck_inv hf
    obtain ⟨h3, hf⟩ := z_ck_inv hf
    exact gx_go_ 15 [.inl 0] [¬ ((64 : Int32) ≤ a1), vp_in a1 64, vp_in ((98 : Int32) + a1) 8880] 78 [.ref 109, .int (a1 + 1)] [] (gx_up σ 110 ((98 : Int32) + a1).toNatClampNeg (σ 140 a1.toNatClampNeg)) rfl ⟨h1, (z_ix_in h2), (z_ix_in h3), trivial⟩ (gx_fgt (ls' := [.ref 109, .int (a1 + 1)]) ⟨Or.inr rfl, Or.inr rfl, trivial⟩ (hK78 (a1 + 1) (gx_up σ 110 ((98 : Int32) + a1).toNatClampNeg (σ 140 a1.toNatClampNeg)) hf))
set_option maxHeartbeats 16000000 in
set_option maxRecDepth 20000 in
theorem vv_Md_keepsNow_78 (D : Nat) (hD : 1 ≤ D + 1) (rr : Unit) (σ' : gx_R) : ∀ (n : Nat) (a1 : Int32) (σ : gx_R), Md_keepsNow_78 n a1 σ = some (rr, σ') → gx_Ev lay0 (E0 D) tt_199 none σ' 78 [.ref 109, .int a1] [] σ := by
  intro n
  induction n with
  | zero => intro a1 σ  hf; cases hf
  | succ n ih => intro a1 σ  hf; exact vv_Md_keepsNow_78_B D hD rr σ'  (Md_keepsNow_78 n) ih a1 σ  hf
set_option maxHeartbeats 16000000 in
set_option maxRecDepth 20000 in
theorem vv_Md_keepsNow_76 (D : Nat) (hD : 1 ≤ D + 1) (rr : Unit) (σ' : gx_R) (σ : gx_R) (hf : Md_keepsNow_76  σ = some (rr, σ')) : gx_Ev lay0 (E0 D) tt_199 none σ' 76 [.ref 109, .null] [] σ := by
  unfold Md_keepsNow_76 at hf
  exact gx_go_ 2 [] [] 78 [.ref 109, .int (0 : Int32)] [] σ rfl trivial (gx_fgt (ls' := [.ref 109, .int (0 : Int32)]) ⟨Or.inr rfl, Or.inr rfl, trivial⟩ (vv_Md_keepsNow_78 D hD rr σ' z_FU (0 : Int32) σ hf))
set_option maxHeartbeats 16000000 in
set_option maxRecDepth 20000 in
theorem vv_Md_keepsNow_61_B (D : Nat) (hD : 1 ≤ D + 1) (rr : Unit) (σ' : gx_R) (K61 : Int32 → gx_R → Option (Unit × gx_R)) (hK61 : ∀ (a1 : Int32) (σ : gx_R), K61 a1 σ = some (rr, σ') → gx_Ev lay0 (E0 D) tt_199 none σ' 61 [.ref 109, .int a1] [] σ) (a1 : Int32) (σ : gx_R) (hf : Md_keepsNow_61_B K61 a1 σ = some (rr, σ')) : gx_Ev lay0 (E0 D) tt_199 none σ' 61 [.ref 109, .int a1] [] σ := by
  unfold Md_keepsNow_61_B at hf
  rcases z_if_inv hf with ⟨h1, hf⟩ | ⟨h1, hf⟩
  · exact gx_go_ 3 [.inl 1] [(6 : Int32) ≤ a1] 76 [.ref 109, .int a1] [] σ rfl ⟨h1, trivial⟩ (gx_fgt (ls' := [.ref 109, .null]) ⟨Or.inr rfl, Or.inl rfl, trivial⟩ (vv_Md_keepsNow_76 D hD rr σ' σ hf))
  · obtain ⟨h2, hf⟩ := z_ck_inv hf
    obtain ⟨h3, hf⟩ := z_ck_inv hf
    exact gx_go_ 15 [.inl 0] [¬ ((6 : Int32) ≤ a1), vp_in a1 6, vp_in ((92 : Int32) + a1) 8880] 61 [.ref 109, .int (a1 + 1)] [] (gx_up σ 110 ((92 : Int32) + a1).toNatClampNeg (σ 139 a1.toNatClampNeg)) rfl ⟨h1, (z_ix_in h2), (z_ix_in h3), trivial⟩ (gx_fgt (ls' := [.ref 109, .int (a1 + 1)]) ⟨Or.inr rfl, Or.inr rfl, trivial⟩ (hK61 (a1 + 1) (gx_up σ 110 ((92 : Int32) + a1).toNatClampNeg (σ 139 a1.toNatClampNeg)) hf))
set_option maxHeartbeats 16000000 in
set_option maxRecDepth 20000 in
theorem vv_Md_keepsNow_61 (D : Nat) (hD : 1 ≤ D + 1) (rr : Unit) (σ' : gx_R) : ∀ (n : Nat) (a1 : Int32) (σ : gx_R), Md_keepsNow_61 n a1 σ = some (rr, σ') → gx_Ev lay0 (E0 D) tt_199 none σ' 61 [.ref 109, .int a1] [] σ := by
  intro n
  induction n with
  | zero => intro a1 σ  hf; cases hf
  | succ n ih => intro a1 σ  hf; exact vv_Md_keepsNow_61_B D hD rr σ'  (Md_keepsNow_61 n) ih a1 σ  hf
set_option maxHeartbeats 16000000 in
set_option maxRecDepth 20000 in
theorem vv_Md_keepsNow_59 (D : Nat) (hD : 1 ≤ D + 1) (rr : Unit) (σ' : gx_R) (σ : gx_R) (hf : Md_keepsNow_59  σ = some (rr, σ')) : gx_Ev lay0 (E0 D) tt_199 none σ' 59 [.ref 109, .null] [] σ := by
  unfold Md_keepsNow_59 at hf
  exact gx_go_ 2 [] [] 61 [.ref 109, .int (0 : Int32)] [] σ rfl trivial (gx_fgt (ls' := [.ref 109, .int (0 : Int32)]) ⟨Or.inr rfl, Or.inr rfl, trivial⟩ (vv_Md_keepsNow_61 D hD rr σ' z_FU (0 : Int32) σ hf))
set_option maxHeartbeats 16000000 in
set_option maxRecDepth 20000 in
theorem vv_Md_keepsNow_14_B (D : Nat) (hD : 1 ≤ D + 1) (rr : Unit) (σ' : gx_R) (K14 : Int32 → gx_R → Option (Unit × gx_R)) (hK14 : ∀ (a1 : Int32) (σ : gx_R), K14 a1 σ = some (rr, σ') → gx_Ev lay0 (E0 D) tt_199 none σ' 14 [.ref 109, .int a1] [] σ) (a1 : Int32) (σ : gx_R) (hf : Md_keepsNow_14_B K14 a1 σ = some (rr, σ')) : gx_Ev lay0 (E0 D) tt_199 none σ' 14 [.ref 109, .int a1] [] σ := by
  unfold Md_keepsNow_14_B at hf
  rcases z_if_inv hf with ⟨h1, hf⟩ | ⟨h1, hf⟩
  · exact gx_go_ 3 [.inl 1] [(8 : Int32) ≤ a1] 59 [.ref 109, .int a1] [] σ rfl ⟨h1, trivial⟩ (gx_fgt (ls' := [.ref 109, .null]) ⟨Or.inr rfl, Or.inl rfl, trivial⟩ (vv_Md_keepsNow_59 D hD rr σ' σ hf))
  · obtain ⟨h2, hf⟩ := z_ck_inv hf
    obtain ⟨h3, hf⟩ := z_ck_inv hf
    obtain ⟨h4, hf⟩ := z_ck_inv hf
    obtain ⟨h5, hf⟩ := z_ck_inv hf
    obtain ⟨h6, hf⟩ := z_ck_inv hf
    obtain ⟨h7, hf⟩ := z_ck_inv hf
    obtain ⟨h8, hf⟩ := z_ck_inv hf
    obtain ⟨h9, hf⟩ := z_ck_inv hf
    exact gx_go_ 45 [.inl 0] [¬ ((8 : Int32) ≤ a1), vp_in a1 8, vp_in ((60 : Int32) + a1) 8880, vp_in a1 8, vp_in ((68 : Int32) + a1) 8880, vp_in a1 8, vp_in ((76 : Int32) + a1) 8880, vp_in a1 8, vp_in ((84 : Int32) + a1) 8880] 14 [.ref 109, .int (a1 + 1)] [] (gx_up (gx_up (gx_up (gx_up σ 110 ((60 : Int32) + a1).toNatClampNeg (σ 135 a1.toNatClampNeg)) 110 ((68 : Int32) + a1).toNatClampNeg ((gx_up σ 110 ((60 : Int32) + a1).toNatClampNeg (σ 135 a1.toNatClampNeg)) 136 a1.toNatClampNeg)) 110 ((76 : Int32) + a1).toNatClampNeg ((gx_up (gx_up σ 110 ((60 : Int32) + a1).toNatClampNeg (σ 135 a1.toNatClampNeg)) 110 ((68 : Int32) + a1).toNatClampNeg ((gx_up σ 110 ((60 : Int32) + a1).toNatClampNeg (σ 135 a1.toNatClampNeg)) 136 a1.toNatClampNeg)) 137 a1.toNatClampNeg)) 110 ((84 : Int32) + a1).toNatClampNeg ((gx_up (gx_up (gx_up σ 110 ((60 : Int32) + a1).toNatClampNeg (σ 135 a1.toNatClampNeg)) 110 ((68 : Int32) + a1).toNatClampNeg ((gx_up σ 110 ((60 : Int32) + a1).toNatClampNeg (σ 135 a1.toNatClampNeg)) 136 a1.toNatClampNeg)) 110 ((76 : Int32) + a1).toNatClampNeg ((gx_up (gx_up σ 110 ((60 : Int32) + a1).toNatClampNeg (σ 135 a1.toNatClampNeg)) 110 ((68 : Int32) + a1).toNatClampNeg ((gx_up σ 110 ((60 : Int32) + a1).toNatClampNeg (σ 135 a1.toNatClampNeg)) 136 a1.toNatClampNeg)) 137 a1.toNatClampNeg)) 138 a1.toNatClampNeg)) rfl ⟨h1, (z_ix_in h2), (z_ix_in h3), (z_ix_in h4), (z_ix_in h5), (z_ix_in h6), (z_ix_in h7), (z_ix_in h8), (z_ix_in h9), trivial⟩ (gx_fgt (ls' := [.ref 109, .int (a1 + 1)]) ⟨Or.inr rfl, Or.inr rfl, trivial⟩ (hK14 (a1 + 1) (gx_up (gx_up (gx_up (gx_up σ 110 ((60 : Int32) + a1).toNatClampNeg (σ 135 a1.toNatClampNeg)) 110 ((68 : Int32) + a1).toNatClampNeg ((gx_up σ 110 ((60 : Int32) + a1).toNatClampNeg (σ 135 a1.toNatClampNeg)) 136 a1.toNatClampNeg)) 110 ((76 : Int32) + a1).toNatClampNeg ((gx_up (gx_up σ 110 ((60 : Int32) + a1).toNatClampNeg (σ 135 a1.toNatClampNeg)) 110 ((68 : Int32) + a1).toNatClampNeg ((gx_up σ 110 ((60 : Int32) + a1).toNatClampNeg (σ 135 a1.toNatClampNeg)) 136 a1.toNatClampNeg)) 137 a1.toNatClampNeg)) 110 ((84 : Int32) + a1).toNatClampNeg ((gx_up (gx_up (gx_up σ 110 ((60 : Int32) + a1).toNatClampNeg (σ 135 a1.toNatClampNeg)) 110 ((68 : Int32) + a1).toNatClampNeg ((gx_up σ 110 ((60 : Int32) + a1).toNatClampNeg (σ 135 a1.toNatClampNeg)) 136 a1.toNatClampNeg)) 110 ((76 : Int32) + a1).toNatClampNeg ((gx_up (gx_up σ 110 ((60 : Int32) + a1).toNatClampNeg (σ 135 a1.toNatClampNeg)) 110 ((68 : Int32) + a1).toNatClampNeg ((gx_up σ 110 ((60 : Int32) + a1).toNatClampNeg (σ 135 a1.toNatClampNeg)) 136 a1.toNatClampNeg)) 137 a1.toNatClampNeg)) 138 a1.toNatClampNeg)) hf))
set_option maxHeartbeats 16000000 in
set_option maxRecDepth 20000 in
theorem vv_Md_keepsNow_14 (D : Nat) (hD : 1 ≤ D + 1) (rr : Unit) (σ' : gx_R) : ∀ (n : Nat) (a1 : Int32) (σ : gx_R), Md_keepsNow_14 n a1 σ = some (rr, σ') → gx_Ev lay0 (E0 D) tt_199 none σ' 14 [.ref 109, .int a1] [] σ := by
  intro n
  induction n with
  | zero => intro a1 σ  hf; cases hf
  | succ n ih => intro a1 σ  hf; exact vv_Md_keepsNow_14_B D hD rr σ'  (Md_keepsNow_14 n) ih a1 σ  hf
set_option maxHeartbeats 16000000 in
set_option maxRecDepth 20000 in
theorem vv_Md_keepsNow_E (D : Nat) (hD : 1 ≤ D + 1) (rr : Unit) (σ' : gx_R) (σ : gx_R) (hf : Md_keepsNow  σ = some (rr, σ')) : gx_Ev lay0 (E0 D) tt_199 none σ' 0 [.ref 109, .null] [] σ := by
  unfold Md_keepsNow at hf
  exact gx_go_ 14 [] [vp_in (162 : Int32) 8880, vp_in (163 : Int32) 8880] 14 [.ref 109, .int (0 : Int32)] [] (gx_up (gx_up σ 110 (162 : Int32).toNatClampNeg (σ 109 42)) 110 (163 : Int32).toNatClampNeg ((gx_up σ 110 (162 : Int32).toNatClampNeg (σ 109 42)) 109 43)) rfl ⟨(z_ix_in rfl), (z_ix_in rfl), trivial⟩ (gx_fgt (ls' := [.ref 109, .int (0 : Int32)]) ⟨Or.inr rfl, Or.inr rfl, trivial⟩ (vv_Md_keepsNow_14 D hD rr σ' z_FU (0 : Int32) (gx_up (gx_up σ 110 (162 : Int32).toNatClampNeg (σ 109 42)) 110 (163 : Int32).toNatClampNeg ((gx_up σ 110 (162 : Int32).toNatClampNeg (σ 109 42)) 109 43)) hf))
set_option maxHeartbeats 16000000 in
set_option maxRecDepth 20000 in
theorem ww_Md_keepsNow (D : Nat) (hD : 1 ≤ D) (σ : gx_R) (rr : Unit) (σ' : gx_R) (hf : Md_keepsNow  σ = some (rr, σ')) : E0 D 199 [.ref 109] σ none σ' := by
  cases D with
  | zero => omega
  | succ D => exact Or.inl ⟨Nat.le_of_ble_eq_true rfl, vv_Md_keepsNow_E D hD rr σ' σ hf⟩
set_option maxHeartbeats 16000000 in
set_option maxRecDepth 20000 in
theorem vv_Md_names_E (D : Nat) (hD : 1 ≤ D + 1) (rr : Unit) (σ' : gx_R) (a1 : Int32) (a2 : Int32) (σ : gx_R) (hf : Md_names a1 a2 σ = some (rr, σ')) : gx_Ev lay0 (E0 D) tt_200 none σ' 0 [.ref 109, .int a1, .int a2] [] σ := by
  unfold Md_names at hf
  obtain ⟨h1, hf⟩ := z_ck_inv hf
  obtain ⟨e1, e2⟩ := z_ret hf
  subst e1
  subst e2
  exact gx_end 27 [] [vp_in (0 : Int32) 11, vp_in (1 : Int32) 11, vp_in (2 : Int32) 11, vp_in ((10 : Int32) + a1) 8880, vp_in (3 : Int32) 11] rfl ⟨(z_ix_in rfl), (z_ix_in rfl), (z_ix_in rfl), (z_ix_in h1), (z_ix_in rfl), trivial⟩
set_option maxHeartbeats 16000000 in
set_option maxRecDepth 20000 in
theorem ww_Md_names (D : Nat) (hD : 1 ≤ D) (a1 : Int32) (a2 : Int32) (σ : gx_R) (rr : Unit) (σ' : gx_R) (hf : Md_names a1 a2 σ = some (rr, σ')) : E0 D 200 [.ref 109, .int a1, .int a2] σ none σ' := by
  cases D with
  | zero => omega
  | succ D => exact Or.inl ⟨Nat.le_of_ble_eq_true rfl, vv_Md_names_E D hD rr σ' a1 a2 σ hf⟩
set_option maxHeartbeats 16000000 in
set_option maxRecDepth 20000 in
theorem vv_Md_worthBy_E (D : Nat) (hD : 4 ≤ D + 1) (rr : Int32) (σ' : gx_R) (a1 : Int32) (a2 : Int32) (a3 : Int32) (a4 : Int32) (σ : gx_R) (hf : Md_worthBy a1 a2 a3 a4 σ = some (rr, σ')) : gx_Ev lay0 (E0 D) tt_201 (some (.int rr)) σ' 0 [.ref 109, .int a1, .int a2, .int a3, .int a4, .null] [] σ := by
  unfold Md_worthBy at hf
  obtain ⟨r1, σ2, h3, hf⟩ := z_bd_inv hf
  rcases z_if_inv hf with ⟨h4, hf⟩ | ⟨h4, hf⟩
  · obtain ⟨e1, e2⟩ := z_ret hf
    subst e1
    subst e2
    exact gx_end 9 [.inr (some (.int r1), σ2), .inl 0] [E0 D 196 [.ref 109, .int (0 : Int32)] σ (some (.int r1)) σ2, ¬ ¬ (r1 = (-1 : Int32))] rfl ⟨(ww_Md_ordersOf D (by omega) (0 : Int32) σ r1 σ2 h3), (fun q => q h4), trivial⟩
  · obtain ⟨⟨⟩, σ6, h7, hf⟩ := z_bd_inv hf
    obtain ⟨r8, σ9, h10, hf⟩ := z_bd_inv hf
    obtain ⟨r11, σ12, h13, hf⟩ := z_bd_inv hf
    obtain ⟨e1, e2⟩ := z_ret hf
    subst e1
    subst e2
    exact gx_end 28 [.inr (some (.int r1), σ2), .inl 1, .inr (none, σ6), .inr (some (.long r8), σ9), .inr (some (.int r11), σ12)] [E0 D 196 [.ref 109, .int (0 : Int32)] σ (some (.int r1)) σ2, ¬ (r1 = (-1 : Int32)), E0 D 200 [.ref 109, .int a1, .int a2] σ2 (none) σ6, vp_in (4 : Int32) 11, vp_in (5 : Int32) 11, E0 D 194 [.ref 109, .int r1] (gx_up (gx_up σ6 133 (4 : Int32).toNatClampNeg a3) 133 (5 : Int32).toNatClampNeg a4) (some (.long r8)) σ9, E0 D 197 [.long r8, .int (0 : Int32), .int (99 : Int32)] σ9 (some (.int r11)) σ12] rfl ⟨(ww_Md_ordersOf D (by omega) (0 : Int32) σ r1 σ2 h3), h4, (ww_Md_names D (by omega) a1 a2 σ2 () σ6 h7), (z_ix_in rfl), (z_ix_in rfl), (ww_Md_saysOf D (by omega) r1 (gx_up (gx_up σ6 133 (4 : Int32).toNatClampNeg a3) 133 (5 : Int32).toNatClampNeg a4) r8 σ9 h10), (ww_Md_held D (by omega) r8 (0 : Int32) (99 : Int32) σ9 r11 σ12 h13), trivial⟩
set_option maxHeartbeats 16000000 in
set_option maxRecDepth 20000 in
theorem ww_Md_worthBy (D : Nat) (hD : 4 ≤ D) (a1 : Int32) (a2 : Int32) (a3 : Int32) (a4 : Int32) (σ : gx_R) (rr : Int32) (σ' : gx_R) (hf : Md_worthBy a1 a2 a3 a4 σ = some (rr, σ')) : E0 D 201 [.ref 109, .int a1, .int a2, .int a3, .int a4] σ (some (.int rr)) σ' := by
  cases D with
  | zero => omega
  | succ D => exact Or.inl ⟨Nat.le_of_ble_eq_true rfl, vv_Md_worthBy_E D hD rr σ' a1 a2 a3 a4 σ hf⟩
set_option maxHeartbeats 16000000 in
set_option maxRecDepth 20000 in
theorem vv_Md_burnBy_E (D : Nat) (hD : 4 ≤ D + 1) (rr : Int32) (σ' : gx_R) (a1 : Int32) (a2 : Int32) (a3 : Int32) (σ : gx_R) (hf : Md_burnBy a1 a2 a3 σ = some (rr, σ')) : gx_Ev lay0 (E0 D) tt_202 (some (.int rr)) σ' 0 [.ref 109, .int a1, .int a2, .int a3, .null] [] σ := by
  unfold Md_burnBy at hf
  obtain ⟨r1, σ2, h3, hf⟩ := z_bd_inv hf
  rcases z_if_inv hf with ⟨h4, hf⟩ | ⟨h4, hf⟩
  · obtain ⟨e1, e2⟩ := z_ret hf
    subst e1
    subst e2
    exact gx_end 9 [.inr (some (.int r1), σ2), .inl 0] [E0 D 196 [.ref 109, .int (1 : Int32)] σ (some (.int r1)) σ2, ¬ ¬ (r1 = (-1 : Int32))] rfl ⟨(ww_Md_ordersOf D (by omega) (1 : Int32) σ r1 σ2 h3), (fun q => q h4), trivial⟩
  · obtain ⟨⟨⟩, σ6, h7, hf⟩ := z_bd_inv hf
    obtain ⟨h8, hf⟩ := z_ck_inv hf
    obtain ⟨r9, σ10, h11, hf⟩ := z_bd_inv hf
    obtain ⟨r12, σ13, h14, hf⟩ := z_bd_inv hf
    obtain ⟨e1, e2⟩ := z_ret hf
    subst e1
    subst e2
    exact gx_end 33 [.inr (some (.int r1), σ2), .inl 1, .inr (none, σ6), .inr (some (.long r9), σ10), .inr (some (.int r12), σ13)] [E0 D 196 [.ref 109, .int (1 : Int32)] σ (some (.int r1)) σ2, ¬ (r1 = (-1 : Int32)), E0 D 200 [.ref 109, .int a1, .int a2] σ2 (none) σ6, vp_in (6 : Int32) 11, vp_in ((48 : Int32) + a3) 8880, vp_in (7 : Int32) 11, E0 D 194 [.ref 109, .int r1] (gx_up (gx_up σ6 133 (6 : Int32).toNatClampNeg a3) 133 (7 : Int32).toNatClampNeg ((gx_up σ6 133 (6 : Int32).toNatClampNeg a3) 110 (((48 : Int32) + a3).toNatClampNeg))) (some (.long r9)) σ10, E0 D 197 [.long r9, .int (0 : Int32), .int (99 : Int32)] σ10 (some (.int r12)) σ13] rfl ⟨(ww_Md_ordersOf D (by omega) (1 : Int32) σ r1 σ2 h3), h4, (ww_Md_names D (by omega) a1 a2 σ2 () σ6 h7), (z_ix_in rfl), (z_ix_in h8), (z_ix_in rfl), (ww_Md_saysOf D (by omega) r1 (gx_up (gx_up σ6 133 (6 : Int32).toNatClampNeg a3) 133 (7 : Int32).toNatClampNeg ((gx_up σ6 133 (6 : Int32).toNatClampNeg a3) 110 (((48 : Int32) + a3).toNatClampNeg))) r9 σ10 h11), (ww_Md_held D (by omega) r9 (0 : Int32) (99 : Int32) σ10 r12 σ13 h14), trivial⟩
set_option maxHeartbeats 16000000 in
set_option maxRecDepth 20000 in
theorem ww_Md_burnBy (D : Nat) (hD : 4 ≤ D) (a1 : Int32) (a2 : Int32) (a3 : Int32) (σ : gx_R) (rr : Int32) (σ' : gx_R) (hf : Md_burnBy a1 a2 a3 σ = some (rr, σ')) : E0 D 202 [.ref 109, .int a1, .int a2, .int a3] σ (some (.int rr)) σ' := by
  cases D with
  | zero => omega
  | succ D => exact Or.inl ⟨Nat.le_of_ble_eq_true rfl, vv_Md_burnBy_E D hD rr σ' a1 a2 a3 σ hf⟩
set_option maxHeartbeats 16000000 in
set_option maxRecDepth 20000 in
theorem vv_Md_soundOf_E (D : Nat) (hD : 4 ≤ D + 1) (rr : Int32) (σ' : gx_R) (a1 : Int32) (σ : gx_R) (hf : Md_soundOf a1 σ = some (rr, σ')) : gx_Ev lay0 (E0 D) tt_203 (some (.int rr)) σ' 0 [.ref 109, .int a1, .null] [] σ := by
  unfold Md_soundOf at hf
  obtain ⟨r1, σ2, h3, hf⟩ := z_bd_inv hf
  obtain ⟨h4, hf⟩ := z_ck_inv hf
  obtain ⟨⟨⟩, σ6, h7, hf⟩ := z_bd_inv hf
  rcases z_if_inv hf with ⟨h8, hf⟩ | ⟨h8, hf⟩
  · obtain ⟨h9, hf⟩ := z_ck_inv hf
    obtain ⟨e1, e2⟩ := z_ret hf
    subst e1
    subst e2
    exact gx_end 22 [.inr (some (.int r1), σ2), .inr (none, σ6), .inl 0] [E0 D 196 [.ref 109, .int (2 : Int32)] σ (some (.int r1)) σ2, vp_in a1 8, E0 D 200 [.ref 109, .int a1, .int (σ2 137 a1.toNatClampNeg)] σ2 (none) σ6, ¬ ¬ (r1 = (-1 : Int32)), vp_in ((10 : Int32) + a1) 8880] rfl ⟨(ww_Md_ordersOf D (by omega) (2 : Int32) σ r1 σ2 h3), (z_ix_in h4), (ww_Md_names D (by omega) a1 (σ2 137 a1.toNatClampNeg) σ2 () σ6 h7), (fun q => q h8), (z_ix_in h9), trivial⟩
  · obtain ⟨r10, σ11, h12, hf⟩ := z_bd_inv hf
    obtain ⟨r13, σ14, h15, hf⟩ := z_bd_inv hf
    obtain ⟨e1, e2⟩ := z_ret hf
    subst e1
    subst e2
    exact gx_end 21 [.inr (some (.int r1), σ2), .inr (none, σ6), .inl 1, .inr (some (.long r10), σ11), .inr (some (.int r13), σ14)] [E0 D 196 [.ref 109, .int (2 : Int32)] σ (some (.int r1)) σ2, vp_in a1 8, E0 D 200 [.ref 109, .int a1, .int (σ2 137 a1.toNatClampNeg)] σ2 (none) σ6, ¬ (r1 = (-1 : Int32)), E0 D 194 [.ref 109, .int r1] σ6 (some (.long r10)) σ11, E0 D 197 [.long r10, .int (0 : Int32), .int (99 : Int32)] σ11 (some (.int r13)) σ14] rfl ⟨(ww_Md_ordersOf D (by omega) (2 : Int32) σ r1 σ2 h3), (z_ix_in h4), (ww_Md_names D (by omega) a1 (σ2 137 a1.toNatClampNeg) σ2 () σ6 h7), h8, (ww_Md_saysOf D (by omega) r1 σ6 r10 σ11 h12), (ww_Md_held D (by omega) r10 (0 : Int32) (99 : Int32) σ11 r13 σ14 h15), trivial⟩
set_option maxHeartbeats 16000000 in
set_option maxRecDepth 20000 in
theorem ww_Md_soundOf (D : Nat) (hD : 4 ≤ D) (a1 : Int32) (σ : gx_R) (rr : Int32) (σ' : gx_R) (hf : Md_soundOf a1 σ = some (rr, σ')) : E0 D 203 [.ref 109, .int a1] σ (some (.int rr)) σ' := by
  cases D with
  | zero => omega
  | succ D => exact Or.inl ⟨Nat.le_of_ble_eq_true rfl, vv_Md_soundOf_E D hD rr σ' a1 σ hf⟩
set_option maxHeartbeats 16000000 in
set_option maxRecDepth 20000 in
theorem vv_Md_priceOf_E (D : Nat) (hD : 4 ≤ D + 1) (rr : Int32) (σ' : gx_R) (a1 : Int32) (a2 : Int32) (σ : gx_R) (hf : Md_priceOf a1 a2 σ = some (rr, σ')) : gx_Ev lay0 (E0 D) tt_204 (some (.int rr)) σ' 0 [.ref 109, .int a1, .int a2, .null] [] σ := by
  unfold Md_priceOf at hf
  obtain ⟨r1, σ2, h3, hf⟩ := z_bd_inv hf
  obtain ⟨⟨⟩, σ5, h6, hf⟩ := z_bd_inv hf
  obtain ⟨h7, hf⟩ := z_ck_inv hf
  rcases z_if_inv hf with ⟨h8, hf⟩ | ⟨h8, hf⟩
  · obtain ⟨e1, e2⟩ := z_ret hf
    subst e1
    subst e2
    exact gx_end 28 [.inr (some (.int r1), σ2), .inr (none, σ5), .inl 0] [E0 D 196 [.ref 109, .int (3 : Int32)] σ (some (.int r1)) σ2, E0 D 200 [.ref 109, .int a1, .int (0 : Int32)] σ2 (none) σ5, vp_in (((98 : Int32) + ((8 : Int32) * a2)) + a1) 8880, vp_in (8 : Int32) 11, ¬ ¬ (r1 = (-1 : Int32))] rfl ⟨(ww_Md_ordersOf D (by omega) (3 : Int32) σ r1 σ2 h3), (ww_Md_names D (by omega) a1 (0 : Int32) σ2 () σ5 h6), (z_ix_in h7), (z_ix_in rfl), (fun q => q h8), trivial⟩
  · obtain ⟨r9, σ10, h11, hf⟩ := z_bd_inv hf
    obtain ⟨r12, σ13, h14, hf⟩ := z_bd_inv hf
    obtain ⟨e1, e2⟩ := z_ret hf
    subst e1
    subst e2
    exact gx_end 32 [.inr (some (.int r1), σ2), .inr (none, σ5), .inl 1, .inr (some (.long r9), σ10), .inr (some (.int r12), σ13)] [E0 D 196 [.ref 109, .int (3 : Int32)] σ (some (.int r1)) σ2, E0 D 200 [.ref 109, .int a1, .int (0 : Int32)] σ2 (none) σ5, vp_in (((98 : Int32) + ((8 : Int32) * a2)) + a1) 8880, vp_in (8 : Int32) 11, ¬ (r1 = (-1 : Int32)), E0 D 194 [.ref 109, .int r1] (gx_up σ5 133 (8 : Int32).toNatClampNeg (σ5 110 ((((98 : Int32) + ((8 : Int32) * a2)) + a1).toNatClampNeg))) (some (.long r9)) σ10, E0 D 197 [.long r9, .int (0 : Int32), .int (999 : Int32)] σ10 (some (.int r12)) σ13] rfl ⟨(ww_Md_ordersOf D (by omega) (3 : Int32) σ r1 σ2 h3), (ww_Md_names D (by omega) a1 (0 : Int32) σ2 () σ5 h6), (z_ix_in h7), (z_ix_in rfl), h8, (ww_Md_saysOf D (by omega) r1 (gx_up σ5 133 (8 : Int32).toNatClampNeg (σ5 110 ((((98 : Int32) + ((8 : Int32) * a2)) + a1).toNatClampNeg))) r9 σ10 h11), (ww_Md_held D (by omega) r9 (0 : Int32) (999 : Int32) σ10 r12 σ13 h14), trivial⟩
set_option maxHeartbeats 16000000 in
set_option maxRecDepth 20000 in
theorem ww_Md_priceOf (D : Nat) (hD : 4 ≤ D) (a1 : Int32) (a2 : Int32) (σ : gx_R) (rr : Int32) (σ' : gx_R) (hf : Md_priceOf a1 a2 σ = some (rr, σ')) : E0 D 204 [.ref 109, .int a1, .int a2] σ (some (.int rr)) σ' := by
  cases D with
  | zero => omega
  | succ D => exact Or.inl ⟨Nat.le_of_ble_eq_true rfl, vv_Md_priceOf_E D hD rr σ' a1 a2 σ hf⟩
set_option maxHeartbeats 16000000 in
set_option maxRecDepth 20000 in
theorem vv_Md_fuelOf_41 (D : Nat) (hD : 5 ≤ D + 1) (rr : Int32) (σ' : gx_R) (K45 : Int32 → Int32 → Int32 → Int32 → Int32 → gx_R → Option (Int32 × gx_R)) (hK45 : ∀ (a1 : Int32) (a2 : Int32) (a3 : Int32) (a4 : Int32) (a5 : Int32) (σ : gx_R), K45 a1 a2 a3 a4 a5 σ = some (rr, σ') → gx_Ev lay0 (E0 D) tt_205 (some (.int rr)) σ' 45 [.ref 109, .int a1, .int a2, .int a3, .int a4, .int a5] [] σ) (a1 : Int32) (a2 : Int32) (a3 : Int32) (a5 : Int32) (s0 : Int32) (s2 : Int32) (s3 : Int32) (s4 : Int32) (σ : gx_R) (hf : Md_fuelOf_41 K45 a1 a2 a3 a5 s0 s2 s3 s4 σ = some (rr, σ')) : gx_Ev lay0 (E0 D) tt_205 (some (.int rr)) σ' 41 [.ref 109, .int a1, .int a2, .int a3, .null, .int a5] [.int s4, .int s3, .int s2, .ref 109, .int s0] σ := by
  unfold Md_fuelOf_41 at hf
  obtain ⟨r1, σ2, h3, hf⟩ := z_bd_inv hf
  exact gx_go_ 4 [.inr (some (.int r1), σ2)] [E0 D 201 [.ref 109, .int s2, .int s3, .int s4, .int a1] σ (some (.int r1)) σ2] 45 [.ref 109, .int a1, .int a2, .int a3, .int (s0 + r1), .int a5] [] σ2 rfl ⟨(ww_Md_worthBy D (by omega) s2 s3 s4 a1 σ r1 σ2 h3), trivial⟩ (gx_fgt (ls' := [.ref 109, .int a1, .int a2, .int a3, .int (s0 + r1), .int a5]) ⟨Or.inr rfl, Or.inr rfl, Or.inr rfl, Or.inr rfl, Or.inr rfl, Or.inr rfl, trivial⟩ (hK45 a1 a2 a3 (s0 + r1) a5 σ2 hf))
set_option maxHeartbeats 16000000 in
set_option maxRecDepth 20000 in
theorem vv_Md_fuelOf_45 (D : Nat) (hD : 5 ≤ D + 1) (rr : Int32) (σ' : gx_R) (K4 : Int32 → Int32 → Int32 → Int32 → Int32 → gx_R → Option (Int32 × gx_R)) (hK4 : ∀ (a1 : Int32) (a2 : Int32) (a3 : Int32) (a4 : Int32) (a5 : Int32) (σ : gx_R), K4 a1 a2 a3 a4 a5 σ = some (rr, σ') → gx_Ev lay0 (E0 D) tt_205 (some (.int rr)) σ' 4 [.ref 109, .int a1, .int a2, .int a3, .int a4, .int a5] [] σ) (a1 : Int32) (a2 : Int32) (a3 : Int32) (a4 : Int32) (a5 : Int32) (σ : gx_R) (hf : Md_fuelOf_45 K4 a1 a2 a3 a4 a5 σ = some (rr, σ')) : gx_Ev lay0 (E0 D) tt_205 (some (.int rr)) σ' 45 [.ref 109, .int a1, .int a2, .int a3, .int a4, .int a5] [] σ := by
  unfold Md_fuelOf_45 at hf
  exact gx_go_ 2 [] [] 4 [.ref 109, .int a1, .int a2, .int a3, .int a4, .int (a5 + 1)] [] σ rfl trivial (gx_fgt (ls' := [.ref 109, .int a1, .int a2, .int a3, .int a4, .int (a5 + 1)]) ⟨Or.inr rfl, Or.inr rfl, Or.inr rfl, Or.inr rfl, Or.inr rfl, Or.inr rfl, trivial⟩ (hK4 a1 a2 a3 a4 (a5 + 1) σ hf))
set_option maxHeartbeats 16000000 in
set_option maxRecDepth 20000 in
theorem vv_Md_fuelOf_4_B (D : Nat) (hD : 5 ≤ D + 1) (rr : Int32) (σ' : gx_R) (K4 : Int32 → Int32 → Int32 → Int32 → Int32 → gx_R → Option (Int32 × gx_R)) (hK4 : ∀ (a1 : Int32) (a2 : Int32) (a3 : Int32) (a4 : Int32) (a5 : Int32) (σ : gx_R), K4 a1 a2 a3 a4 a5 σ = some (rr, σ') → gx_Ev lay0 (E0 D) tt_205 (some (.int rr)) σ' 4 [.ref 109, .int a1, .int a2, .int a3, .int a4, .int a5] [] σ) (a1 : Int32) (a2 : Int32) (a3 : Int32) (a4 : Int32) (a5 : Int32) (σ : gx_R) (hf : Md_fuelOf_4_B K4 a1 a2 a3 a4 a5 σ = some (rr, σ')) : gx_Ev lay0 (E0 D) tt_205 (some (.int rr)) σ' 4 [.ref 109, .int a1, .int a2, .int a3, .int a4, .int a5] [] σ := by
  unfold Md_fuelOf_4_B at hf
  rcases z_if_inv hf with ⟨h1, hf⟩ | ⟨h1, hf⟩
  · obtain ⟨e1, e2⟩ := z_ret hf
    subst e1
    subst e2
    exact gx_end 8 [.inl 1] [vp_in (0 : Int32) 8880, (σ 110 ((0 : Int32).toNatClampNeg)) ≤ a5] rfl ⟨(z_ix_in rfl), h1, trivial⟩
  · obtain ⟨h2, hf⟩ := z_ck_inv hf
    rcases z_if_inv hf with ⟨h3, hf⟩ | ⟨h3, hf⟩
    · obtain ⟨h4, hf⟩ := z_ck_inv hf
      rcases z_if_inv hf with ⟨h5, hf⟩ | ⟨h5, hf⟩
      · obtain ⟨r6, σ7, h8, hf⟩ := z_bd_inv hf
        rcases z_if_inv hf with ⟨h9, hf⟩ | ⟨h9, hf⟩
        · obtain ⟨h10, hf⟩ := z_ck_inv hf
          rcases z_if_inv hf with ⟨h11, hf⟩ | ⟨h11, hf⟩
          · exact gx_go_ 32 [.inl 0, .inl 0, .inl 0, .inr (some (.int r6), σ7), .inl 0, .inl 1] [vp_in (0 : Int32) 8880, ¬ ((σ 110 ((0 : Int32).toNatClampNeg)) ≤ a5), vp_in a5 8, ¬ ¬ ((σ 135 a5.toNatClampNeg) = (2 : Int32)), vp_in a5 8, ¬ ¬ ((σ 136 a5.toNatClampNeg) = a1), E0 D 146 [.int a2, .int a5] σ (some (.int r6)) σ7, ¬ ¬ (r6 = 0), vp_in a5 8, a3 = 0] 41 [.ref 109, .int a1, .int a2, .int a3, .int a4, .int a5] [.int (0 : Int32), .int (σ7 137 a5.toNatClampNeg), .int a5, .ref 109, .int a4] σ7 rfl ⟨(z_ix_in rfl), h1, (z_ix_in h2), (fun q => q h3), (z_ix_in h4), (fun q => q h5), (ww_Md_has D (by omega) a2 a5 σ r6 σ7 h8), (fun q => q h9), (z_ix_in h10), h11, trivial⟩ (gx_fgt (ls' := [.ref 109, .int a1, .int a2, .int a3, .null, .int a5]) ⟨Or.inr rfl, Or.inr rfl, Or.inr rfl, Or.inr rfl, Or.inl rfl, Or.inr rfl, trivial⟩ (vv_Md_fuelOf_41 D hD rr σ' (Md_fuelOf_45 K4) (vv_Md_fuelOf_45 D hD rr σ' K4 hK4) a1 a2 a3 a5 a4 a5 (σ7 137 a5.toNatClampNeg) (0 : Int32) σ7 hf))
          · obtain ⟨h12, hf⟩ := z_ck_inv hf
            exact gx_go_ 36 [.inl 0, .inl 0, .inl 0, .inr (some (.int r6), σ7), .inl 0, .inl 0] [vp_in (0 : Int32) 8880, ¬ ((σ 110 ((0 : Int32).toNatClampNeg)) ≤ a5), vp_in a5 8, ¬ ¬ ((σ 135 a5.toNatClampNeg) = (2 : Int32)), vp_in a5 8, ¬ ¬ ((σ 136 a5.toNatClampNeg) = a1), E0 D 146 [.int a2, .int a5] σ (some (.int r6)) σ7, ¬ ¬ (r6 = 0), vp_in a5 8, ¬ (a3 = 0), vp_in a5 8] 41 [.ref 109, .int a1, .int a2, .int a3, .int a4, .int a5] [.int (σ7 138 a5.toNatClampNeg), .int (σ7 137 a5.toNatClampNeg), .int a5, .ref 109, .int a4] σ7 rfl ⟨(z_ix_in rfl), h1, (z_ix_in h2), (fun q => q h3), (z_ix_in h4), (fun q => q h5), (ww_Md_has D (by omega) a2 a5 σ r6 σ7 h8), (fun q => q h9), (z_ix_in h10), h11, (z_ix_in h12), trivial⟩ (gx_fgt (ls' := [.ref 109, .int a1, .int a2, .int a3, .null, .int a5]) ⟨Or.inr rfl, Or.inr rfl, Or.inr rfl, Or.inr rfl, Or.inl rfl, Or.inr rfl, trivial⟩ (vv_Md_fuelOf_41 D hD rr σ' (Md_fuelOf_45 K4) (vv_Md_fuelOf_45 D hD rr σ' K4 hK4) a1 a2 a3 a5 a4 a5 (σ7 137 a5.toNatClampNeg) (σ7 138 a5.toNatClampNeg) σ7 hf))
        · exact gx_go_ 22 [.inl 0, .inl 0, .inl 0, .inr (some (.int r6), σ7), .inl 1] [vp_in (0 : Int32) 8880, ¬ ((σ 110 ((0 : Int32).toNatClampNeg)) ≤ a5), vp_in a5 8, ¬ ¬ ((σ 135 a5.toNatClampNeg) = (2 : Int32)), vp_in a5 8, ¬ ¬ ((σ 136 a5.toNatClampNeg) = a1), E0 D 146 [.int a2, .int a5] σ (some (.int r6)) σ7, ¬ (r6 = 0)] 45 [.ref 109, .int a1, .int a2, .int a3, .int a4, .int a5] [] σ7 rfl ⟨(z_ix_in rfl), h1, (z_ix_in h2), (fun q => q h3), (z_ix_in h4), (fun q => q h5), (ww_Md_has D (by omega) a2 a5 σ r6 σ7 h8), h9, trivial⟩ (gx_fgt (ls' := [.ref 109, .int a1, .int a2, .int a3, .int a4, .int a5]) ⟨Or.inr rfl, Or.inr rfl, Or.inr rfl, Or.inr rfl, Or.inr rfl, Or.inr rfl, trivial⟩ (vv_Md_fuelOf_45 D hD rr σ' K4 hK4 a1 a2 a3 a4 a5 σ7 hf))
      · exact gx_go_ 18 [.inl 0, .inl 0, .inl 1] [vp_in (0 : Int32) 8880, ¬ ((σ 110 ((0 : Int32).toNatClampNeg)) ≤ a5), vp_in a5 8, ¬ ¬ ((σ 135 a5.toNatClampNeg) = (2 : Int32)), vp_in a5 8, ¬ ((σ 136 a5.toNatClampNeg) = a1)] 45 [.ref 109, .int a1, .int a2, .int a3, .int a4, .int a5] [] σ rfl ⟨(z_ix_in rfl), h1, (z_ix_in h2), (fun q => q h3), (z_ix_in h4), h5, trivial⟩ (gx_fgt (ls' := [.ref 109, .int a1, .int a2, .int a3, .int a4, .int a5]) ⟨Or.inr rfl, Or.inr rfl, Or.inr rfl, Or.inr rfl, Or.inr rfl, Or.inr rfl, trivial⟩ (vv_Md_fuelOf_45 D hD rr σ' K4 hK4 a1 a2 a3 a4 a5 σ hf))
    · exact gx_go_ 12 [.inl 0, .inl 1] [vp_in (0 : Int32) 8880, ¬ ((σ 110 ((0 : Int32).toNatClampNeg)) ≤ a5), vp_in a5 8, ¬ ((σ 135 a5.toNatClampNeg) = (2 : Int32))] 45 [.ref 109, .int a1, .int a2, .int a3, .int a4, .int a5] [] σ rfl ⟨(z_ix_in rfl), h1, (z_ix_in h2), h3, trivial⟩ (gx_fgt (ls' := [.ref 109, .int a1, .int a2, .int a3, .int a4, .int a5]) ⟨Or.inr rfl, Or.inr rfl, Or.inr rfl, Or.inr rfl, Or.inr rfl, Or.inr rfl, trivial⟩ (vv_Md_fuelOf_45 D hD rr σ' K4 hK4 a1 a2 a3 a4 a5 σ hf))
set_option maxHeartbeats 16000000 in
set_option maxRecDepth 20000 in
theorem vv_Md_fuelOf_4 (D : Nat) (hD : 5 ≤ D + 1) (rr : Int32) (σ' : gx_R) : ∀ (n : Nat) (a1 : Int32) (a2 : Int32) (a3 : Int32) (a4 : Int32) (a5 : Int32) (σ : gx_R), Md_fuelOf_4 n a1 a2 a3 a4 a5 σ = some (rr, σ') → gx_Ev lay0 (E0 D) tt_205 (some (.int rr)) σ' 4 [.ref 109, .int a1, .int a2, .int a3, .int a4, .int a5] [] σ := by
  intro n
  induction n with
  | zero => intro a1 a2 a3 a4 a5 σ  hf; cases hf
  | succ n ih => intro a1 a2 a3 a4 a5 σ  hf; exact vv_Md_fuelOf_4_B D hD rr σ'  (Md_fuelOf_4 n) ih a1 a2 a3 a4 a5 σ  hf
set_option maxHeartbeats 16000000 in
set_option maxRecDepth 20000 in
theorem vv_Md_fuelOf_E (D : Nat) (hD : 5 ≤ D + 1) (rr : Int32) (σ' : gx_R) (a1 : Int32) (a2 : Int32) (a3 : Int32) (σ : gx_R) (hf : Md_fuelOf a1 a2 a3 σ = some (rr, σ')) : gx_Ev lay0 (E0 D) tt_205 (some (.int rr)) σ' 0 [.ref 109, .int a1, .int a2, .int a3, .null, .null] [] σ := by
  unfold Md_fuelOf at hf
  exact gx_go_ 4 [] [] 4 [.ref 109, .int a1, .int a2, .int a3, .int (0 : Int32), .int (0 : Int32)] [] σ rfl trivial (gx_fgt (ls' := [.ref 109, .int a1, .int a2, .int a3, .int (0 : Int32), .int (0 : Int32)]) ⟨Or.inr rfl, Or.inr rfl, Or.inr rfl, Or.inr rfl, Or.inr rfl, Or.inr rfl, trivial⟩ (vv_Md_fuelOf_4 D hD rr σ' z_FU a1 a2 a3 (0 : Int32) (0 : Int32) σ hf))
set_option maxHeartbeats 16000000 in
set_option maxRecDepth 20000 in
theorem ww_Md_fuelOf (D : Nat) (hD : 5 ≤ D) (a1 : Int32) (a2 : Int32) (a3 : Int32) (σ : gx_R) (rr : Int32) (σ' : gx_R) (hf : Md_fuelOf a1 a2 a3 σ = some (rr, σ')) : E0 D 205 [.ref 109, .int a1, .int a2, .int a3] σ (some (.int rr)) σ' := by
  cases D with
  | zero => omega
  | succ D => exact Or.inl ⟨Nat.le_of_ble_eq_true rfl, vv_Md_fuelOf_E D hD rr σ' a1 a2 a3 σ hf⟩
set_option maxHeartbeats 16000000 in
set_option maxRecDepth 20000 in
theorem vv_Md_allThat_22 (D : Nat) (hD : 1 ≤ D + 1) (rr : Int32) (σ' : gx_R) (K4 : Int32 → Int32 → Int32 → gx_R → Option (Int32 × gx_R)) (hK4 : ∀ (a1 : Int32) (a2 : Int32) (a3 : Int32) (σ : gx_R), K4 a1 a2 a3 σ = some (rr, σ') → gx_Ev lay0 (E0 D) tt_206 (some (.int rr)) σ' 4 [.ref 109, .int a1, .int a2, .int a3] [] σ) (a1 : Int32) (a3 : Int32) (s0 : Int32) (s1 : Int32) (σ : gx_R) (hf : Md_allThat_22 K4 a1 a3 s0 s1 σ = some (rr, σ')) : gx_Ev lay0 (E0 D) tt_206 (some (.int rr)) σ' 22 [.ref 109, .int a1, .null, .int a3] [.int s1, .int s0] σ := by
  unfold Md_allThat_22 at hf
  exact gx_go_ 4 [] [] 4 [.ref 109, .int a1, .int (s0 ||| s1), .int (a3 + 1)] [] σ rfl trivial (gx_fgt (ls' := [.ref 109, .int a1, .int (s0 ||| s1), .int (a3 + 1)]) ⟨Or.inr rfl, Or.inr rfl, Or.inr rfl, Or.inr rfl, trivial⟩ (hK4 a1 (s0 ||| s1) (a3 + 1) σ hf))
set_option maxHeartbeats 16000000 in
set_option maxRecDepth 20000 in
theorem vv_Md_allThat_4_B (D : Nat) (hD : 1 ≤ D + 1) (rr : Int32) (σ' : gx_R) (K4 : Int32 → Int32 → Int32 → gx_R → Option (Int32 × gx_R)) (hK4 : ∀ (a1 : Int32) (a2 : Int32) (a3 : Int32) (σ : gx_R), K4 a1 a2 a3 σ = some (rr, σ') → gx_Ev lay0 (E0 D) tt_206 (some (.int rr)) σ' 4 [.ref 109, .int a1, .int a2, .int a3] [] σ) (a1 : Int32) (a2 : Int32) (a3 : Int32) (σ : gx_R) (hf : Md_allThat_4_B K4 a1 a2 a3 σ = some (rr, σ')) : gx_Ev lay0 (E0 D) tt_206 (some (.int rr)) σ' 4 [.ref 109, .int a1, .int a2, .int a3] [] σ := by
  unfold Md_allThat_4_B at hf
  rcases z_if_inv hf with ⟨h1, hf⟩ | ⟨h1, hf⟩
  · obtain ⟨e1, e2⟩ := z_ret hf
    subst e1
    subst e2
    exact gx_end 8 [.inl 1] [vp_in (0 : Int32) 8880, (σ 110 ((0 : Int32).toNatClampNeg)) ≤ a3] rfl ⟨(z_ix_in rfl), h1, trivial⟩
  · obtain ⟨h2, hf⟩ := z_ck_inv hf
    rcases z_if_inv hf with ⟨h3, hf⟩ | ⟨h3, hf⟩
    · exact gx_go_ 17 [.inl 0, .inl 0] [vp_in (0 : Int32) 8880, ¬ ((σ 110 ((0 : Int32).toNatClampNeg)) ≤ a3), vp_in a3 8, ¬ ¬ ((σ 135 a3.toNatClampNeg) = a1)] 22 [.ref 109, .int a1, .int a2, .int a3] [.int ((1 : Int32) <<< (a3 &&& 31)), .int a2] σ rfl ⟨(z_ix_in rfl), h1, (z_ix_in h2), (fun q => q h3), trivial⟩ (gx_fgt (ls' := [.ref 109, .int a1, .null, .int a3]) ⟨Or.inr rfl, Or.inr rfl, Or.inl rfl, Or.inr rfl, trivial⟩ (vv_Md_allThat_22 D hD rr σ' K4 hK4 a1 a3 a2 ((1 : Int32) <<< (a3 &&& 31)) σ hf))
    · exact gx_go_ 14 [.inl 0, .inl 1] [vp_in (0 : Int32) 8880, ¬ ((σ 110 ((0 : Int32).toNatClampNeg)) ≤ a3), vp_in a3 8, ¬ ((σ 135 a3.toNatClampNeg) = a1)] 22 [.ref 109, .int a1, .int a2, .int a3] [.int (0 : Int32), .int a2] σ rfl ⟨(z_ix_in rfl), h1, (z_ix_in h2), h3, trivial⟩ (gx_fgt (ls' := [.ref 109, .int a1, .null, .int a3]) ⟨Or.inr rfl, Or.inr rfl, Or.inl rfl, Or.inr rfl, trivial⟩ (vv_Md_allThat_22 D hD rr σ' K4 hK4 a1 a3 a2 (0 : Int32) σ hf))
set_option maxHeartbeats 16000000 in
set_option maxRecDepth 20000 in
theorem vv_Md_allThat_4 (D : Nat) (hD : 1 ≤ D + 1) (rr : Int32) (σ' : gx_R) : ∀ (n : Nat) (a1 : Int32) (a2 : Int32) (a3 : Int32) (σ : gx_R), Md_allThat_4 n a1 a2 a3 σ = some (rr, σ') → gx_Ev lay0 (E0 D) tt_206 (some (.int rr)) σ' 4 [.ref 109, .int a1, .int a2, .int a3] [] σ := by
  intro n
  induction n with
  | zero => intro a1 a2 a3 σ  hf; cases hf
  | succ n ih => intro a1 a2 a3 σ  hf; exact vv_Md_allThat_4_B D hD rr σ'  (Md_allThat_4 n) ih a1 a2 a3 σ  hf
set_option maxHeartbeats 16000000 in
set_option maxRecDepth 20000 in
theorem vv_Md_allThat_E (D : Nat) (hD : 1 ≤ D + 1) (rr : Int32) (σ' : gx_R) (a1 : Int32) (σ : gx_R) (hf : Md_allThat a1 σ = some (rr, σ')) : gx_Ev lay0 (E0 D) tt_206 (some (.int rr)) σ' 0 [.ref 109, .int a1, .null, .null] [] σ := by
  unfold Md_allThat at hf
  exact gx_go_ 4 [] [] 4 [.ref 109, .int a1, .int (0 : Int32), .int (0 : Int32)] [] σ rfl trivial (gx_fgt (ls' := [.ref 109, .int a1, .int (0 : Int32), .int (0 : Int32)]) ⟨Or.inr rfl, Or.inr rfl, Or.inr rfl, Or.inr rfl, trivial⟩ (vv_Md_allThat_4 D hD rr σ' z_FU a1 (0 : Int32) (0 : Int32) σ hf))
set_option maxHeartbeats 16000000 in
set_option maxRecDepth 20000 in
theorem ww_Md_allThat (D : Nat) (hD : 1 ≤ D) (a1 : Int32) (σ : gx_R) (rr : Int32) (σ' : gx_R) (hf : Md_allThat a1 σ = some (rr, σ')) : E0 D 206 [.ref 109, .int a1] σ (some (.int rr)) σ' := by
  cases D with
  | zero => omega
  | succ D => exact Or.inl ⟨Nat.le_of_ble_eq_true rfl, vv_Md_allThat_E D hD rr σ' a1 σ hf⟩
set_option maxHeartbeats 16000000 in
set_option maxRecDepth 20000 in
theorem vv_Md_drawn_E (D : Nat) (hD : 1 ≤ D + 1) (rr : Int32) (σ' : gx_R) (a1 : Int32) (σ : gx_R) (hf : Md_drawn a1 σ = some (rr, σ')) : gx_Ev lay0 (E0 D) tt_207 (some (.int rr)) σ' 0 [.ref 109, .int a1, .null] [] σ := by
  unfold Md_drawn at hf
  obtain ⟨h1, hf⟩ := z_ck_inv hf
  obtain ⟨e1, e2⟩ := z_ret hf
  subst e1
  subst e2
  exact gx_end 17 [] [¬ a1 = 0, ¬ (30211 : Int32) = 0] rfl ⟨(z_nzi_in h1), (by decide), trivial⟩
set_option maxHeartbeats 16000000 in
set_option maxRecDepth 20000 in
theorem ww_Md_drawn (D : Nat) (hD : 1 ≤ D) (a1 : Int32) (σ : gx_R) (rr : Int32) (σ' : gx_R) (hf : Md_drawn a1 σ = some (rr, σ')) : E0 D 207 [.ref 109, .int a1] σ (some (.int rr)) σ' := by
  cases D with
  | zero => omega
  | succ D => exact Or.inl ⟨Nat.le_of_ble_eq_true rfl, vv_Md_drawn_E D hD rr σ' a1 σ hf⟩
set_option maxHeartbeats 16000000 in
set_option maxRecDepth 20000 in
theorem vv_Md_runs_76 (D : Nat) (hD : 1 ≤ D + 1) (rr : Unit) (σ' : gx_R) (K36 : Int32 → Int32 → gx_R → Option (Unit × gx_R)) (hK36 : ∀ (a1 : Int32) (a3 : Int32) (σ : gx_R), K36 a1 a3 σ = some (rr, σ') → gx_Ev lay0 (E0 D) tt_208 none σ' 36 [.ref 109, .int a1, .null, .int a3] [] σ) (a1 : Int32) (a3 : Int32) (σ : gx_R) (hf : Md_runs_76 K36 a1 a3 σ = some (rr, σ')) : gx_Ev lay0 (E0 D) tt_208 none σ' 76 [.ref 109, .int a1, .null, .int a3] [] σ := by
  unfold Md_runs_76 at hf
  exact gx_go_ 2 [] [] 36 [.ref 109, .int a1, .null, .int (a3 + 1)] [] σ rfl trivial (gx_fgt (ls' := [.ref 109, .int a1, .null, .int (a3 + 1)]) ⟨Or.inr rfl, Or.inr rfl, Or.inl rfl, Or.inr rfl, trivial⟩ (hK36 a1 (a3 + 1) σ hf))
set_option maxHeartbeats 16000000 in
set_option maxRecDepth 20000 in
theorem vv_Md_runs_36_B (D : Nat) (hD : 1 ≤ D + 1) (rr : Unit) (σ' : gx_R) (K36 : Int32 → Int32 → gx_R → Option (Unit × gx_R)) (hK36 : ∀ (a1 : Int32) (a3 : Int32) (σ : gx_R), K36 a1 a3 σ = some (rr, σ') → gx_Ev lay0 (E0 D) tt_208 none σ' 36 [.ref 109, .int a1, .null, .int a3] [] σ) (a1 : Int32) (a3 : Int32) (σ : gx_R) (hf : Md_runs_36_B K36 a1 a3 σ = some (rr, σ')) : gx_Ev lay0 (E0 D) tt_208 none σ' 36 [.ref 109, .int a1, .null, .int a3] [] σ := by
  unfold Md_runs_36_B at hf
  rcases z_if_inv hf with ⟨h1, hf⟩ | ⟨h1, hf⟩
  · obtain ⟨e1, e2⟩ := z_ret hf
    subst e1
    subst e2
    exact gx_end 7 [.inl 1] [vp_in (0 : Int32) 8880, (σ 110 ((0 : Int32).toNatClampNeg)) ≤ a3] rfl ⟨(z_ix_in rfl), h1, trivial⟩
  · obtain ⟨h2, hf⟩ := z_ck_inv hf
    rcases z_if_inv hf with ⟨h3, hf⟩ | ⟨h3, hf⟩
    · obtain ⟨h4, hf⟩ := z_ck_inv hf
      rcases z_if_inv hf with ⟨h5, hf⟩ | ⟨h5, hf⟩
      · obtain ⟨h6, hf⟩ := z_ck_inv hf
        rcases z_if_inv hf with ⟨h7, hf⟩ | ⟨h7, hf⟩
        · exact gx_go_ 28 [.inl 0, .inl 0, .inl 0, .inl 1] [vp_in (0 : Int32) 8880, ¬ ((σ 110 ((0 : Int32).toNatClampNeg)) ≤ a3), vp_in a3 8, ¬ ¬ ((σ 135 a3.toNatClampNeg) = (2 : Int32)), vp_in a3 8, ¬ ¬ ((σ 136 a3.toNatClampNeg) = a1), vp_in (((8 : Int32) * a1) + a3) 64, (99 : Int32) ≤ (σ 140 ((((8 : Int32) * a1) + a3).toNatClampNeg))] 76 [.ref 109, .int a1, .null, .int a3] [] σ rfl ⟨(z_ix_in rfl), h1, (z_ix_in h2), (fun q => q h3), (z_ix_in h4), (fun q => q h5), (z_ix_in h6), h7, trivial⟩ (gx_fgt (ls' := [.ref 109, .int a1, .null, .int a3]) ⟨Or.inr rfl, Or.inr rfl, Or.inl rfl, Or.inr rfl, trivial⟩ (vv_Md_runs_76 D hD rr σ' K36 hK36 a1 a3 σ hf))
        · obtain ⟨h8, hf⟩ := z_ck_inv hf
          obtain ⟨h9, hf⟩ := z_ck_inv hf
          exact gx_go_ 40 [.inl 0, .inl 0, .inl 0, .inl 0] [vp_in (0 : Int32) 8880, ¬ ((σ 110 ((0 : Int32).toNatClampNeg)) ≤ a3), vp_in a3 8, ¬ ¬ ((σ 135 a3.toNatClampNeg) = (2 : Int32)), vp_in a3 8, ¬ ¬ ((σ 136 a3.toNatClampNeg) = a1), vp_in (((8 : Int32) * a1) + a3) 64, ¬ ((99 : Int32) ≤ (σ 140 ((((8 : Int32) * a1) + a3).toNatClampNeg))), vp_in (((8 : Int32) * a1) + a3) 64, vp_in (((8 : Int32) * a1) + a3) 64] 76 [.ref 109, .int a1, .null, .int a3] [] (gx_up σ 140 (((8 : Int32) * a1) + a3).toNatClampNeg ((σ 140 ((((8 : Int32) * a1) + a3).toNatClampNeg)) + (1 : Int32))) rfl ⟨(z_ix_in rfl), h1, (z_ix_in h2), (fun q => q h3), (z_ix_in h4), (fun q => q h5), (z_ix_in h6), h7, (z_ix_in h8), (z_ix_in h9), trivial⟩ (gx_fgt (ls' := [.ref 109, .int a1, .null, .int a3]) ⟨Or.inr rfl, Or.inr rfl, Or.inl rfl, Or.inr rfl, trivial⟩ (vv_Md_runs_76 D hD rr σ' K36 hK36 a1 a3 (gx_up σ 140 (((8 : Int32) * a1) + a3).toNatClampNeg ((σ 140 ((((8 : Int32) * a1) + a3).toNatClampNeg)) + (1 : Int32))) hf))
      · exact gx_go_ 18 [.inl 0, .inl 0, .inl 1] [vp_in (0 : Int32) 8880, ¬ ((σ 110 ((0 : Int32).toNatClampNeg)) ≤ a3), vp_in a3 8, ¬ ¬ ((σ 135 a3.toNatClampNeg) = (2 : Int32)), vp_in a3 8, ¬ ((σ 136 a3.toNatClampNeg) = a1)] 76 [.ref 109, .int a1, .null, .int a3] [] σ rfl ⟨(z_ix_in rfl), h1, (z_ix_in h2), (fun q => q h3), (z_ix_in h4), h5, trivial⟩ (gx_fgt (ls' := [.ref 109, .int a1, .null, .int a3]) ⟨Or.inr rfl, Or.inr rfl, Or.inl rfl, Or.inr rfl, trivial⟩ (vv_Md_runs_76 D hD rr σ' K36 hK36 a1 a3 σ hf))
    · exact gx_go_ 12 [.inl 0, .inl 1] [vp_in (0 : Int32) 8880, ¬ ((σ 110 ((0 : Int32).toNatClampNeg)) ≤ a3), vp_in a3 8, ¬ ((σ 135 a3.toNatClampNeg) = (2 : Int32))] 76 [.ref 109, .int a1, .null, .int a3] [] σ rfl ⟨(z_ix_in rfl), h1, (z_ix_in h2), h3, trivial⟩ (gx_fgt (ls' := [.ref 109, .int a1, .null, .int a3]) ⟨Or.inr rfl, Or.inr rfl, Or.inl rfl, Or.inr rfl, trivial⟩ (vv_Md_runs_76 D hD rr σ' K36 hK36 a1 a3 σ hf))
set_option maxHeartbeats 16000000 in
set_option maxRecDepth 20000 in
theorem vv_Md_runs_36 (D : Nat) (hD : 1 ≤ D + 1) (rr : Unit) (σ' : gx_R) : ∀ (n : Nat) (a1 : Int32) (a3 : Int32) (σ : gx_R), Md_runs_36 n a1 a3 σ = some (rr, σ') → gx_Ev lay0 (E0 D) tt_208 none σ' 36 [.ref 109, .int a1, .null, .int a3] [] σ := by
  intro n
  induction n with
  | zero => intro a1 a3 σ  hf; cases hf
  | succ n ih => intro a1 a3 σ  hf; exact vv_Md_runs_36_B D hD rr σ'  (Md_runs_36 n) ih a1 a3 σ  hf
set_option maxHeartbeats 16000000 in
set_option maxRecDepth 20000 in
theorem vv_Md_runs_32 (D : Nat) (hD : 1 ≤ D + 1) (rr : Unit) (σ' : gx_R) (a1 : Int32) (s1 : Int32) (s2 : Int32) (s3 : Int32) (σ : gx_R) (hf : Md_runs_32 a1 s1 s2 s3 σ = some (rr, σ')) : gx_Ev lay0 (E0 D) tt_208 none σ' 32 [.ref 109, .int a1, .null, .null] [.int s3, .int s2, .int s1, .ref 139] σ := by
  unfold Md_runs_32 at hf
  obtain ⟨h1, hf⟩ := z_ck_inv hf
  exact gx_go_ 4 [] [vp_in s1 6] 36 [.ref 109, .int a1, .null, .int (0 : Int32)] [] (gx_up σ 139 s1.toNatClampNeg (s2 + s3)) rfl ⟨(z_ix_in h1), trivial⟩ (gx_fgt (ls' := [.ref 109, .int a1, .null, .int (0 : Int32)]) ⟨Or.inr rfl, Or.inr rfl, Or.inl rfl, Or.inr rfl, trivial⟩ (vv_Md_runs_36 D hD rr σ' z_FU a1 (0 : Int32) (gx_up σ 139 s1.toNatClampNeg (s2 + s3)) hf))
set_option maxHeartbeats 16000000 in
set_option maxRecDepth 20000 in
theorem vv_Md_runs_E (D : Nat) (hD : 1 ≤ D + 1) (rr : Unit) (σ' : gx_R) (a1 : Int32) (σ : gx_R) (hf : Md_runs a1 σ = some (rr, σ')) : gx_Ev lay0 (E0 D) tt_208 none σ' 0 [.ref 109, .int a1, .null, .null] [] σ := by
  unfold Md_runs at hf
  obtain ⟨h1, hf⟩ := z_ck_inv hf
  obtain ⟨h2, hf⟩ := z_ck_inv hf
  obtain ⟨h3, hf⟩ := z_ck_inv hf
  obtain ⟨h4, hf⟩ := z_ck_inv hf
  rcases z_if_inv hf with ⟨h5, hf⟩ | ⟨h5, hf⟩
  · exact gx_go_ 30 [.inl 1] [vp_in a1 8, vp_in (σ 136 a1.toNatClampNeg) 6, vp_in (σ 136 a1.toNatClampNeg) 6, vp_in ((42 : Int32) + (σ 136 a1.toNatClampNeg)) 8880, ((gx_up σ 109 50 ((σ 109 50) ||| ((1 : Int32) <<< (a1 &&& 31)))) 110 (((42 : Int32) + (σ 136 a1.toNatClampNeg)).toNatClampNeg)) ≤ ((gx_up σ 109 50 ((σ 109 50) ||| ((1 : Int32) <<< (a1 &&& 31)))) 139 ((σ 136 a1.toNatClampNeg).toNatClampNeg))] 32 [.ref 109, .int a1, .int (σ 136 a1.toNatClampNeg), .null] [.int (0 : Int32), .int ((gx_up σ 109 50 ((σ 109 50) ||| ((1 : Int32) <<< (a1 &&& 31)))) 139 ((σ 136 a1.toNatClampNeg).toNatClampNeg)), .int (σ 136 a1.toNatClampNeg), .ref 139] (gx_up σ 109 50 ((σ 109 50) ||| ((1 : Int32) <<< (a1 &&& 31)))) rfl ⟨(z_ix_in h1), (z_ix_in h2), (z_ix_in h3), (z_ix_in h4), h5, trivial⟩ (gx_fgt (ls' := [.ref 109, .int a1, .null, .null]) ⟨Or.inr rfl, Or.inr rfl, Or.inl rfl, Or.inl rfl, trivial⟩ (vv_Md_runs_32 D hD rr σ' a1 (σ 136 a1.toNatClampNeg) ((gx_up σ 109 50 ((σ 109 50) ||| ((1 : Int32) <<< (a1 &&& 31)))) 139 ((σ 136 a1.toNatClampNeg).toNatClampNeg)) (0 : Int32) (gx_up σ 109 50 ((σ 109 50) ||| ((1 : Int32) <<< (a1 &&& 31)))) hf))
  · exact gx_go_ 31 [.inl 0] [vp_in a1 8, vp_in (σ 136 a1.toNatClampNeg) 6, vp_in (σ 136 a1.toNatClampNeg) 6, vp_in ((42 : Int32) + (σ 136 a1.toNatClampNeg)) 8880, ¬ (((gx_up σ 109 50 ((σ 109 50) ||| ((1 : Int32) <<< (a1 &&& 31)))) 110 (((42 : Int32) + (σ 136 a1.toNatClampNeg)).toNatClampNeg)) ≤ ((gx_up σ 109 50 ((σ 109 50) ||| ((1 : Int32) <<< (a1 &&& 31)))) 139 ((σ 136 a1.toNatClampNeg).toNatClampNeg)))] 32 [.ref 109, .int a1, .int (σ 136 a1.toNatClampNeg), .null] [.int (1 : Int32), .int ((gx_up σ 109 50 ((σ 109 50) ||| ((1 : Int32) <<< (a1 &&& 31)))) 139 ((σ 136 a1.toNatClampNeg).toNatClampNeg)), .int (σ 136 a1.toNatClampNeg), .ref 139] (gx_up σ 109 50 ((σ 109 50) ||| ((1 : Int32) <<< (a1 &&& 31)))) rfl ⟨(z_ix_in h1), (z_ix_in h2), (z_ix_in h3), (z_ix_in h4), h5, trivial⟩ (gx_fgt (ls' := [.ref 109, .int a1, .null, .null]) ⟨Or.inr rfl, Or.inr rfl, Or.inl rfl, Or.inl rfl, trivial⟩ (vv_Md_runs_32 D hD rr σ' a1 (σ 136 a1.toNatClampNeg) ((gx_up σ 109 50 ((σ 109 50) ||| ((1 : Int32) <<< (a1 &&& 31)))) 139 ((σ 136 a1.toNatClampNeg).toNatClampNeg)) (1 : Int32) (gx_up σ 109 50 ((σ 109 50) ||| ((1 : Int32) <<< (a1 &&& 31)))) hf))
set_option maxHeartbeats 16000000 in
set_option maxRecDepth 20000 in
theorem ww_Md_runs (D : Nat) (hD : 1 ≤ D) (a1 : Int32) (σ : gx_R) (rr : Unit) (σ' : gx_R) (hf : Md_runs a1 σ = some (rr, σ')) : E0 D 208 [.ref 109, .int a1] σ none σ' := by
  cases D with
  | zero => omega
  | succ D => exact Or.inl ⟨Nat.le_of_ble_eq_true rfl, vv_Md_runs_E D hD rr σ' a1 σ hf⟩
set_option maxHeartbeats 16000000 in
set_option maxRecDepth 20000 in
theorem vv_Md_wakesOn_67 (D : Nat) (hD : 5 ≤ D + 1) (rr : Int32) (σ' : gx_R) (K32 : Int32 → Int32 → Int32 → Int32 → Int32 → gx_R → Option (Int32 × gx_R)) (hK32 : ∀ (a2 : Int32) (a3 : Int32) (a5 : Int32) (a6 : Int32) (a7 : Int32) (σ : gx_R), K32 a2 a3 a5 a6 a7 σ = some (rr, σ') → gx_Ev lay0 (E0 D) tt_209 (some (.int rr)) σ' 32 [.ref 109, .null, .int a2, .int a3, .null, .int a5, .int a6, .int a7] [] σ) (a2 : Int32) (a3 : Int32) (a5 : Int32) (a6 : Int32) (a7 : Int32) (σ : gx_R) (hf : Md_wakesOn_67 K32 a2 a3 a5 a6 a7 σ = some (rr, σ')) : gx_Ev lay0 (E0 D) tt_209 (some (.int rr)) σ' 67 [.ref 109, .null, .int a2, .int a3, .null, .int a5, .int a6, .int a7] [] σ := by
  unfold Md_wakesOn_67 at hf
  exact gx_go_ 2 [] [] 32 [.ref 109, .null, .int a2, .int a3, .null, .int a5, .int a6, .int (a7 + 1)] [] σ rfl trivial (gx_fgt (ls' := [.ref 109, .null, .int a2, .int a3, .null, .int a5, .int a6, .int (a7 + 1)]) ⟨Or.inr rfl, Or.inl rfl, Or.inr rfl, Or.inr rfl, Or.inl rfl, Or.inr rfl, Or.inr rfl, Or.inr rfl, trivial⟩ (hK32 a2 a3 a5 a6 (a7 + 1) σ hf))
set_option maxHeartbeats 16000000 in
set_option maxRecDepth 20000 in
theorem vv_Md_wakesOn_32_B (D : Nat) (hD : 5 ≤ D + 1) (rr : Int32) (σ' : gx_R) (K69 : Int32 → Int32 → Int32 → Int32 → gx_R → Option (Int32 × gx_R)) (hK69 : ∀ (a2 : Int32) (a3 : Int32) (a5 : Int32) (a6 : Int32) (σ : gx_R), K69 a2 a3 a5 a6 σ = some (rr, σ') → gx_Ev lay0 (E0 D) tt_209 (some (.int rr)) σ' 69 [.ref 109, .null, .int a2, .int a3, .null, .int a5, .int a6, .null] [] σ) (K32 : Int32 → Int32 → Int32 → Int32 → Int32 → gx_R → Option (Int32 × gx_R)) (hK32 : ∀ (a2 : Int32) (a3 : Int32) (a5 : Int32) (a6 : Int32) (a7 : Int32) (σ : gx_R), K32 a2 a3 a5 a6 a7 σ = some (rr, σ') → gx_Ev lay0 (E0 D) tt_209 (some (.int rr)) σ' 32 [.ref 109, .null, .int a2, .int a3, .null, .int a5, .int a6, .int a7] [] σ) (a2 : Int32) (a3 : Int32) (a5 : Int32) (a6 : Int32) (a7 : Int32) (σ : gx_R) (hf : Md_wakesOn_32_B K69 K32 a2 a3 a5 a6 a7 σ = some (rr, σ')) : gx_Ev lay0 (E0 D) tt_209 (some (.int rr)) σ' 32 [.ref 109, .null, .int a2, .int a3, .null, .int a5, .int a6, .int a7] [] σ := by
  unfold Md_wakesOn_32_B at hf
  rcases z_if_inv hf with ⟨h1, hf⟩ | ⟨h1, hf⟩
  · exact gx_go_ 6 [.inl 1] [vp_in (0 : Int32) 8880, (σ 110 ((0 : Int32).toNatClampNeg)) ≤ a7] 69 [.ref 109, .null, .int a2, .int a3, .null, .int a5, .int a6, .int a7] [] σ rfl ⟨(z_ix_in rfl), h1, trivial⟩ (gx_fgt (ls' := [.ref 109, .null, .int a2, .int a3, .null, .int a5, .int a6, .null]) ⟨Or.inr rfl, Or.inl rfl, Or.inr rfl, Or.inr rfl, Or.inl rfl, Or.inr rfl, Or.inr rfl, Or.inl rfl, trivial⟩ (hK69 a2 a3 a5 a6 σ hf))
  · obtain ⟨r2, σ3, h4, hf⟩ := z_bd_inv hf
    rcases z_if_inv hf with ⟨h5, hf⟩ | ⟨h5, hf⟩
    · exact gx_go_ 10 [.inl 0, .inr (some (.int r2), σ3), .inl 1] [vp_in (0 : Int32) 8880, ¬ ((σ 110 ((0 : Int32).toNatClampNeg)) ≤ a7), E0 D 146 [.int a3, .int a7] σ (some (.int r2)) σ3, r2 = 0] 67 [.ref 109, .null, .int a2, .int a3, .null, .int a5, .int a6, .int a7] [] σ3 rfl ⟨(z_ix_in rfl), h1, (ww_Md_has D (by omega) a3 a7 σ r2 σ3 h4), h5, trivial⟩ (gx_fgt (ls' := [.ref 109, .null, .int a2, .int a3, .null, .int a5, .int a6, .int a7]) ⟨Or.inr rfl, Or.inl rfl, Or.inr rfl, Or.inr rfl, Or.inl rfl, Or.inr rfl, Or.inr rfl, Or.inr rfl, trivial⟩ (vv_Md_wakesOn_67 D hD rr σ' K32 hK32 a2 a3 a5 a6 a7 σ3 hf))
    · obtain ⟨h6, hf⟩ := z_ck_inv hf
      obtain ⟨r7, σ8, h9, hf⟩ := z_bd_inv hf
      rcases z_if_inv hf with ⟨h10, hf⟩ | ⟨h10, hf⟩
      · exact gx_go_ 19 [.inl 0, .inr (some (.int r2), σ3), .inl 0, .inr (some (.int r7), σ8), .inl 1] [vp_in (0 : Int32) 8880, ¬ ((σ 110 ((0 : Int32).toNatClampNeg)) ≤ a7), E0 D 146 [.int a3, .int a7] σ (some (.int r2)) σ3, ¬ (r2 = 0), vp_in ((34 : Int32) + a6) 8880, E0 D 146 [.int (σ3 110 (((34 : Int32) + a6).toNatClampNeg)), .int a7] σ3 (some (.int r7)) σ8, r7 = 0] 67 [.ref 109, .null, .int a2, .int a3, .null, .int a5, .int a6, .int a7] [] σ8 rfl ⟨(z_ix_in rfl), h1, (ww_Md_has D (by omega) a3 a7 σ r2 σ3 h4), h5, (z_ix_in h6), (ww_Md_has D (by omega) (σ3 110 (((34 : Int32) + a6).toNatClampNeg)) a7 σ3 r7 σ8 h9), h10, trivial⟩ (gx_fgt (ls' := [.ref 109, .null, .int a2, .int a3, .null, .int a5, .int a6, .int a7]) ⟨Or.inr rfl, Or.inl rfl, Or.inr rfl, Or.inr rfl, Or.inl rfl, Or.inr rfl, Or.inr rfl, Or.inr rfl, trivial⟩ (vv_Md_wakesOn_67 D hD rr σ' K32 hK32 a2 a3 a5 a6 a7 σ8 hf))
      · obtain ⟨h11, hf⟩ := z_ck_inv hf
        obtain ⟨r12, σ13, h14, hf⟩ := z_bd_inv hf
        rcases z_if_inv hf with ⟨h15, hf⟩ | ⟨h15, hf⟩
        · exact gx_go_ 29 [.inl 0, .inr (some (.int r2), σ3), .inl 0, .inr (some (.int r7), σ8), .inl 0, .inr (some (.int r12), σ13), .inl 1] [vp_in (0 : Int32) 8880, ¬ ((σ 110 ((0 : Int32).toNatClampNeg)) ≤ a7), E0 D 146 [.int a3, .int a7] σ (some (.int r2)) σ3, ¬ (r2 = 0), vp_in ((34 : Int32) + a6) 8880, E0 D 146 [.int (σ3 110 (((34 : Int32) + a6).toNatClampNeg)), .int a7] σ3 (some (.int r7)) σ8, ¬ (r7 = 0), vp_in ((18 : Int32) + a7) 8880, E0 D 203 [.ref 109, .int a6] σ8 (some (.int r12)) σ13, (σ8 110 (((18 : Int32) + a7).toNatClampNeg)) ≤ r12] 67 [.ref 109, .null, .int a2, .int a3, .null, .int a5, .int a6, .int a7] [] σ13 rfl ⟨(z_ix_in rfl), h1, (ww_Md_has D (by omega) a3 a7 σ r2 σ3 h4), h5, (z_ix_in h6), (ww_Md_has D (by omega) (σ3 110 (((34 : Int32) + a6).toNatClampNeg)) a7 σ3 r7 σ8 h9), h10, (z_ix_in h11), (ww_Md_soundOf D (by omega) a6 σ8 r12 σ13 h14), h15, trivial⟩ (gx_fgt (ls' := [.ref 109, .null, .int a2, .int a3, .null, .int a5, .int a6, .int a7]) ⟨Or.inr rfl, Or.inl rfl, Or.inr rfl, Or.inr rfl, Or.inl rfl, Or.inr rfl, Or.inr rfl, Or.inr rfl, trivial⟩ (vv_Md_wakesOn_67 D hD rr σ' K32 hK32 a2 a3 a5 a6 a7 σ13 hf))
        · exact gx_go_ 35 [.inl 0, .inr (some (.int r2), σ3), .inl 0, .inr (some (.int r7), σ8), .inl 0, .inr (some (.int r12), σ13), .inl 0] [vp_in (0 : Int32) 8880, ¬ ((σ 110 ((0 : Int32).toNatClampNeg)) ≤ a7), E0 D 146 [.int a3, .int a7] σ (some (.int r2)) σ3, ¬ (r2 = 0), vp_in ((34 : Int32) + a6) 8880, E0 D 146 [.int (σ3 110 (((34 : Int32) + a6).toNatClampNeg)), .int a7] σ3 (some (.int r7)) σ8, ¬ (r7 = 0), vp_in ((18 : Int32) + a7) 8880, E0 D 203 [.ref 109, .int a6] σ8 (some (.int r12)) σ13, ¬ ((σ8 110 (((18 : Int32) + a7).toNatClampNeg)) ≤ r12)] 67 [.ref 109, .null, .int a2, .int a3, .null, .int (a5 ||| ((1 : Int32) <<< (a6 &&& 31))), .int a6, .int a7] [] σ13 rfl ⟨(z_ix_in rfl), h1, (ww_Md_has D (by omega) a3 a7 σ r2 σ3 h4), h5, (z_ix_in h6), (ww_Md_has D (by omega) (σ3 110 (((34 : Int32) + a6).toNatClampNeg)) a7 σ3 r7 σ8 h9), h10, (z_ix_in h11), (ww_Md_soundOf D (by omega) a6 σ8 r12 σ13 h14), h15, trivial⟩ (gx_fgt (ls' := [.ref 109, .null, .int a2, .int a3, .null, .int (a5 ||| ((1 : Int32) <<< (a6 &&& 31))), .int a6, .int a7]) ⟨Or.inr rfl, Or.inl rfl, Or.inr rfl, Or.inr rfl, Or.inl rfl, Or.inr rfl, Or.inr rfl, Or.inr rfl, trivial⟩ (vv_Md_wakesOn_67 D hD rr σ' K32 hK32 a2 a3 (a5 ||| ((1 : Int32) <<< (a6 &&& 31))) a6 a7 σ13 hf))
set_option maxHeartbeats 16000000 in
set_option maxRecDepth 20000 in
theorem vv_Md_wakesOn_32 (D : Nat) (hD : 5 ≤ D + 1) (rr : Int32) (σ' : gx_R) (K69 : Int32 → Int32 → Int32 → Int32 → gx_R → Option (Int32 × gx_R)) (hK69 : ∀ (a2 : Int32) (a3 : Int32) (a5 : Int32) (a6 : Int32) (σ : gx_R), K69 a2 a3 a5 a6 σ = some (rr, σ') → gx_Ev lay0 (E0 D) tt_209 (some (.int rr)) σ' 69 [.ref 109, .null, .int a2, .int a3, .null, .int a5, .int a6, .null] [] σ) : ∀ (n : Nat) (a2 : Int32) (a3 : Int32) (a5 : Int32) (a6 : Int32) (a7 : Int32) (σ : gx_R), Md_wakesOn_32 K69 n a2 a3 a5 a6 a7 σ = some (rr, σ') → gx_Ev lay0 (E0 D) tt_209 (some (.int rr)) σ' 32 [.ref 109, .null, .int a2, .int a3, .null, .int a5, .int a6, .int a7] [] σ := by
  intro n
  induction n with
  | zero => intro a2 a3 a5 a6 a7 σ  hf; cases hf
  | succ n ih => intro a2 a3 a5 a6 a7 σ  hf; exact vv_Md_wakesOn_32_B D hD rr σ'  K69 hK69 (Md_wakesOn_32 K69 n) ih a2 a3 a5 a6 a7 σ  hf
set_option maxHeartbeats 16000000 in
set_option maxRecDepth 20000 in
theorem vv_Md_wakesOn_69 (D : Nat) (hD : 5 ≤ D + 1) (rr : Int32) (σ' : gx_R) (K10 : Int32 → Int32 → Int32 → Int32 → gx_R → Option (Int32 × gx_R)) (hK10 : ∀ (a2 : Int32) (a3 : Int32) (a5 : Int32) (a6 : Int32) (σ : gx_R), K10 a2 a3 a5 a6 σ = some (rr, σ') → gx_Ev lay0 (E0 D) tt_209 (some (.int rr)) σ' 10 [.ref 109, .null, .int a2, .int a3, .null, .int a5, .int a6, .null] [] σ) (a2 : Int32) (a3 : Int32) (a5 : Int32) (a6 : Int32) (σ : gx_R) (hf : Md_wakesOn_69 K10 a2 a3 a5 a6 σ = some (rr, σ')) : gx_Ev lay0 (E0 D) tt_209 (some (.int rr)) σ' 69 [.ref 109, .null, .int a2, .int a3, .null, .int a5, .int a6, .null] [] σ := by
  unfold Md_wakesOn_69 at hf
  exact gx_go_ 2 [] [] 10 [.ref 109, .null, .int a2, .int a3, .null, .int a5, .int (a6 + 1), .null] [] σ rfl trivial (gx_fgt (ls' := [.ref 109, .null, .int a2, .int a3, .null, .int a5, .int (a6 + 1), .null]) ⟨Or.inr rfl, Or.inl rfl, Or.inr rfl, Or.inr rfl, Or.inl rfl, Or.inr rfl, Or.inr rfl, Or.inl rfl, trivial⟩ (hK10 a2 a3 a5 (a6 + 1) σ hf))
set_option maxHeartbeats 16000000 in
set_option maxRecDepth 20000 in
theorem vv_Md_wakesOn_77 (D : Nat) (hD : 5 ≤ D + 1) (rr : Int32) (σ' : gx_R) (K4 : Int32 → Int32 → Int32 → gx_R → Option (Int32 × gx_R)) (hK4 : ∀ (a2 : Int32) (a3 : Int32) (a4 : Int32) (σ : gx_R), K4 a2 a3 a4 σ = some (rr, σ') → gx_Ev lay0 (E0 D) tt_209 (some (.int rr)) σ' 4 [.ref 109, .null, .int a2, .int a3, .int a4, .null, .null, .null] [] σ) (a2 : Int32) (a5 : Int32) (s0 : Int32) (σ : gx_R) (hf : Md_wakesOn_77 K4 a2 a5 s0 σ = some (rr, σ')) : gx_Ev lay0 (E0 D) tt_209 (some (.int rr)) σ' 77 [.ref 109, .null, .int a2, .null, .null, .int a5, .null, .null] [.int s0] σ := by
  unfold Md_wakesOn_77 at hf
  exact gx_go_ 4 [] [] 4 [.ref 109, .null, .int a2, .int a5, .int s0, .int a5, .null, .null] [] σ rfl trivial (gx_fgt (ls' := [.ref 109, .null, .int a2, .int a5, .int s0, .null, .null, .null]) ⟨Or.inr rfl, Or.inl rfl, Or.inr rfl, Or.inr rfl, Or.inr rfl, Or.inl rfl, Or.inl rfl, Or.inl rfl, trivial⟩ (hK4 a2 a5 s0 σ hf))
set_option maxHeartbeats 16000000 in
set_option maxRecDepth 20000 in
theorem vv_Md_wakesOn_71 (D : Nat) (hD : 5 ≤ D + 1) (rr : Int32) (σ' : gx_R) (K4 : Int32 → Int32 → Int32 → gx_R → Option (Int32 × gx_R)) (hK4 : ∀ (a2 : Int32) (a3 : Int32) (a4 : Int32) (σ : gx_R), K4 a2 a3 a4 σ = some (rr, σ') → gx_Ev lay0 (E0 D) tt_209 (some (.int rr)) σ' 4 [.ref 109, .null, .int a2, .int a3, .int a4, .null, .null, .null] [] σ) (a2 : Int32) (a3 : Int32) (a5 : Int32) (σ : gx_R) (hf : Md_wakesOn_71 K4 a2 a3 a5 σ = some (rr, σ')) : gx_Ev lay0 (E0 D) tt_209 (some (.int rr)) σ' 71 [.ref 109, .null, .int a2, .int a3, .null, .int a5, .null, .null] [] σ := by
  unfold Md_wakesOn_71 at hf
  rcases z_if_inv hf with ⟨h1, hf⟩ | ⟨h1, hf⟩
  · exact gx_go_ 4 [.inl 1] [a5 = a3] 77 [.ref 109, .null, .int a2, .int a3, .null, .int a5, .null, .null] [.int (0 : Int32)] σ rfl ⟨h1, trivial⟩ (gx_fgt (ls' := [.ref 109, .null, .int a2, .null, .null, .int a5, .null, .null]) ⟨Or.inr rfl, Or.inl rfl, Or.inr rfl, Or.inl rfl, Or.inl rfl, Or.inr rfl, Or.inl rfl, Or.inl rfl, trivial⟩ (vv_Md_wakesOn_77 D hD rr σ' K4 hK4 a2 a5 (0 : Int32) σ hf))
  · exact gx_go_ 5 [.inl 0] [¬ (a5 = a3)] 77 [.ref 109, .null, .int a2, .int a3, .null, .int a5, .null, .null] [.int (1 : Int32)] σ rfl ⟨h1, trivial⟩ (gx_fgt (ls' := [.ref 109, .null, .int a2, .null, .null, .int a5, .null, .null]) ⟨Or.inr rfl, Or.inl rfl, Or.inr rfl, Or.inl rfl, Or.inl rfl, Or.inr rfl, Or.inl rfl, Or.inl rfl, trivial⟩ (vv_Md_wakesOn_77 D hD rr σ' K4 hK4 a2 a5 (1 : Int32) σ hf))
set_option maxHeartbeats 16000000 in
set_option maxRecDepth 20000 in
theorem vv_Md_wakesOn_10_B (D : Nat) (hD : 5 ≤ D + 1) (rr : Int32) (σ' : gx_R) (K4 : Int32 → Int32 → Int32 → gx_R → Option (Int32 × gx_R)) (hK4 : ∀ (a2 : Int32) (a3 : Int32) (a4 : Int32) (σ : gx_R), K4 a2 a3 a4 σ = some (rr, σ') → gx_Ev lay0 (E0 D) tt_209 (some (.int rr)) σ' 4 [.ref 109, .null, .int a2, .int a3, .int a4, .null, .null, .null] [] σ) (K10 : Int32 → Int32 → Int32 → Int32 → gx_R → Option (Int32 × gx_R)) (hK10 : ∀ (a2 : Int32) (a3 : Int32) (a5 : Int32) (a6 : Int32) (σ : gx_R), K10 a2 a3 a5 a6 σ = some (rr, σ') → gx_Ev lay0 (E0 D) tt_209 (some (.int rr)) σ' 10 [.ref 109, .null, .int a2, .int a3, .null, .int a5, .int a6, .null] [] σ) (a2 : Int32) (a3 : Int32) (a5 : Int32) (a6 : Int32) (σ : gx_R) (hf : Md_wakesOn_10_B K4 K10 a2 a3 a5 a6 σ = some (rr, σ')) : gx_Ev lay0 (E0 D) tt_209 (some (.int rr)) σ' 10 [.ref 109, .null, .int a2, .int a3, .null, .int a5, .int a6, .null] [] σ := by
  unfold Md_wakesOn_10_B at hf
  rcases z_if_inv hf with ⟨h1, hf⟩ | ⟨h1, hf⟩
  · exact gx_go_ 6 [.inl 1] [vp_in (0 : Int32) 8880, (σ 110 ((0 : Int32).toNatClampNeg)) ≤ a6] 71 [.ref 109, .null, .int a2, .int a3, .null, .int a5, .int a6, .null] [] σ rfl ⟨(z_ix_in rfl), h1, trivial⟩ (gx_fgt (ls' := [.ref 109, .null, .int a2, .int a3, .null, .int a5, .null, .null]) ⟨Or.inr rfl, Or.inl rfl, Or.inr rfl, Or.inr rfl, Or.inl rfl, Or.inr rfl, Or.inl rfl, Or.inl rfl, trivial⟩ (vv_Md_wakesOn_71 D hD rr σ' K4 hK4 a2 a3 a5 σ hf))
  · obtain ⟨h2, hf⟩ := z_ck_inv hf
    rcases z_if_inv hf with ⟨h3, hf⟩ | ⟨h3, hf⟩
    · obtain ⟨r4, σ5, h6, hf⟩ := z_bd_inv hf
      rcases z_if_inv hf with ⟨h7, hf⟩ | ⟨h7, hf⟩
      · obtain ⟨r8, σ9, h10, hf⟩ := z_bd_inv hf
        rcases z_if_inv hf with ⟨h11, hf⟩ | ⟨h11, hf⟩
        · exact gx_go_ 22 [.inl 0, .inl 0, .inr (some (.int r4), σ5), .inl 0, .inr (some (.int r8), σ9), .inl 0] [vp_in (0 : Int32) 8880, ¬ ((σ 110 ((0 : Int32).toNatClampNeg)) ≤ a6), vp_in a6 8, ¬ ¬ ((σ 135 a6.toNatClampNeg) = (2 : Int32)), E0 D 146 [.int a3, .int a6] σ (some (.int r4)) σ5, ¬ ¬ (r4 = 0), E0 D 146 [.int a2, .int a6] σ5 (some (.int r8)) σ9, ¬ ¬ (r8 = 0)] 32 [.ref 109, .null, .int a2, .int a3, .null, .int a5, .int a6, .int (0 : Int32)] [] σ9 rfl ⟨(z_ix_in rfl), h1, (z_ix_in h2), (fun q => q h3), (ww_Md_has D (by omega) a3 a6 σ r4 σ5 h6), (fun q => q h7), (ww_Md_has D (by omega) a2 a6 σ5 r8 σ9 h10), (fun q => q h11), trivial⟩ (gx_fgt (ls' := [.ref 109, .null, .int a2, .int a3, .null, .int a5, .int a6, .int (0 : Int32)]) ⟨Or.inr rfl, Or.inl rfl, Or.inr rfl, Or.inr rfl, Or.inl rfl, Or.inr rfl, Or.inr rfl, Or.inr rfl, trivial⟩ (vv_Md_wakesOn_32 D hD rr σ' (Md_wakesOn_69 K10) (vv_Md_wakesOn_69 D hD rr σ' K10 hK10) z_FU a2 a3 a5 a6 (0 : Int32) σ9 hf))
        · exact gx_go_ 20 [.inl 0, .inl 0, .inr (some (.int r4), σ5), .inl 0, .inr (some (.int r8), σ9), .inl 1] [vp_in (0 : Int32) 8880, ¬ ((σ 110 ((0 : Int32).toNatClampNeg)) ≤ a6), vp_in a6 8, ¬ ¬ ((σ 135 a6.toNatClampNeg) = (2 : Int32)), E0 D 146 [.int a3, .int a6] σ (some (.int r4)) σ5, ¬ ¬ (r4 = 0), E0 D 146 [.int a2, .int a6] σ5 (some (.int r8)) σ9, ¬ (r8 = 0)] 69 [.ref 109, .null, .int a2, .int a3, .null, .int a5, .int a6, .null] [] σ9 rfl ⟨(z_ix_in rfl), h1, (z_ix_in h2), (fun q => q h3), (ww_Md_has D (by omega) a3 a6 σ r4 σ5 h6), (fun q => q h7), (ww_Md_has D (by omega) a2 a6 σ5 r8 σ9 h10), h11, trivial⟩ (gx_fgt (ls' := [.ref 109, .null, .int a2, .int a3, .null, .int a5, .int a6, .null]) ⟨Or.inr rfl, Or.inl rfl, Or.inr rfl, Or.inr rfl, Or.inl rfl, Or.inr rfl, Or.inr rfl, Or.inl rfl, trivial⟩ (vv_Md_wakesOn_69 D hD rr σ' K10 hK10 a2 a3 a5 a6 σ9 hf))
      · exact gx_go_ 16 [.inl 0, .inl 0, .inr (some (.int r4), σ5), .inl 1] [vp_in (0 : Int32) 8880, ¬ ((σ 110 ((0 : Int32).toNatClampNeg)) ≤ a6), vp_in a6 8, ¬ ¬ ((σ 135 a6.toNatClampNeg) = (2 : Int32)), E0 D 146 [.int a3, .int a6] σ (some (.int r4)) σ5, ¬ (r4 = 0)] 69 [.ref 109, .null, .int a2, .int a3, .null, .int a5, .int a6, .null] [] σ5 rfl ⟨(z_ix_in rfl), h1, (z_ix_in h2), (fun q => q h3), (ww_Md_has D (by omega) a3 a6 σ r4 σ5 h6), h7, trivial⟩ (gx_fgt (ls' := [.ref 109, .null, .int a2, .int a3, .null, .int a5, .int a6, .null]) ⟨Or.inr rfl, Or.inl rfl, Or.inr rfl, Or.inr rfl, Or.inl rfl, Or.inr rfl, Or.inr rfl, Or.inl rfl, trivial⟩ (vv_Md_wakesOn_69 D hD rr σ' K10 hK10 a2 a3 a5 a6 σ5 hf))
    · exact gx_go_ 12 [.inl 0, .inl 1] [vp_in (0 : Int32) 8880, ¬ ((σ 110 ((0 : Int32).toNatClampNeg)) ≤ a6), vp_in a6 8, ¬ ((σ 135 a6.toNatClampNeg) = (2 : Int32))] 69 [.ref 109, .null, .int a2, .int a3, .null, .int a5, .int a6, .null] [] σ rfl ⟨(z_ix_in rfl), h1, (z_ix_in h2), h3, trivial⟩ (gx_fgt (ls' := [.ref 109, .null, .int a2, .int a3, .null, .int a5, .int a6, .null]) ⟨Or.inr rfl, Or.inl rfl, Or.inr rfl, Or.inr rfl, Or.inl rfl, Or.inr rfl, Or.inr rfl, Or.inl rfl, trivial⟩ (vv_Md_wakesOn_69 D hD rr σ' K10 hK10 a2 a3 a5 a6 σ hf))
set_option maxHeartbeats 16000000 in
set_option maxRecDepth 20000 in
theorem vv_Md_wakesOn_10 (D : Nat) (hD : 5 ≤ D + 1) (rr : Int32) (σ' : gx_R) (K4 : Int32 → Int32 → Int32 → gx_R → Option (Int32 × gx_R)) (hK4 : ∀ (a2 : Int32) (a3 : Int32) (a4 : Int32) (σ : gx_R), K4 a2 a3 a4 σ = some (rr, σ') → gx_Ev lay0 (E0 D) tt_209 (some (.int rr)) σ' 4 [.ref 109, .null, .int a2, .int a3, .int a4, .null, .null, .null] [] σ) : ∀ (n : Nat) (a2 : Int32) (a3 : Int32) (a5 : Int32) (a6 : Int32) (σ : gx_R), Md_wakesOn_10 K4 n a2 a3 a5 a6 σ = some (rr, σ') → gx_Ev lay0 (E0 D) tt_209 (some (.int rr)) σ' 10 [.ref 109, .null, .int a2, .int a3, .null, .int a5, .int a6, .null] [] σ := by
  intro n
  induction n with
  | zero => intro a2 a3 a5 a6 σ  hf; cases hf
  | succ n ih => intro a2 a3 a5 a6 σ  hf; exact vv_Md_wakesOn_10_B D hD rr σ'  K4 hK4 (Md_wakesOn_10 K4 n) ih a2 a3 a5 a6 σ  hf
set_option maxHeartbeats 16000000 in
set_option maxRecDepth 20000 in
theorem vv_Md_wakesOn_4_B (D : Nat) (hD : 5 ≤ D + 1) (rr : Int32) (σ' : gx_R) (K4 : Int32 → Int32 → Int32 → gx_R → Option (Int32 × gx_R)) (hK4 : ∀ (a2 : Int32) (a3 : Int32) (a4 : Int32) (σ : gx_R), K4 a2 a3 a4 σ = some (rr, σ') → gx_Ev lay0 (E0 D) tt_209 (some (.int rr)) σ' 4 [.ref 109, .null, .int a2, .int a3, .int a4, .null, .null, .null] [] σ) (a2 : Int32) (a3 : Int32) (a4 : Int32) (σ : gx_R) (hf : Md_wakesOn_4_B K4 a2 a3 a4 σ = some (rr, σ')) : gx_Ev lay0 (E0 D) tt_209 (some (.int rr)) σ' 4 [.ref 109, .null, .int a2, .int a3, .int a4, .null, .null, .null] [] σ := by
  unfold Md_wakesOn_4_B at hf
  rcases z_if_inv hf with ⟨h1, hf⟩ | ⟨h1, hf⟩
  · obtain ⟨e1, e2⟩ := z_ret hf
    subst e1
    subst e2
    exact gx_end 4 [.inl 1] [a4 = 0] rfl ⟨h1, trivial⟩
  · exact gx_go_ 6 [.inl 0] [¬ (a4 = 0)] 10 [.ref 109, .null, .int a2, .int a3, .int a4, .int a3, .int (0 : Int32), .null] [] σ rfl ⟨h1, trivial⟩ (gx_fgt (ls' := [.ref 109, .null, .int a2, .int a3, .null, .int a3, .int (0 : Int32), .null]) ⟨Or.inr rfl, Or.inl rfl, Or.inr rfl, Or.inr rfl, Or.inl rfl, Or.inr rfl, Or.inr rfl, Or.inl rfl, trivial⟩ (vv_Md_wakesOn_10 D hD rr σ' K4 hK4 z_FU a2 a3 a3 (0 : Int32) σ hf))
set_option maxHeartbeats 16000000 in
set_option maxRecDepth 20000 in
theorem vv_Md_wakesOn_4 (D : Nat) (hD : 5 ≤ D + 1) (rr : Int32) (σ' : gx_R) : ∀ (n : Nat) (a2 : Int32) (a3 : Int32) (a4 : Int32) (σ : gx_R), Md_wakesOn_4 n a2 a3 a4 σ = some (rr, σ') → gx_Ev lay0 (E0 D) tt_209 (some (.int rr)) σ' 4 [.ref 109, .null, .int a2, .int a3, .int a4, .null, .null, .null] [] σ := by
  intro n
  induction n with
  | zero => intro a2 a3 a4 σ  hf; cases hf
  | succ n ih => intro a2 a3 a4 σ  hf; exact vv_Md_wakesOn_4_B D hD rr σ'  (Md_wakesOn_4 n) ih a2 a3 a4 σ  hf
set_option maxHeartbeats 16000000 in
set_option maxRecDepth 20000 in
theorem vv_Md_wakesOn_E (D : Nat) (hD : 5 ≤ D + 1) (rr : Int32) (σ' : gx_R) (a1 : Int32) (a2 : Int32) (σ : gx_R) (hf : Md_wakesOn a1 a2 σ = some (rr, σ')) : gx_Ev lay0 (E0 D) tt_209 (some (.int rr)) σ' 0 [.ref 109, .int a1, .int a2, .null, .null, .null, .null, .null] [] σ := by
  unfold Md_wakesOn at hf
  exact gx_go_ 4 [] [] 4 [.ref 109, .int a1, .int a2, .int a1, .int (1 : Int32), .null, .null, .null] [] σ rfl trivial (gx_fgt (ls' := [.ref 109, .null, .int a2, .int a1, .int (1 : Int32), .null, .null, .null]) ⟨Or.inr rfl, Or.inl rfl, Or.inr rfl, Or.inr rfl, Or.inr rfl, Or.inl rfl, Or.inl rfl, Or.inl rfl, trivial⟩ (vv_Md_wakesOn_4 D hD rr σ' z_FU a2 a1 (1 : Int32) σ hf))
set_option maxHeartbeats 16000000 in
set_option maxRecDepth 20000 in
theorem ww_Md_wakesOn (D : Nat) (hD : 5 ≤ D) (a1 : Int32) (a2 : Int32) (σ : gx_R) (rr : Int32) (σ' : gx_R) (hf : Md_wakesOn a1 a2 σ = some (rr, σ')) : E0 D 209 [.ref 109, .int a1, .int a2] σ (some (.int rr)) σ' := by
  cases D with
  | zero => omega
  | succ D => exact Or.inl ⟨Nat.le_of_ble_eq_true rfl, vv_Md_wakesOn_E D hD rr σ' a1 a2 σ hf⟩
set_option maxHeartbeats 16000000 in
set_option maxRecDepth 20000 in
theorem vv_Md_wokenByNoise_57 (D : Nat) (hD : 5 ≤ D + 1) (rr : Int32) (σ' : gx_R) (K18 : Int32 → Int32 → Int32 → gx_R → Option (Int32 × gx_R)) (hK18 : ∀ (a1 : Int32) (a2 : Int32) (a3 : Int32) (σ : gx_R), K18 a1 a2 a3 σ = some (rr, σ') → gx_Ev lay0 (E0 D) tt_210 (some (.int rr)) σ' 18 [.ref 109, .int a1, .int a2, .int a3] [] σ) (a1 : Int32) (a2 : Int32) (a3 : Int32) (σ : gx_R) (hf : Md_wokenByNoise_57 K18 a1 a2 a3 σ = some (rr, σ')) : gx_Ev lay0 (E0 D) tt_210 (some (.int rr)) σ' 57 [.ref 109, .int a1, .int a2, .int a3] [] σ := by
  unfold Md_wokenByNoise_57 at hf
  exact gx_go_ 2 [] [] 18 [.ref 109, .int a1, .int a2, .int (a3 + 1)] [] σ rfl trivial (gx_fgt (ls' := [.ref 109, .int a1, .int a2, .int (a3 + 1)]) ⟨Or.inr rfl, Or.inr rfl, Or.inr rfl, Or.inr rfl, trivial⟩ (hK18 a1 a2 (a3 + 1) σ hf))
set_option maxHeartbeats 16000000 in
set_option maxRecDepth 20000 in
theorem vv_Md_wokenByNoise_18_B (D : Nat) (hD : 5 ≤ D + 1) (rr : Int32) (σ' : gx_R) (K59 : Int32 → Int32 → gx_R → Option (Int32 × gx_R)) (hK59 : ∀ (a1 : Int32) (a2 : Int32) (σ : gx_R), K59 a1 a2 σ = some (rr, σ') → gx_Ev lay0 (E0 D) tt_210 (some (.int rr)) σ' 59 [.ref 109, .int a1, .int a2, .null] [] σ) (K18 : Int32 → Int32 → Int32 → gx_R → Option (Int32 × gx_R)) (hK18 : ∀ (a1 : Int32) (a2 : Int32) (a3 : Int32) (σ : gx_R), K18 a1 a2 a3 σ = some (rr, σ') → gx_Ev lay0 (E0 D) tt_210 (some (.int rr)) σ' 18 [.ref 109, .int a1, .int a2, .int a3] [] σ) (a1 : Int32) (a2 : Int32) (a3 : Int32) (σ : gx_R) (hf : Md_wokenByNoise_18_B K59 K18 a1 a2 a3 σ = some (rr, σ')) : gx_Ev lay0 (E0 D) tt_210 (some (.int rr)) σ' 18 [.ref 109, .int a1, .int a2, .int a3] [] σ := by
  unfold Md_wokenByNoise_18_B at hf
  rcases z_if_inv hf with ⟨h1, hf⟩ | ⟨h1, hf⟩
  · exact gx_go_ 6 [.inl 1] [vp_in (0 : Int32) 8880, (σ 110 ((0 : Int32).toNatClampNeg)) ≤ a3] 59 [.ref 109, .int a1, .int a2, .int a3] [] σ rfl ⟨(z_ix_in rfl), h1, trivial⟩ (gx_fgt (ls' := [.ref 109, .int a1, .int a2, .null]) ⟨Or.inr rfl, Or.inr rfl, Or.inr rfl, Or.inl rfl, trivial⟩ (hK59 a1 a2 σ hf))
  · obtain ⟨r2, σ3, h4, hf⟩ := z_bd_inv hf
    rcases z_if_inv hf with ⟨h5, hf⟩ | ⟨h5, hf⟩
    · exact gx_go_ 11 [.inl 0, .inr (some (.int r2), σ3), .inl 1] [vp_in (0 : Int32) 8880, ¬ ((σ 110 ((0 : Int32).toNatClampNeg)) ≤ a3), E0 D 146 [.int (σ 109 50), .int a3] σ (some (.int r2)) σ3, r2 = 0] 57 [.ref 109, .int a1, .int a2, .int a3] [] σ3 rfl ⟨(z_ix_in rfl), h1, (ww_Md_has D (by omega) (σ 109 50) a3 σ r2 σ3 h4), h5, trivial⟩ (gx_fgt (ls' := [.ref 109, .int a1, .int a2, .int a3]) ⟨Or.inr rfl, Or.inr rfl, Or.inr rfl, Or.inr rfl, trivial⟩ (vv_Md_wokenByNoise_57 D hD rr σ' K18 hK18 a1 a2 a3 σ3 hf))
    · obtain ⟨h6, hf⟩ := z_ck_inv hf
      obtain ⟨r7, σ8, h9, hf⟩ := z_bd_inv hf
      rcases z_if_inv hf with ⟨h10, hf⟩ | ⟨h10, hf⟩
      · exact gx_go_ 20 [.inl 0, .inr (some (.int r2), σ3), .inl 0, .inr (some (.int r7), σ8), .inl 1] [vp_in (0 : Int32) 8880, ¬ ((σ 110 ((0 : Int32).toNatClampNeg)) ≤ a3), E0 D 146 [.int (σ 109 50), .int a3] σ (some (.int r2)) σ3, ¬ (r2 = 0), vp_in ((34 : Int32) + a2) 8880, E0 D 146 [.int (σ3 110 (((34 : Int32) + a2).toNatClampNeg)), .int a3] σ3 (some (.int r7)) σ8, r7 = 0] 57 [.ref 109, .int a1, .int a2, .int a3] [] σ8 rfl ⟨(z_ix_in rfl), h1, (ww_Md_has D (by omega) (σ 109 50) a3 σ r2 σ3 h4), h5, (z_ix_in h6), (ww_Md_has D (by omega) (σ3 110 (((34 : Int32) + a2).toNatClampNeg)) a3 σ3 r7 σ8 h9), h10, trivial⟩ (gx_fgt (ls' := [.ref 109, .int a1, .int a2, .int a3]) ⟨Or.inr rfl, Or.inr rfl, Or.inr rfl, Or.inr rfl, trivial⟩ (vv_Md_wokenByNoise_57 D hD rr σ' K18 hK18 a1 a2 a3 σ8 hf))
      · obtain ⟨h11, hf⟩ := z_ck_inv hf
        obtain ⟨h12, hf⟩ := z_ck_inv hf
        obtain ⟨r13, σ14, h15, hf⟩ := z_bd_inv hf
        rcases z_if_inv hf with ⟨h16, hf⟩ | ⟨h16, hf⟩
        · exact gx_go_ 33 [.inl 0, .inr (some (.int r2), σ3), .inl 0, .inr (some (.int r7), σ8), .inl 0, .inr (some (.int r13), σ14), .inl 1] [vp_in (0 : Int32) 8880, ¬ ((σ 110 ((0 : Int32).toNatClampNeg)) ≤ a3), E0 D 146 [.int (σ 109 50), .int a3] σ (some (.int r2)) σ3, ¬ (r2 = 0), vp_in ((34 : Int32) + a2) 8880, E0 D 146 [.int (σ3 110 (((34 : Int32) + a2).toNatClampNeg)), .int a3] σ3 (some (.int r7)) σ8, ¬ (r7 = 0), vp_in a3 8, vp_in ((48 : Int32) + (σ8 136 a3.toNatClampNeg)) 8880, E0 D 203 [.ref 109, .int a2] σ8 (some (.int r13)) σ14, (σ8 110 (((48 : Int32) + (σ8 136 a3.toNatClampNeg)).toNatClampNeg)) ≤ r13] 57 [.ref 109, .int a1, .int a2, .int a3] [] σ14 rfl ⟨(z_ix_in rfl), h1, (ww_Md_has D (by omega) (σ 109 50) a3 σ r2 σ3 h4), h5, (z_ix_in h6), (ww_Md_has D (by omega) (σ3 110 (((34 : Int32) + a2).toNatClampNeg)) a3 σ3 r7 σ8 h9), h10, (z_ix_in h11), (z_ix_in h12), (ww_Md_soundOf D (by omega) a2 σ8 r13 σ14 h15), h16, trivial⟩ (gx_fgt (ls' := [.ref 109, .int a1, .int a2, .int a3]) ⟨Or.inr rfl, Or.inr rfl, Or.inr rfl, Or.inr rfl, trivial⟩ (vv_Md_wokenByNoise_57 D hD rr σ' K18 hK18 a1 a2 a3 σ14 hf))
        · exact gx_go_ 39 [.inl 0, .inr (some (.int r2), σ3), .inl 0, .inr (some (.int r7), σ8), .inl 0, .inr (some (.int r13), σ14), .inl 0] [vp_in (0 : Int32) 8880, ¬ ((σ 110 ((0 : Int32).toNatClampNeg)) ≤ a3), E0 D 146 [.int (σ 109 50), .int a3] σ (some (.int r2)) σ3, ¬ (r2 = 0), vp_in ((34 : Int32) + a2) 8880, E0 D 146 [.int (σ3 110 (((34 : Int32) + a2).toNatClampNeg)), .int a3] σ3 (some (.int r7)) σ8, ¬ (r7 = 0), vp_in a3 8, vp_in ((48 : Int32) + (σ8 136 a3.toNatClampNeg)) 8880, E0 D 203 [.ref 109, .int a2] σ8 (some (.int r13)) σ14, ¬ ((σ8 110 (((48 : Int32) + (σ8 136 a3.toNatClampNeg)).toNatClampNeg)) ≤ r13)] 57 [.ref 109, .int (a1 ||| ((1 : Int32) <<< (a2 &&& 31))), .int a2, .int a3] [] σ14 rfl ⟨(z_ix_in rfl), h1, (ww_Md_has D (by omega) (σ 109 50) a3 σ r2 σ3 h4), h5, (z_ix_in h6), (ww_Md_has D (by omega) (σ3 110 (((34 : Int32) + a2).toNatClampNeg)) a3 σ3 r7 σ8 h9), h10, (z_ix_in h11), (z_ix_in h12), (ww_Md_soundOf D (by omega) a2 σ8 r13 σ14 h15), h16, trivial⟩ (gx_fgt (ls' := [.ref 109, .int (a1 ||| ((1 : Int32) <<< (a2 &&& 31))), .int a2, .int a3]) ⟨Or.inr rfl, Or.inr rfl, Or.inr rfl, Or.inr rfl, trivial⟩ (vv_Md_wokenByNoise_57 D hD rr σ' K18 hK18 (a1 ||| ((1 : Int32) <<< (a2 &&& 31))) a2 a3 σ14 hf))
set_option maxHeartbeats 16000000 in
set_option maxRecDepth 20000 in
theorem vv_Md_wokenByNoise_18 (D : Nat) (hD : 5 ≤ D + 1) (rr : Int32) (σ' : gx_R) (K59 : Int32 → Int32 → gx_R → Option (Int32 × gx_R)) (hK59 : ∀ (a1 : Int32) (a2 : Int32) (σ : gx_R), K59 a1 a2 σ = some (rr, σ') → gx_Ev lay0 (E0 D) tt_210 (some (.int rr)) σ' 59 [.ref 109, .int a1, .int a2, .null] [] σ) : ∀ (n : Nat) (a1 : Int32) (a2 : Int32) (a3 : Int32) (σ : gx_R), Md_wokenByNoise_18 K59 n a1 a2 a3 σ = some (rr, σ') → gx_Ev lay0 (E0 D) tt_210 (some (.int rr)) σ' 18 [.ref 109, .int a1, .int a2, .int a3] [] σ := by
  intro n
  induction n with
  | zero => intro a1 a2 a3 σ  hf; cases hf
  | succ n ih => intro a1 a2 a3 σ  hf; exact vv_Md_wokenByNoise_18_B D hD rr σ'  K59 hK59 (Md_wokenByNoise_18 K59 n) ih a1 a2 a3 σ  hf
set_option maxHeartbeats 16000000 in
set_option maxRecDepth 20000 in
theorem vv_Md_wokenByNoise_59 (D : Nat) (hD : 5 ≤ D + 1) (rr : Int32) (σ' : gx_R) (K4 : Int32 → Int32 → gx_R → Option (Int32 × gx_R)) (hK4 : ∀ (a1 : Int32) (a2 : Int32) (σ : gx_R), K4 a1 a2 σ = some (rr, σ') → gx_Ev lay0 (E0 D) tt_210 (some (.int rr)) σ' 4 [.ref 109, .int a1, .int a2, .null] [] σ) (a1 : Int32) (a2 : Int32) (σ : gx_R) (hf : Md_wokenByNoise_59 K4 a1 a2 σ = some (rr, σ')) : gx_Ev lay0 (E0 D) tt_210 (some (.int rr)) σ' 59 [.ref 109, .int a1, .int a2, .null] [] σ := by
  unfold Md_wokenByNoise_59 at hf
  exact gx_go_ 2 [] [] 4 [.ref 109, .int a1, .int (a2 + 1), .null] [] σ rfl trivial (gx_fgt (ls' := [.ref 109, .int a1, .int (a2 + 1), .null]) ⟨Or.inr rfl, Or.inr rfl, Or.inr rfl, Or.inl rfl, trivial⟩ (hK4 a1 (a2 + 1) σ hf))
set_option maxHeartbeats 16000000 in
set_option maxRecDepth 20000 in
theorem vv_Md_wokenByNoise_4_B (D : Nat) (hD : 5 ≤ D + 1) (rr : Int32) (σ' : gx_R) (K4 : Int32 → Int32 → gx_R → Option (Int32 × gx_R)) (hK4 : ∀ (a1 : Int32) (a2 : Int32) (σ : gx_R), K4 a1 a2 σ = some (rr, σ') → gx_Ev lay0 (E0 D) tt_210 (some (.int rr)) σ' 4 [.ref 109, .int a1, .int a2, .null] [] σ) (a1 : Int32) (a2 : Int32) (σ : gx_R) (hf : Md_wokenByNoise_4_B K4 a1 a2 σ = some (rr, σ')) : gx_Ev lay0 (E0 D) tt_210 (some (.int rr)) σ' 4 [.ref 109, .int a1, .int a2, .null] [] σ := by
  unfold Md_wokenByNoise_4_B at hf
  rcases z_if_inv hf with ⟨h1, hf⟩ | ⟨h1, hf⟩
  · obtain ⟨e1, e2⟩ := z_ret hf
    subst e1
    subst e2
    exact gx_end 8 [.inl 1] [vp_in (0 : Int32) 8880, (σ 110 ((0 : Int32).toNatClampNeg)) ≤ a2] rfl ⟨(z_ix_in rfl), h1, trivial⟩
  · obtain ⟨h2, hf⟩ := z_ck_inv hf
    rcases z_if_inv hf with ⟨h3, hf⟩ | ⟨h3, hf⟩
    · exact gx_go_ 14 [.inl 0, .inl 0] [vp_in (0 : Int32) 8880, ¬ ((σ 110 ((0 : Int32).toNatClampNeg)) ≤ a2), vp_in a2 8, ¬ ¬ ((σ 135 a2.toNatClampNeg) = (2 : Int32))] 18 [.ref 109, .int a1, .int a2, .int (0 : Int32)] [] σ rfl ⟨(z_ix_in rfl), h1, (z_ix_in h2), (fun q => q h3), trivial⟩ (gx_fgt (ls' := [.ref 109, .int a1, .int a2, .int (0 : Int32)]) ⟨Or.inr rfl, Or.inr rfl, Or.inr rfl, Or.inr rfl, trivial⟩ (vv_Md_wokenByNoise_18 D hD rr σ' (Md_wokenByNoise_59 K4) (vv_Md_wokenByNoise_59 D hD rr σ' K4 hK4) z_FU a1 a2 (0 : Int32) σ hf))
    · exact gx_go_ 12 [.inl 0, .inl 1] [vp_in (0 : Int32) 8880, ¬ ((σ 110 ((0 : Int32).toNatClampNeg)) ≤ a2), vp_in a2 8, ¬ ((σ 135 a2.toNatClampNeg) = (2 : Int32))] 59 [.ref 109, .int a1, .int a2, .null] [] σ rfl ⟨(z_ix_in rfl), h1, (z_ix_in h2), h3, trivial⟩ (gx_fgt (ls' := [.ref 109, .int a1, .int a2, .null]) ⟨Or.inr rfl, Or.inr rfl, Or.inr rfl, Or.inl rfl, trivial⟩ (vv_Md_wokenByNoise_59 D hD rr σ' K4 hK4 a1 a2 σ hf))
set_option maxHeartbeats 16000000 in
set_option maxRecDepth 20000 in
theorem vv_Md_wokenByNoise_4 (D : Nat) (hD : 5 ≤ D + 1) (rr : Int32) (σ' : gx_R) : ∀ (n : Nat) (a1 : Int32) (a2 : Int32) (σ : gx_R), Md_wokenByNoise_4 n a1 a2 σ = some (rr, σ') → gx_Ev lay0 (E0 D) tt_210 (some (.int rr)) σ' 4 [.ref 109, .int a1, .int a2, .null] [] σ := by
  intro n
  induction n with
  | zero => intro a1 a2 σ  hf; cases hf
  | succ n ih => intro a1 a2 σ  hf; exact vv_Md_wokenByNoise_4_B D hD rr σ'  (Md_wokenByNoise_4 n) ih a1 a2 σ  hf
set_option maxHeartbeats 16000000 in
set_option maxRecDepth 20000 in
theorem vv_Md_wokenByNoise_E (D : Nat) (hD : 5 ≤ D + 1) (rr : Int32) (σ' : gx_R) (σ : gx_R) (hf : Md_wokenByNoise  σ = some (rr, σ')) : gx_Ev lay0 (E0 D) tt_210 (some (.int rr)) σ' 0 [.ref 109, .null, .null, .null] [] σ := by
  unfold Md_wokenByNoise at hf
  exact gx_go_ 4 [] [] 4 [.ref 109, .int (0 : Int32), .int (0 : Int32), .null] [] σ rfl trivial (gx_fgt (ls' := [.ref 109, .int (0 : Int32), .int (0 : Int32), .null]) ⟨Or.inr rfl, Or.inr rfl, Or.inr rfl, Or.inl rfl, trivial⟩ (vv_Md_wokenByNoise_4 D hD rr σ' z_FU (0 : Int32) (0 : Int32) σ hf))
set_option maxHeartbeats 16000000 in
set_option maxRecDepth 20000 in
theorem ww_Md_wokenByNoise (D : Nat) (hD : 5 ≤ D) (σ : gx_R) (rr : Int32) (σ' : gx_R) (hf : Md_wokenByNoise  σ = some (rr, σ')) : E0 D 210 [.ref 109] σ (some (.int rr)) σ' := by
  cases D with
  | zero => omega
  | succ D => exact Or.inl ⟨Nat.le_of_ble_eq_true rfl, vv_Md_wokenByNoise_E D hD rr σ' σ hf⟩
set_option maxHeartbeats 16000000 in
set_option maxRecDepth 20000 in
theorem vv_Md_idles_27 (D : Nat) (hD : 2 ≤ D + 1) (rr : Unit) (σ' : gx_R) (K2 : Int32 → Int32 → gx_R → Option (Unit × gx_R)) (hK2 : ∀ (a1 : Int32) (a2 : Int32) (σ : gx_R), K2 a1 a2 σ = some (rr, σ') → gx_Ev lay0 (E0 D) tt_211 none σ' 2 [.ref 109, .int a1, .int a2] [] σ) (a1 : Int32) (a2 : Int32) (σ : gx_R) (hf : Md_idles_27 K2 a1 a2 σ = some (rr, σ')) : gx_Ev lay0 (E0 D) tt_211 none σ' 27 [.ref 109, .int a1, .int a2] [] σ := by
  unfold Md_idles_27 at hf
  exact gx_go_ 2 [] [] 2 [.ref 109, .int a1, .int (a2 + 1)] [] σ rfl trivial (gx_fgt (ls' := [.ref 109, .int a1, .int (a2 + 1)]) ⟨Or.inr rfl, Or.inr rfl, Or.inr rfl, trivial⟩ (hK2 a1 (a2 + 1) σ hf))
set_option maxHeartbeats 16000000 in
set_option maxRecDepth 20000 in
theorem vv_Md_idles_2_B (D : Nat) (hD : 2 ≤ D + 1) (rr : Unit) (σ' : gx_R) (K2 : Int32 → Int32 → gx_R → Option (Unit × gx_R)) (hK2 : ∀ (a1 : Int32) (a2 : Int32) (σ : gx_R), K2 a1 a2 σ = some (rr, σ') → gx_Ev lay0 (E0 D) tt_211 none σ' 2 [.ref 109, .int a1, .int a2] [] σ) (a1 : Int32) (a2 : Int32) (σ : gx_R) (hf : Md_idles_2_B K2 a1 a2 σ = some (rr, σ')) : gx_Ev lay0 (E0 D) tt_211 none σ' 2 [.ref 109, .int a1, .int a2] [] σ := by
  unfold Md_idles_2_B at hf
  rcases z_if_inv hf with ⟨h1, hf⟩ | ⟨h1, hf⟩
  · obtain ⟨e1, e2⟩ := z_ret hf
    subst e1
    subst e2
    exact gx_end 7 [.inl 1] [vp_in (0 : Int32) 8880, (σ 110 ((0 : Int32).toNatClampNeg)) ≤ a2] rfl ⟨(z_ix_in rfl), h1, trivial⟩
  · obtain ⟨r2, σ3, h4, hf⟩ := z_bd_inv hf
    rcases z_if_inv hf with ⟨h5, hf⟩ | ⟨h5, hf⟩
    · exact gx_go_ 10 [.inl 0, .inr (some (.int r2), σ3), .inl 1] [vp_in (0 : Int32) 8880, ¬ ((σ 110 ((0 : Int32).toNatClampNeg)) ≤ a2), E0 D 146 [.int a1, .int a2] σ (some (.int r2)) σ3, r2 = 0] 27 [.ref 109, .int a1, .int a2] [] σ3 rfl ⟨(z_ix_in rfl), h1, (ww_Md_has D (by omega) a1 a2 σ r2 σ3 h4), h5, trivial⟩ (gx_fgt (ls' := [.ref 109, .int a1, .int a2]) ⟨Or.inr rfl, Or.inr rfl, Or.inr rfl, trivial⟩ (vv_Md_idles_27 D hD rr σ' K2 hK2 a1 a2 σ3 hf))
    · obtain ⟨h6, hf⟩ := z_ck_inv hf
      obtain ⟨h7, hf⟩ := z_ck_inv hf
      obtain ⟨h8, hf⟩ := z_ck_inv hf
      exact gx_go_ 25 [.inl 0, .inr (some (.int r2), σ3), .inl 0] [vp_in (0 : Int32) 8880, ¬ ((σ 110 ((0 : Int32).toNatClampNeg)) ≤ a2), E0 D 146 [.int a1, .int a2] σ (some (.int r2)) σ3, ¬ (r2 = 0), vp_in a2 8, vp_in a2 8, vp_in a2 8] 27 [.ref 109, .int a1, .int a2] [] (gx_up (gx_up (gx_up σ3 135 a2.toNatClampNeg (0 : Int32)) 136 a2.toNatClampNeg (-1 : Int32)) 137 a2.toNatClampNeg (0 : Int32)) rfl ⟨(z_ix_in rfl), h1, (ww_Md_has D (by omega) a1 a2 σ r2 σ3 h4), h5, (z_ix_in h6), (z_ix_in h7), (z_ix_in h8), trivial⟩ (gx_fgt (ls' := [.ref 109, .int a1, .int a2]) ⟨Or.inr rfl, Or.inr rfl, Or.inr rfl, trivial⟩ (vv_Md_idles_27 D hD rr σ' K2 hK2 a1 a2 (gx_up (gx_up (gx_up σ3 135 a2.toNatClampNeg (0 : Int32)) 136 a2.toNatClampNeg (-1 : Int32)) 137 a2.toNatClampNeg (0 : Int32)) hf))
set_option maxHeartbeats 16000000 in
set_option maxRecDepth 20000 in
theorem vv_Md_idles_2 (D : Nat) (hD : 2 ≤ D + 1) (rr : Unit) (σ' : gx_R) : ∀ (n : Nat) (a1 : Int32) (a2 : Int32) (σ : gx_R), Md_idles_2 n a1 a2 σ = some (rr, σ') → gx_Ev lay0 (E0 D) tt_211 none σ' 2 [.ref 109, .int a1, .int a2] [] σ := by
  intro n
  induction n with
  | zero => intro a1 a2 σ  hf; cases hf
  | succ n ih => intro a1 a2 σ  hf; exact vv_Md_idles_2_B D hD rr σ'  (Md_idles_2 n) ih a1 a2 σ  hf
set_option maxHeartbeats 16000000 in
set_option maxRecDepth 20000 in
theorem vv_Md_idles_E (D : Nat) (hD : 2 ≤ D + 1) (rr : Unit) (σ' : gx_R) (a1 : Int32) (σ : gx_R) (hf : Md_idles a1 σ = some (rr, σ')) : gx_Ev lay0 (E0 D) tt_211 none σ' 0 [.ref 109, .int a1, .null] [] σ := by
  unfold Md_idles at hf
  exact gx_go_ 2 [] [] 2 [.ref 109, .int a1, .int (0 : Int32)] [] σ rfl trivial (gx_fgt (ls' := [.ref 109, .int a1, .int (0 : Int32)]) ⟨Or.inr rfl, Or.inr rfl, Or.inr rfl, trivial⟩ (vv_Md_idles_2 D hD rr σ' z_FU a1 (0 : Int32) σ hf))
set_option maxHeartbeats 16000000 in
set_option maxRecDepth 20000 in
theorem ww_Md_idles (D : Nat) (hD : 2 ≤ D) (a1 : Int32) (σ : gx_R) (rr : Unit) (σ' : gx_R) (hf : Md_idles a1 σ = some (rr, σ')) : E0 D 211 [.ref 109, .int a1] σ none σ' := by
  cases D with
  | zero => omega
  | succ D => exact Or.inl ⟨Nat.le_of_ble_eq_true rfl, vv_Md_idles_E D hD rr σ' a1 σ hf⟩
set_option maxHeartbeats 16000000 in
set_option maxRecDepth 20000 in
theorem vv_Md_hourGoes_110 (D : Nat) (hD : 6 ≤ D + 1) (rr : Int32) (σ' : gx_R) (K91 : Int32 → gx_R → Option (Int32 × gx_R)) (hK91 : ∀ (a1 : Int32) (σ : gx_R), K91 a1 σ = some (rr, σ') → gx_Ev lay0 (E0 D) tt_212 (some (.int rr)) σ' 91 [.ref 109, .int a1] [] σ) (a1 : Int32) (s1 : Int32) (s2 : Int32) (s3 : Int32) (σ : gx_R) (hf : Md_hourGoes_110 K91 a1 s1 s2 s3 σ = some (rr, σ')) : gx_Ev lay0 (E0 D) tt_212 (some (.int rr)) σ' 110 [.ref 109, .int a1] [.int s3, .int s2, .int s1, .ref 137] σ := by
  unfold Md_hourGoes_110 at hf
  obtain ⟨h1, hf⟩ := z_ck_inv hf
  exact gx_go_ 4 [] [vp_in s1 8] 91 [.ref 109, .int (a1 + 1)] [] (gx_up σ 137 s1.toNatClampNeg (s2 + s3)) rfl ⟨(z_ix_in h1), trivial⟩ (gx_fgt (ls' := [.ref 109, .int (a1 + 1)]) ⟨Or.inr rfl, Or.inr rfl, trivial⟩ (hK91 (a1 + 1) (gx_up σ 137 s1.toNatClampNeg (s2 + s3)) hf))
set_option maxHeartbeats 16000000 in
set_option maxRecDepth 20000 in
theorem vv_Md_hourGoes_114 (D : Nat) (hD : 6 ≤ D + 1) (rr : Int32) (σ' : gx_R) (σ : gx_R) (hf : Md_hourGoes_114  σ = some (rr, σ')) : gx_Ev lay0 (E0 D) tt_212 (some (.int rr)) σ' 114 [.ref 109, .null] [] σ := by
  unfold Md_hourGoes_114 at hf
  obtain ⟨r1, σ2, h3, hf⟩ := z_bd_inv hf
  obtain ⟨e1, e2⟩ := z_ret hf
  subst e1
  subst e2
  exact gx_end 10 [.inr (some (.int r1), σ2)] [E0 D 147 [.int ((gx_up σ 109 42 ((σ 109 42) + (1 : Int32))) 109 50)] (gx_up σ 109 42 ((σ 109 42) + (1 : Int32))) (some (.int r1)) σ2] rfl ⟨(ww_Md_many D (by omega) ((gx_up σ 109 42 ((σ 109 42) + (1 : Int32))) 109 50) (gx_up σ 109 42 ((σ 109 42) + (1 : Int32))) r1 σ2 h3), trivial⟩
set_option maxHeartbeats 16000000 in
set_option maxRecDepth 20000 in
theorem vv_Md_hourGoes_91_B (D : Nat) (hD : 6 ≤ D + 1) (rr : Int32) (σ' : gx_R) (K91 : Int32 → gx_R → Option (Int32 × gx_R)) (hK91 : ∀ (a1 : Int32) (σ : gx_R), K91 a1 σ = some (rr, σ') → gx_Ev lay0 (E0 D) tt_212 (some (.int rr)) σ' 91 [.ref 109, .int a1] [] σ) (a1 : Int32) (σ : gx_R) (hf : Md_hourGoes_91_B K91 a1 σ = some (rr, σ')) : gx_Ev lay0 (E0 D) tt_212 (some (.int rr)) σ' 91 [.ref 109, .int a1] [] σ := by
  unfold Md_hourGoes_91_B at hf
  rcases z_if_inv hf with ⟨h1, hf⟩ | ⟨h1, hf⟩
  · exact gx_go_ 6 [.inl 1] [vp_in (0 : Int32) 8880, (σ 110 ((0 : Int32).toNatClampNeg)) ≤ a1] 114 [.ref 109, .int a1] [] σ rfl ⟨(z_ix_in rfl), h1, trivial⟩ (gx_fgt (ls' := [.ref 109, .null]) ⟨Or.inr rfl, Or.inl rfl, trivial⟩ (vv_Md_hourGoes_114 D hD rr σ' σ hf))
  · obtain ⟨h2, hf⟩ := z_ck_inv hf
    obtain ⟨h3, hf⟩ := z_ck_inv hf
    rcases z_if_inv hf with ⟨h4, hf⟩ | ⟨h4, hf⟩
    · exact gx_go_ 18 [.inl 0, .inl 0] [vp_in (0 : Int32) 8880, ¬ ((σ 110 ((0 : Int32).toNatClampNeg)) ≤ a1), vp_in a1 8, vp_in a1 8, ¬ ¬ ((σ 135 a1.toNatClampNeg) = 0)] 110 [.ref 109, .int a1] [.int (0 : Int32), .int (σ 137 a1.toNatClampNeg), .int a1, .ref 137] σ rfl ⟨(z_ix_in rfl), h1, (z_ix_in h2), (z_ix_in h3), (fun q => q h4), trivial⟩ (gx_fgt (ls' := [.ref 109, .int a1]) ⟨Or.inr rfl, Or.inr rfl, trivial⟩ (vv_Md_hourGoes_110 D hD rr σ' K91 hK91 a1 a1 (σ 137 a1.toNatClampNeg) (0 : Int32) σ hf))
    · exact gx_go_ 17 [.inl 0, .inl 1] [vp_in (0 : Int32) 8880, ¬ ((σ 110 ((0 : Int32).toNatClampNeg)) ≤ a1), vp_in a1 8, vp_in a1 8, ¬ ((σ 135 a1.toNatClampNeg) = 0)] 110 [.ref 109, .int a1] [.int (1 : Int32), .int (σ 137 a1.toNatClampNeg), .int a1, .ref 137] σ rfl ⟨(z_ix_in rfl), h1, (z_ix_in h2), (z_ix_in h3), h4, trivial⟩ (gx_fgt (ls' := [.ref 109, .int a1]) ⟨Or.inr rfl, Or.inr rfl, trivial⟩ (vv_Md_hourGoes_110 D hD rr σ' K91 hK91 a1 a1 (σ 137 a1.toNatClampNeg) (1 : Int32) σ hf))
set_option maxHeartbeats 16000000 in
set_option maxRecDepth 20000 in
theorem vv_Md_hourGoes_91 (D : Nat) (hD : 6 ≤ D + 1) (rr : Int32) (σ' : gx_R) : ∀ (n : Nat) (a1 : Int32) (σ : gx_R), Md_hourGoes_91 n a1 σ = some (rr, σ') → gx_Ev lay0 (E0 D) tt_212 (some (.int rr)) σ' 91 [.ref 109, .int a1] [] σ := by
  intro n
  induction n with
  | zero => intro a1 σ  hf; cases hf
  | succ n ih => intro a1 σ  hf; exact vv_Md_hourGoes_91_B D hD rr σ'  (Md_hourGoes_91 n) ih a1 σ  hf
set_option maxHeartbeats 16000000 in
set_option maxRecDepth 20000 in
theorem vv_Md_hourGoes_77 (D : Nat) (hD : 6 ≤ D + 1) (rr : Int32) (σ' : gx_R) (K36 : Int32 → gx_R → Option (Int32 × gx_R)) (hK36 : ∀ (a1 : Int32) (σ : gx_R), K36 a1 σ = some (rr, σ') → gx_Ev lay0 (E0 D) tt_212 (some (.int rr)) σ' 36 [.ref 109, .int a1] [] σ) (a1 : Int32) (σ : gx_R) (hf : Md_hourGoes_77 K36 a1 σ = some (rr, σ')) : gx_Ev lay0 (E0 D) tt_212 (some (.int rr)) σ' 77 [.ref 109, .int a1] [] σ := by
  unfold Md_hourGoes_77 at hf
  exact gx_go_ 2 [] [] 36 [.ref 109, .int (a1 + 1)] [] σ rfl trivial (gx_fgt (ls' := [.ref 109, .int (a1 + 1)]) ⟨Or.inr rfl, Or.inr rfl, trivial⟩ (hK36 (a1 + 1) σ hf))
set_option maxHeartbeats 16000000 in
set_option maxRecDepth 20000 in
theorem vv_Md_hourGoes_79 (D : Nat) (hD : 6 ≤ D + 1) (rr : Int32) (σ' : gx_R) (σ : gx_R) (hf : Md_hourGoes_79  σ = some (rr, σ')) : gx_Ev lay0 (E0 D) tt_212 (some (.int rr)) σ' 79 [.ref 109, .null] [] σ := by
  unfold Md_hourGoes_79 at hf
  obtain ⟨r1, σ2, h3, hf⟩ := z_bd_inv hf
  obtain ⟨r4, σ5, h6, hf⟩ := z_bd_inv hf
  obtain ⟨⟨⟩, σ8, h9, hf⟩ := z_bd_inv hf
  exact gx_go_ 12 [.inr (some (.int r1), σ2), .inr (some (.int r4), σ5), .inr (none, σ8)] [E0 D 210 [.ref 109] σ (some (.int r1)) σ2, E0 D 209 [.ref 109, .int r1, .int (0 : Int32)] σ2 (some (.int r4)) σ5, E0 D 211 [.ref 109, .int ((σ 109 51) ||| r4)] σ5 (none) σ8] 91 [.ref 109, .int (0 : Int32)] [] σ8 rfl ⟨(ww_Md_wokenByNoise D (by omega) σ r1 σ2 h3), (ww_Md_wakesOn D (by omega) r1 (0 : Int32) σ2 r4 σ5 h6), (ww_Md_idles D (by omega) ((σ 109 51) ||| r4) σ5 () σ8 h9), trivial⟩ (gx_fgt (ls' := [.ref 109, .int (0 : Int32)]) ⟨Or.inr rfl, Or.inr rfl, trivial⟩ (vv_Md_hourGoes_91 D hD rr σ' z_FU (0 : Int32) σ8 hf))
set_option maxHeartbeats 16000000 in
set_option maxRecDepth 20000 in
theorem vv_Md_hourGoes_32 (D : Nat) (hD : 6 ≤ D + 1) (rr : Int32) (σ' : gx_R) (K13 : Int32 → gx_R → Option (Int32 × gx_R)) (hK13 : ∀ (a1 : Int32) (σ : gx_R), K13 a1 σ = some (rr, σ') → gx_Ev lay0 (E0 D) tt_212 (some (.int rr)) σ' 13 [.ref 109, .int a1] [] σ) (a1 : Int32) (σ : gx_R) (hf : Md_hourGoes_32 K13 a1 σ = some (rr, σ')) : gx_Ev lay0 (E0 D) tt_212 (some (.int rr)) σ' 32 [.ref 109, .int a1] [] σ := by
  unfold Md_hourGoes_32 at hf
  exact gx_go_ 2 [] [] 13 [.ref 109, .int (a1 + 1)] [] σ rfl trivial (gx_fgt (ls' := [.ref 109, .int (a1 + 1)]) ⟨Or.inr rfl, Or.inr rfl, trivial⟩ (hK13 (a1 + 1) σ hf))
set_option maxHeartbeats 16000000 in
set_option maxRecDepth 20000 in
theorem vv_Md_hourGoes_36_B (D : Nat) (hD : 6 ≤ D + 1) (rr : Int32) (σ' : gx_R) (K36 : Int32 → gx_R → Option (Int32 × gx_R)) (hK36 : ∀ (a1 : Int32) (σ : gx_R), K36 a1 σ = some (rr, σ') → gx_Ev lay0 (E0 D) tt_212 (some (.int rr)) σ' 36 [.ref 109, .int a1] [] σ) (a1 : Int32) (σ : gx_R) (hf : Md_hourGoes_36_B K36 a1 σ = some (rr, σ')) : gx_Ev lay0 (E0 D) tt_212 (some (.int rr)) σ' 36 [.ref 109, .int a1] [] σ := by
  unfold Md_hourGoes_36_B at hf
  rcases z_if_inv hf with ⟨h1, hf⟩ | ⟨h1, hf⟩
  · exact gx_go_ 6 [.inl 1] [vp_in (0 : Int32) 8880, (σ 110 ((0 : Int32).toNatClampNeg)) ≤ a1] 79 [.ref 109, .int a1] [] σ rfl ⟨(z_ix_in rfl), h1, trivial⟩ (gx_fgt (ls' := [.ref 109, .null]) ⟨Or.inr rfl, Or.inl rfl, trivial⟩ (vv_Md_hourGoes_79 D hD rr σ' σ hf))
  · obtain ⟨h2, hf⟩ := z_ck_inv hf
    rcases z_if_inv hf with ⟨h3, hf⟩ | ⟨h3, hf⟩
    · obtain ⟨r4, σ5, h6, hf⟩ := z_bd_inv hf
      obtain ⟨h7, hf⟩ := z_ck_inv hf
      obtain ⟨h8, hf⟩ := z_ck_inv hf
      obtain ⟨r9, σ10, h11, hf⟩ := z_bd_inv hf
      rcases z_if_inv hf with ⟨h12, hf⟩ | ⟨h12, hf⟩
      · exact gx_go_ 37 [.inl 0, .inl 0, .inr (some (.int r4), σ5), .inr (some (.int r9), σ10), .inl 1] [vp_in (0 : Int32) 8880, ¬ ((σ 110 ((0 : Int32).toNatClampNeg)) ≤ a1), vp_in a1 8, ¬ ¬ ((σ 135 a1.toNatClampNeg) = (1 : Int32)), E0 D 205 [.ref 109, .int a1, .int (0 : Int32), .int (1 : Int32)] σ (some (.int r4)) σ5, vp_in a1 8, vp_in a1 8, E0 D 202 [.ref 109, .int a1, .int (σ5 137 a1.toNatClampNeg), .int (σ5 136 a1.toNatClampNeg)] σ5 (some (.int r9)) σ10, r4 < r9] 77 [.ref 109, .int a1] [] (gx_up σ10 109 51 ((σ10 109 51) ||| ((1 : Int32) <<< (a1 &&& 31)))) rfl ⟨(z_ix_in rfl), h1, (z_ix_in h2), (fun q => q h3), (ww_Md_fuelOf D (by omega) a1 (0 : Int32) (1 : Int32) σ r4 σ5 h6), (z_ix_in h7), (z_ix_in h8), (ww_Md_burnBy D (by omega) a1 (σ5 137 a1.toNatClampNeg) (σ5 136 a1.toNatClampNeg) σ5 r9 σ10 h11), h12, trivial⟩ (gx_fgt (ls' := [.ref 109, .int a1]) ⟨Or.inr rfl, Or.inr rfl, trivial⟩ (vv_Md_hourGoes_77 D hD rr σ' K36 hK36 a1 (gx_up σ10 109 51 ((σ10 109 51) ||| ((1 : Int32) <<< (a1 &&& 31)))) hf))
      · obtain ⟨⟨⟩, σ14, h15, hf⟩ := z_bd_inv hf
        exact gx_go_ 33 [.inl 0, .inl 0, .inr (some (.int r4), σ5), .inr (some (.int r9), σ10), .inl 0, .inr (none, σ14)] [vp_in (0 : Int32) 8880, ¬ ((σ 110 ((0 : Int32).toNatClampNeg)) ≤ a1), vp_in a1 8, ¬ ¬ ((σ 135 a1.toNatClampNeg) = (1 : Int32)), E0 D 205 [.ref 109, .int a1, .int (0 : Int32), .int (1 : Int32)] σ (some (.int r4)) σ5, vp_in a1 8, vp_in a1 8, E0 D 202 [.ref 109, .int a1, .int (σ5 137 a1.toNatClampNeg), .int (σ5 136 a1.toNatClampNeg)] σ5 (some (.int r9)) σ10, ¬ (r4 < r9), E0 D 208 [.ref 109, .int a1] σ10 (none) σ14] 77 [.ref 109, .int a1] [] σ14 rfl ⟨(z_ix_in rfl), h1, (z_ix_in h2), (fun q => q h3), (ww_Md_fuelOf D (by omega) a1 (0 : Int32) (1 : Int32) σ r4 σ5 h6), (z_ix_in h7), (z_ix_in h8), (ww_Md_burnBy D (by omega) a1 (σ5 137 a1.toNatClampNeg) (σ5 136 a1.toNatClampNeg) σ5 r9 σ10 h11), h12, (ww_Md_runs D (by omega) a1 σ10 () σ14 h15), trivial⟩ (gx_fgt (ls' := [.ref 109, .int a1]) ⟨Or.inr rfl, Or.inr rfl, trivial⟩ (vv_Md_hourGoes_77 D hD rr σ' K36 hK36 a1 σ14 hf))
    · exact gx_go_ 12 [.inl 0, .inl 1] [vp_in (0 : Int32) 8880, ¬ ((σ 110 ((0 : Int32).toNatClampNeg)) ≤ a1), vp_in a1 8, ¬ ((σ 135 a1.toNatClampNeg) = (1 : Int32))] 77 [.ref 109, .int a1] [] σ rfl ⟨(z_ix_in rfl), h1, (z_ix_in h2), h3, trivial⟩ (gx_fgt (ls' := [.ref 109, .int a1]) ⟨Or.inr rfl, Or.inr rfl, trivial⟩ (vv_Md_hourGoes_77 D hD rr σ' K36 hK36 a1 σ hf))
set_option maxHeartbeats 16000000 in
set_option maxRecDepth 20000 in
theorem vv_Md_hourGoes_36 (D : Nat) (hD : 6 ≤ D + 1) (rr : Int32) (σ' : gx_R) : ∀ (n : Nat) (a1 : Int32) (σ : gx_R), Md_hourGoes_36 n a1 σ = some (rr, σ') → gx_Ev lay0 (E0 D) tt_212 (some (.int rr)) σ' 36 [.ref 109, .int a1] [] σ := by
  intro n
  induction n with
  | zero => intro a1 σ  hf; cases hf
  | succ n ih => intro a1 σ  hf; exact vv_Md_hourGoes_36_B D hD rr σ'  (Md_hourGoes_36 n) ih a1 σ  hf
set_option maxHeartbeats 16000000 in
set_option maxRecDepth 20000 in
theorem vv_Md_hourGoes_34 (D : Nat) (hD : 6 ≤ D + 1) (rr : Int32) (σ' : gx_R) (σ : gx_R) (hf : Md_hourGoes_34  σ = some (rr, σ')) : gx_Ev lay0 (E0 D) tt_212 (some (.int rr)) σ' 34 [.ref 109, .null] [] σ := by
  unfold Md_hourGoes_34 at hf
  exact gx_go_ 2 [] [] 36 [.ref 109, .int (0 : Int32)] [] σ rfl trivial (gx_fgt (ls' := [.ref 109, .int (0 : Int32)]) ⟨Or.inr rfl, Or.inr rfl, trivial⟩ (vv_Md_hourGoes_36 D hD rr σ' z_FU (0 : Int32) σ hf))
set_option maxHeartbeats 16000000 in
set_option maxRecDepth 20000 in
theorem vv_Md_hourGoes_13_B (D : Nat) (hD : 6 ≤ D + 1) (rr : Int32) (σ' : gx_R) (K13 : Int32 → gx_R → Option (Int32 × gx_R)) (hK13 : ∀ (a1 : Int32) (σ : gx_R), K13 a1 σ = some (rr, σ') → gx_Ev lay0 (E0 D) tt_212 (some (.int rr)) σ' 13 [.ref 109, .int a1] [] σ) (a1 : Int32) (σ : gx_R) (hf : Md_hourGoes_13_B K13 a1 σ = some (rr, σ')) : gx_Ev lay0 (E0 D) tt_212 (some (.int rr)) σ' 13 [.ref 109, .int a1] [] σ := by
  unfold Md_hourGoes_13_B at hf
  rcases z_if_inv hf with ⟨h1, hf⟩ | ⟨h1, hf⟩
  · exact gx_go_ 6 [.inl 1] [vp_in (0 : Int32) 8880, (σ 110 ((0 : Int32).toNatClampNeg)) ≤ a1] 34 [.ref 109, .int a1] [] σ rfl ⟨(z_ix_in rfl), h1, trivial⟩ (gx_fgt (ls' := [.ref 109, .null]) ⟨Or.inr rfl, Or.inl rfl, trivial⟩ (vv_Md_hourGoes_34 D hD rr σ' σ hf))
  · obtain ⟨h2, hf⟩ := z_ck_inv hf
    rcases z_if_inv hf with ⟨h3, hf⟩ | ⟨h3, hf⟩
    · obtain ⟨r4, σ5, h6, hf⟩ := z_bd_inv hf
      obtain ⟨h7, hf⟩ := z_ck_inv hf
      exact gx_go_ 19 [.inl 0, .inl 0, .inr (some (.int r4), σ5)] [vp_in (0 : Int32) 8880, ¬ ((σ 110 ((0 : Int32).toNatClampNeg)) ≤ a1), vp_in a1 8, ¬ ¬ ((σ 135 a1.toNatClampNeg) = (2 : Int32)), E0 D 207 [.ref 109, .int (10 : Int32)] σ (some (.int r4)) σ5, vp_in a1 8] 32 [.ref 109, .int a1] [] (gx_up σ5 138 a1.toNatClampNeg r4) rfl ⟨(z_ix_in rfl), h1, (z_ix_in h2), (fun q => q h3), (ww_Md_drawn D (by omega) (10 : Int32) σ r4 σ5 h6), (z_ix_in h7), trivial⟩ (gx_fgt (ls' := [.ref 109, .int a1]) ⟨Or.inr rfl, Or.inr rfl, trivial⟩ (vv_Md_hourGoes_32 D hD rr σ' K13 hK13 a1 (gx_up σ5 138 a1.toNatClampNeg r4) hf))
    · exact gx_go_ 12 [.inl 0, .inl 1] [vp_in (0 : Int32) 8880, ¬ ((σ 110 ((0 : Int32).toNatClampNeg)) ≤ a1), vp_in a1 8, ¬ ((σ 135 a1.toNatClampNeg) = (2 : Int32))] 32 [.ref 109, .int a1] [] σ rfl ⟨(z_ix_in rfl), h1, (z_ix_in h2), h3, trivial⟩ (gx_fgt (ls' := [.ref 109, .int a1]) ⟨Or.inr rfl, Or.inr rfl, trivial⟩ (vv_Md_hourGoes_32 D hD rr σ' K13 hK13 a1 σ hf))
set_option maxHeartbeats 16000000 in
set_option maxRecDepth 20000 in
theorem vv_Md_hourGoes_13 (D : Nat) (hD : 6 ≤ D + 1) (rr : Int32) (σ' : gx_R) : ∀ (n : Nat) (a1 : Int32) (σ : gx_R), Md_hourGoes_13 n a1 σ = some (rr, σ') → gx_Ev lay0 (E0 D) tt_212 (some (.int rr)) σ' 13 [.ref 109, .int a1] [] σ := by
  intro n
  induction n with
  | zero => intro a1 σ  hf; cases hf
  | succ n ih => intro a1 σ  hf; exact vv_Md_hourGoes_13_B D hD rr σ'  (Md_hourGoes_13 n) ih a1 σ  hf
set_option maxHeartbeats 16000000 in
set_option maxRecDepth 20000 in
theorem vv_Md_hourGoes_E (D : Nat) (hD : 6 ≤ D + 1) (rr : Int32) (σ' : gx_R) (σ : gx_R) (hf : Md_hourGoes  σ = some (rr, σ')) : gx_Ev lay0 (E0 D) tt_212 (some (.int rr)) σ' 0 [.ref 109, .null] [] σ := by
  unfold Md_hourGoes at hf
  obtain ⟨r1, σ2, h3, hf⟩ := z_bd_inv hf
  exact gx_go_ 13 [.inr (some (.int r1), σ2)] [E0 D 206 [.ref 109, .int (2 : Int32)] (gx_up (gx_up σ 109 50 (0 : Int32)) 109 51 (0 : Int32)) (some (.int r1)) σ2] 13 [.ref 109, .int (0 : Int32)] [] (gx_up σ2 109 52 r1) rfl ⟨(ww_Md_allThat D (by omega) (2 : Int32) (gx_up (gx_up σ 109 50 (0 : Int32)) 109 51 (0 : Int32)) r1 σ2 h3), trivial⟩ (gx_fgt (ls' := [.ref 109, .int (0 : Int32)]) ⟨Or.inr rfl, Or.inr rfl, trivial⟩ (vv_Md_hourGoes_13 D hD rr σ' z_FU (0 : Int32) (gx_up σ2 109 52 r1) hf))
set_option maxHeartbeats 16000000 in
set_option maxRecDepth 20000 in
theorem ww_Md_hourGoes (D : Nat) (hD : 6 ≤ D) (σ : gx_R) (rr : Int32) (σ' : gx_R) (hf : Md_hourGoes  σ = some (rr, σ')) : E0 D 212 [.ref 109] σ (some (.int rr)) σ' := by
  cases D with
  | zero => omega
  | succ D => exact Or.inl ⟨Nat.le_of_ble_eq_true rfl, vv_Md_hourGoes_E D hD rr σ' σ hf⟩
set_option maxHeartbeats 16000000 in
set_option maxRecDepth 20000 in
theorem vv_Md_keepsHour_E (D : Nat) (hD : 1 ≤ D + 1) (rr : Unit) (σ' : gx_R) (σ : gx_R) (hf : Md_keepsHour  σ = some (rr, σ')) : gx_Ev lay0 (E0 D) tt_213 none σ' 0 [.ref 109, .null] [] σ := by
  unfold Md_keepsHour at hf
  obtain ⟨h1, hf⟩ := z_ck_inv hf
  obtain ⟨h2, hf⟩ := z_ck_inv hf
  obtain ⟨h3, hf⟩ := z_ck_inv hf
  obtain ⟨e1, e2⟩ := z_ret hf
  subst e1
  subst e2
  exact gx_end 34 [] [vp_in (162 : Int32) 8880, ¬ (60 : Int32) = 0, vp_in ((164 : Int32) + ((3 : Int32) * ((σ 110 ((162 : Int32).toNatClampNeg)) - (σ 110 ((162 : Int32).toNatClampNeg)) / (60 : Int32) * (60 : Int32)))) 8880, vp_in (((164 : Int32) + ((3 : Int32) * ((σ 110 ((162 : Int32).toNatClampNeg)) - (σ 110 ((162 : Int32).toNatClampNeg)) / (60 : Int32) * (60 : Int32)))) + (1 : Int32)) 8880, vp_in (((164 : Int32) + ((3 : Int32) * ((σ 110 ((162 : Int32).toNatClampNeg)) - (σ 110 ((162 : Int32).toNatClampNeg)) / (60 : Int32) * (60 : Int32)))) + (2 : Int32)) 8880] rfl ⟨(z_ix_in rfl), (by decide), (z_ix_in h1), (z_ix_in h2), (z_ix_in h3), trivial⟩
set_option maxHeartbeats 16000000 in
set_option maxRecDepth 20000 in
theorem ww_Md_keepsHour (D : Nat) (hD : 1 ≤ D) (σ : gx_R) (rr : Unit) (σ' : gx_R) (hf : Md_keepsHour  σ = some (rr, σ')) : E0 D 213 [.ref 109] σ none σ' := by
  cases D with
  | zero => omega
  | succ D => exact Or.inl ⟨Nat.le_of_ble_eq_true rfl, vv_Md_keepsHour_E D hD rr σ' σ hf⟩
