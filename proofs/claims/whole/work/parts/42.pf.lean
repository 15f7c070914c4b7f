set_option maxHeartbeats 16000000 in
set_option maxRecDepth 20000 in
theorem vv_Qu_asleepForNobody_36 (D : Nat) (hD : 2 ≤ D + 1) (rr : Int32) (σ' : gx_R) (K12 : Int32 → Int32 → Int32 → gx_R → Option (Int32 × gx_R)) (hK12 : ∀ (a2 : Int32) (a3 : Int32) (a4 : Int32) (σ : gx_R), K12 a2 a3 a4 σ = some (rr, σ') → gx_Ev lay0 (E0 D) tt_69 (some (.int rr)) σ' 12 [.null, .ref 9, .int a2, .int a3, .int a4] [] σ) (a2 : Int32) (a3 : Int32) (a4 : Int32) (σ : gx_R) (hf : Qu_asleepForNobody_36 K12 a2 a3 a4 σ = some (rr, σ')) : gx_Ev lay0 (E0 D) tt_69 (some (.int rr)) σ' 36 [.null, .ref 9, .int a2, .int a3, .int a4] [] σ := by
  unfold Qu_asleepForNobody_36 at hf
  exact gx_go_ 2 [] [] 12 [.null, .ref 9, .int a2, .int a3, .int (a4 + 1)] [] σ rfl trivial (gx_fgt (ls' := [.null, .ref 9, .int a2, .int a3, .int (a4 + 1)]) ⟨Or.inl rfl, Or.inr rfl, Or.inr rfl, Or.inr rfl, Or.inr rfl, trivial⟩ (hK12 a2 a3 (a4 + 1) σ hf))
set_option maxHeartbeats 16000000 in
set_option maxRecDepth 20000 in
theorem vv_Qu_asleepForNobody_12_B (D : Nat) (hD : 2 ≤ D + 1) (rr : Int32) (σ' : gx_R) (K12 : Int32 → Int32 → Int32 → gx_R → Option (Int32 × gx_R)) (hK12 : ∀ (a2 : Int32) (a3 : Int32) (a4 : Int32) (σ : gx_R), K12 a2 a3 a4 σ = some (rr, σ') → gx_Ev lay0 (E0 D) tt_69 (some (.int rr)) σ' 12 [.null, .ref 9, .int a2, .int a3, .int a4] [] σ) (a2 : Int32) (a3 : Int32) (a4 : Int32) (σ : gx_R) (hf : Qu_asleepForNobody_12_B K12 a2 a3 a4 σ = some (rr, σ')) : gx_Ev lay0 (E0 D) tt_69 (some (.int rr)) σ' 12 [.null, .ref 9, .int a2, .int a3, .int a4] [] σ := by
  unfold Qu_asleepForNobody_12_B at hf
  rcases z_if_inv hf with ⟨h1, hf⟩ | ⟨h1, hf⟩
  · obtain ⟨e1, e2⟩ := z_ret hf
    subst e1
    subst e2
    exact gx_end 5 [.inl 1] [(8 : Int32) ≤ a4] rfl ⟨h1, trivial⟩
  · obtain ⟨h2, hf⟩ := z_ck_inv hf
    rcases z_if_inv hf with ⟨h3, hf⟩ | ⟨h3, hf⟩
    · obtain ⟨h4, hf⟩ := z_ck_inv hf
      rcases z_if_inv hf with ⟨h5, hf⟩ | ⟨h5, hf⟩
      · exact gx_go_ 24 [.inl 0, .inl 0, .inl 0] [¬ ((8 : Int32) ≤ a4), vp_in a4 8, ¬ ¬ ((σ 10 a4.toNatClampNeg) = (2 : Int32)), vp_in a4 8, ¬ ¬ (((a2 >>> ((σ 11 a4.toNatClampNeg) &&& 31)) &&& (1 : Int32)) = 0)] 36 [.null, .ref 9, .int a2, .int (a3 ||| ((1 : Int32) <<< (a4 &&& 31))), .int a4] [] σ rfl ⟨h1, (z_ix_in h2), (fun q => q h3), (z_ix_in h4), (fun q => q h5), trivial⟩ (gx_fgt (ls' := [.null, .ref 9, .int a2, .int (a3 ||| ((1 : Int32) <<< (a4 &&& 31))), .int a4]) ⟨Or.inl rfl, Or.inr rfl, Or.inr rfl, Or.inr rfl, Or.inr rfl, trivial⟩ (vv_Qu_asleepForNobody_36 D hD rr σ' K12 hK12 a2 (a3 ||| ((1 : Int32) <<< (a4 &&& 31))) a4 σ hf))
      · exact gx_go_ 18 [.inl 0, .inl 0, .inl 1] [¬ ((8 : Int32) ≤ a4), vp_in a4 8, ¬ ¬ ((σ 10 a4.toNatClampNeg) = (2 : Int32)), vp_in a4 8, ¬ (((a2 >>> ((σ 11 a4.toNatClampNeg) &&& 31)) &&& (1 : Int32)) = 0)] 36 [.null, .ref 9, .int a2, .int a3, .int a4] [] σ rfl ⟨h1, (z_ix_in h2), (fun q => q h3), (z_ix_in h4), h5, trivial⟩ (gx_fgt (ls' := [.null, .ref 9, .int a2, .int a3, .int a4]) ⟨Or.inl rfl, Or.inr rfl, Or.inr rfl, Or.inr rfl, Or.inr rfl, trivial⟩ (vv_Qu_asleepForNobody_36 D hD rr σ' K12 hK12 a2 a3 a4 σ hf))
    · exact gx_go_ 9 [.inl 0, .inl 1] [¬ ((8 : Int32) ≤ a4), vp_in a4 8, ¬ ((σ 10 a4.toNatClampNeg) = (2 : Int32))] 36 [.null, .ref 9, .int a2, .int a3, .int a4] [] σ rfl ⟨h1, (z_ix_in h2), h3, trivial⟩ (gx_fgt (ls' := [.null, .ref 9, .int a2, .int a3, .int a4]) ⟨Or.inl rfl, Or.inr rfl, Or.inr rfl, Or.inr rfl, Or.inr rfl, trivial⟩ (vv_Qu_asleepForNobody_36 D hD rr σ' K12 hK12 a2 a3 a4 σ hf))
set_option maxHeartbeats 16000000 in
set_option maxRecDepth 20000 in
theorem vv_Qu_asleepForNobody_12 (D : Nat) (hD : 2 ≤ D + 1) (rr : Int32) (σ' : gx_R) : ∀ (n : Nat) (a2 : Int32) (a3 : Int32) (a4 : Int32) (σ : gx_R), Qu_asleepForNobody_12 n a2 a3 a4 σ = some (rr, σ') → gx_Ev lay0 (E0 D) tt_69 (some (.int rr)) σ' 12 [.null, .ref 9, .int a2, .int a3, .int a4] [] σ := by
  intro n
  induction n with
  | zero => intro a2 a3 a4 σ  hf; cases hf
  | succ n ih => intro a2 a3 a4 σ  hf; exact vv_Qu_asleepForNobody_12_B D hD rr σ'  (Qu_asleepForNobody_12 n) ih a2 a3 a4 σ  hf
set_option maxHeartbeats 16000000 in
set_option maxRecDepth 20000 in
theorem vv_Qu_asleepForNobody_E (D : Nat) (hD : 2 ≤ D + 1) (rr : Int32) (σ' : gx_R) (σ : gx_R) (hf : Qu_asleepForNobody  σ = some (rr, σ')) : gx_Ev lay0 (E0 D) tt_69 (some (.int rr)) σ' 0 [.ref 77, .null, .null, .null, .null] [] σ := by
  unfold Qu_asleepForNobody at hf
  obtain ⟨r1, σ2, h3, hf⟩ := z_bd_inv hf
  exact gx_go_ 12 [.inr (some (.int r1), σ2)] [E0 D 7 [.ref 9, .int (1 : Int32)] σ (some (.int r1)) σ2] 12 [.ref 77, .ref 9, .int r1, .int (0 : Int32), .int (0 : Int32)] [] σ2 rfl ⟨(ww_Ni_those D (by omega) 9 (1 : Int32) σ r1 σ2 (Or.inl rfl) h3), trivial⟩ (gx_fgt (ls' := [.null, .ref 9, .int r1, .int (0 : Int32), .int (0 : Int32)]) ⟨Or.inl rfl, Or.inr rfl, Or.inr rfl, Or.inr rfl, Or.inr rfl, trivial⟩ (vv_Qu_asleepForNobody_12 D hD rr σ' z_FU r1 (0 : Int32) (0 : Int32) σ2 hf))
set_option maxHeartbeats 16000000 in
set_option maxRecDepth 20000 in
theorem ww_Qu_asleepForNobody (D : Nat) (hD : 2 ≤ D) (σ : gx_R) (rr : Int32) (σ' : gx_R) (hf : Qu_asleepForNobody  σ = some (rr, σ')) : E0 D 69 [.ref 77] σ (some (.int rr)) σ' := by
  cases D with
  | zero => omega
  | succ D => exact Or.inl ⟨Nat.le_of_ble_eq_true rfl, vv_Qu_asleepForNobody_E D hD rr σ' σ hf⟩
set_option maxHeartbeats 16000000 in
set_option maxRecDepth 20000 in
theorem vv_Re_isLetter_6 (D : Nat) (hD : 1 ≤ D + 1) (rr : Int32) (σ' : gx_R) (K12 : gx_R → Option (Int32 × gx_R)) (hK12 : ∀ (σ : gx_R), K12  σ = some (rr, σ') → gx_Ev lay0 (E0 D) tt_88 (some (.int rr)) σ' 12 [.null] [] σ) (a0 : Int32) (σ : gx_R) (hf : Re_isLetter_6 K12 a0 σ = some (rr, σ')) : gx_Ev lay0 (E0 D) tt_88 (some (.int rr)) σ' 6 [.int a0] [] σ := by
  unfold Re_isLetter_6 at hf
  rcases z_if_inv hf with ⟨h1, hf⟩ | ⟨h1, hf⟩
  · obtain ⟨e1, e2⟩ := z_ret hf
    subst e1
    subst e2
    exact gx_end 5 [.inl 1] [a0 < (65 : Int32), (0 : Int32) &&& 1 = (0 : Int32)] rfl ⟨h1, rfl, trivial⟩
  · rcases z_if_inv hf with ⟨h2, hf⟩ | ⟨h2, hf⟩
    · obtain ⟨e1, e2⟩ := z_ret hf
      subst e1
      subst e2
      exact gx_end 8 [.inl 0, .inl 1] [¬ (a0 < (65 : Int32)), (90 : Int32) < a0, (0 : Int32) &&& 1 = (0 : Int32)] rfl ⟨h1, h2, rfl, trivial⟩
    · exact gx_go_ 6 [.inl 0, .inl 0] [¬ (a0 < (65 : Int32)), ¬ ((90 : Int32) < a0)] 12 [.int a0] [] σ rfl ⟨h1, h2, trivial⟩ (gx_fgt (ls' := [.null]) ⟨Or.inl rfl, trivial⟩ (hK12 σ hf))
set_option maxHeartbeats 16000000 in
set_option maxRecDepth 20000 in
theorem vv_Re_isLetter_12 (D : Nat) (hD : 1 ≤ D + 1) (rr : Int32) (σ' : gx_R) (σ : gx_R) (hf : Re_isLetter_12  σ = some (rr, σ')) : gx_Ev lay0 (E0 D) tt_88 (some (.int rr)) σ' 12 [.null] [] σ := by
  unfold Re_isLetter_12 at hf
  obtain ⟨e1, e2⟩ := z_ret hf
  subst e1
  subst e2
  exact gx_end 3 [] [(1 : Int32) &&& 1 = (1 : Int32)] rfl ⟨rfl, trivial⟩
set_option maxHeartbeats 16000000 in
set_option maxRecDepth 20000 in
theorem vv_Re_isLetter_E (D : Nat) (hD : 1 ≤ D + 1) (rr : Int32) (σ' : gx_R) (a0 : Int32) (σ : gx_R) (hf : Re_isLetter a0 σ = some (rr, σ')) : gx_Ev lay0 (E0 D) tt_88 (some (.int rr)) σ' 0 [.int a0] [] σ := by
  unfold Re_isLetter at hf
  rcases z_if_inv hf with ⟨h1, hf⟩ | ⟨h1, hf⟩
  · exact gx_go_ 3 [.inl 1] [a0 < (97 : Int32)] 6 [.int a0] [] σ rfl ⟨h1, trivial⟩ (gx_fgt (ls' := [.int a0]) ⟨Or.inr rfl, trivial⟩ (vv_Re_isLetter_6 D hD rr σ' (Re_isLetter_12) (vv_Re_isLetter_12 D hD rr σ') a0 σ hf))
  · rcases z_if_inv hf with ⟨h2, hf⟩ | ⟨h2, hf⟩
    · exact gx_go_ 6 [.inl 0, .inl 1] [¬ (a0 < (97 : Int32)), a0 ≤ (122 : Int32)] 12 [.int a0] [] σ rfl ⟨h1, h2, trivial⟩ (gx_fgt (ls' := [.null]) ⟨Or.inl rfl, trivial⟩ (vv_Re_isLetter_12 D hD rr σ' σ hf))
    · exact gx_go_ 6 [.inl 0, .inl 0] [¬ (a0 < (97 : Int32)), ¬ (a0 ≤ (122 : Int32))] 6 [.int a0] [] σ rfl ⟨h1, h2, trivial⟩ (gx_fgt (ls' := [.int a0]) ⟨Or.inr rfl, trivial⟩ (vv_Re_isLetter_6 D hD rr σ' (Re_isLetter_12) (vv_Re_isLetter_12 D hD rr σ') a0 σ hf))
set_option maxHeartbeats 16000000 in
set_option maxRecDepth 20000 in
theorem ww_Re_isLetter (D : Nat) (hD : 1 ≤ D) (a0 : Int32) (σ : gx_R) (rr : Int32) (σ' : gx_R) (hf : Re_isLetter a0 σ = some (rr, σ')) : E0 D 88 [.int a0] σ (some (.int rr)) σ' := by
  cases D with
  | zero => omega
  | succ D => exact Or.inl ⟨Nat.le_of_ble_eq_true rfl, vv_Re_isLetter_E D hD rr σ' a0 σ hf⟩
set_option maxHeartbeats 16000000 in
set_option maxRecDepth 20000 in
theorem vv_Re_byteAt_E (D : Nat) (hD : 1 ≤ D + 1) (rr : Int32) (σ' : gx_R) (a1 : Int32) (σ : gx_R) (hf : Re_byteAt a1 σ = some (rr, σ')) : gx_Ev lay0 (E0 D) tt_87 (some (.int rr)) σ' 0 [.ref 39, .int a1] [] σ := by
  unfold Re_byteAt at hf
  rcases z_if_inv hf with ⟨h1, hf⟩ | ⟨h1, hf⟩
  · obtain ⟨e1, e2⟩ := z_ret hf
    subst e1
    subst e2
    exact gx_end 4 [.inl 1] [a1 < 0] rfl ⟨h1, trivial⟩
  · rcases z_if_inv hf with ⟨h2, hf⟩ | ⟨h2, hf⟩
    · obtain ⟨e1, e2⟩ := z_ret hf
      subst e1
      subst e2
      exact gx_end 8 [.inl 0, .inl 1] [¬ (a1 < 0), (σ 39 1) ≤ a1] rfl ⟨h1, h2, trivial⟩
    · obtain ⟨h3, hf⟩ := z_ck_inv hf
      obtain ⟨e1, e2⟩ := z_ret hf
      subst e1
      subst e2
      exact gx_end 12 [.inl 0, .inl 0] [¬ (a1 < 0), ¬ ((σ 39 1) ≤ a1), vp_in a1 300] rfl ⟨h1, h2, (z_ix_in h3), trivial⟩
set_option maxHeartbeats 16000000 in
set_option maxRecDepth 20000 in
theorem ww_Re_byteAt (D : Nat) (hD : 1 ≤ D) (a1 : Int32) (σ : gx_R) (rr : Int32) (σ' : gx_R) (hf : Re_byteAt a1 σ = some (rr, σ')) : E0 D 87 [.ref 39, .int a1] σ (some (.int rr)) σ' := by
  cases D with
  | zero => omega
  | succ D => exact Or.inl ⟨Nat.le_of_ble_eq_true rfl, vv_Re_byteAt_E D hD rr σ' a1 σ hf⟩
set_option maxHeartbeats 16000000 in
set_option maxRecDepth 20000 in
theorem vv_Re_isWord_25 (D : Nat) (hD : 2 ≤ D + 1) (rr : Int32) (σ' : gx_R) (K12 : Int32 → Int32 → Int32 → Int32 → gx_R → Option (Int32 × gx_R)) (hK12 : ∀ (a1 : Int32) (a2 : Int32) (a3 : Int32) (a4 : Int32) (σ : gx_R), K12 a1 a2 a3 a4 σ = some (rr, σ') → gx_Ev lay0 (E0 D) tt_92 (some (.int rr)) σ' 12 [.ref 39, .int a1, .int a2, .int a3, .int a4, .null] [] σ) (a1 : Int32) (a2 : Int32) (a3 : Int32) (a4 : Int32) (s0 : Int32) (σ : gx_R) (hf : Re_isWord_25 K12 a1 a2 a3 a4 s0 σ = some (rr, σ')) : gx_Ev lay0 (E0 D) tt_92 (some (.int rr)) σ' 25 [.ref 39, .int a1, .int a2, .int a3, .int a4, .null] [.int s0] σ := by
  unfold Re_isWord_25 at hf
  obtain ⟨h1, hf⟩ := z_ck_inv hf
  rcases z_if_inv hf with ⟨h2, hf⟩ | ⟨h2, hf⟩
  · exact gx_go_ 12 [.inr (some (.ref 201), σ), .inr (some (.int (z_chAt ((a1 * (5 : Int32)) + a4))), σ), .inl 1] [E0 D 1002 [] σ (some (.ref 201)) σ, E0 D 1003 [.ref 201, .int ((a1 * (5 : Int32)) + a4)] σ (some (.int (z_chAt ((a1 * (5 : Int32)) + a4)))) σ, (z_chAt ((a1 * (5 : Int32)) + a4)) = s0] 12 [.ref 39, .int a1, .int a2, .int a3, .int (a4 + 1), .int s0] [] σ rfl ⟨(sp_1002 D σ (by omega)), (sp_1003 D σ ((a1 * (5 : Int32)) + a4) (by omega) h1), h2, trivial⟩ (gx_fgt (ls' := [.ref 39, .int a1, .int a2, .int a3, .int (a4 + 1), .null]) ⟨Or.inr rfl, Or.inr rfl, Or.inr rfl, Or.inr rfl, Or.inr rfl, Or.inl rfl, trivial⟩ (hK12 a1 a2 a3 (a4 + 1) σ hf))
  · obtain ⟨e1, e2⟩ := z_ret hf
    subst e1
    subst e2
    exact gx_end 12 [.inr (some (.ref 201), σ), .inr (some (.int (z_chAt ((a1 * (5 : Int32)) + a4))), σ), .inl 0] [E0 D 1002 [] σ (some (.ref 201)) σ, E0 D 1003 [.ref 201, .int ((a1 * (5 : Int32)) + a4)] σ (some (.int (z_chAt ((a1 * (5 : Int32)) + a4)))) σ, ¬ ((z_chAt ((a1 * (5 : Int32)) + a4)) = s0), (0 : Int32) &&& 1 = (0 : Int32)] rfl ⟨(sp_1002 D σ (by omega)), (sp_1003 D σ ((a1 * (5 : Int32)) + a4) (by omega) h1), h2, rfl, trivial⟩
set_option maxHeartbeats 16000000 in
set_option maxRecDepth 20000 in
theorem vv_Re_isWord_12_B (D : Nat) (hD : 2 ≤ D + 1) (rr : Int32) (σ' : gx_R) (K12 : Int32 → Int32 → Int32 → Int32 → gx_R → Option (Int32 × gx_R)) (hK12 : ∀ (a1 : Int32) (a2 : Int32) (a3 : Int32) (a4 : Int32) (σ : gx_R), K12 a1 a2 a3 a4 σ = some (rr, σ') → gx_Ev lay0 (E0 D) tt_92 (some (.int rr)) σ' 12 [.ref 39, .int a1, .int a2, .int a3, .int a4, .null] [] σ) (a1 : Int32) (a2 : Int32) (a3 : Int32) (a4 : Int32) (σ : gx_R) (hf : Re_isWord_12_B K12 a1 a2 a3 a4 σ = some (rr, σ')) : gx_Ev lay0 (E0 D) tt_92 (some (.int rr)) σ' 12 [.ref 39, .int a1, .int a2, .int a3, .int a4, .null] [] σ := by
  unfold Re_isWord_12_B at hf
  rcases z_if_inv hf with ⟨h1, hf⟩ | ⟨h1, hf⟩
  · obtain ⟨e1, e2⟩ := z_ret hf
    subst e1
    subst e2
    exact gx_end 5 [.inl 1] [(5 : Int32) ≤ a4, (1 : Int32) &&& 1 = (1 : Int32)] rfl ⟨h1, rfl, trivial⟩
  · rcases z_if_inv hf with ⟨h2, hf⟩ | ⟨h2, hf⟩
    · exact gx_go_ 7 [.inl 0, .inl 1] [¬ ((5 : Int32) ≤ a4), a3 ≤ a4] 25 [.ref 39, .int a1, .int a2, .int a3, .int a4, .null] [.int (32 : Int32)] σ rfl ⟨h1, h2, trivial⟩ (gx_fgt (ls' := [.ref 39, .int a1, .int a2, .int a3, .int a4, .null]) ⟨Or.inr rfl, Or.inr rfl, Or.inr rfl, Or.inr rfl, Or.inr rfl, Or.inl rfl, trivial⟩ (vv_Re_isWord_25 D hD rr σ' K12 hK12 a1 a2 a3 a4 (32 : Int32) σ hf))
    · obtain ⟨r3, σ4, h5, hf⟩ := z_bd_inv hf
      exact gx_go_ 12 [.inl 0, .inl 0, .inr (some (.int r3), σ4)] [¬ ((5 : Int32) ≤ a4), ¬ (a3 ≤ a4), E0 D 87 [.ref 39, .int (a2 + a4)] σ (some (.int r3)) σ4] 25 [.ref 39, .int a1, .int a2, .int a3, .int a4, .null] [.int r3] σ4 rfl ⟨h1, h2, (ww_Re_byteAt D (by omega) (a2 + a4) σ r3 σ4 h5), trivial⟩ (gx_fgt (ls' := [.ref 39, .int a1, .int a2, .int a3, .int a4, .null]) ⟨Or.inr rfl, Or.inr rfl, Or.inr rfl, Or.inr rfl, Or.inr rfl, Or.inl rfl, trivial⟩ (vv_Re_isWord_25 D hD rr σ' K12 hK12 a1 a2 a3 a4 r3 σ4 hf))
set_option maxHeartbeats 16000000 in
set_option maxRecDepth 20000 in
theorem vv_Re_isWord_12 (D : Nat) (hD : 2 ≤ D + 1) (rr : Int32) (σ' : gx_R) : ∀ (n : Nat) (a1 : Int32) (a2 : Int32) (a3 : Int32) (a4 : Int32) (σ : gx_R), Re_isWord_12 n a1 a2 a3 a4 σ = some (rr, σ') → gx_Ev lay0 (E0 D) tt_92 (some (.int rr)) σ' 12 [.ref 39, .int a1, .int a2, .int a3, .int a4, .null] [] σ := by
  intro n
  induction n with
  | zero => intro a1 a2 a3 a4 σ  hf; cases hf
  | succ n ih => intro a1 a2 a3 a4 σ  hf; exact vv_Re_isWord_12_B D hD rr σ'  (Re_isWord_12 n) ih a1 a2 a3 a4 σ  hf
set_option maxHeartbeats 16000000 in
set_option maxRecDepth 20000 in
theorem vv_Re_isWord_E (D : Nat) (hD : 2 ≤ D + 1) (rr : Int32) (σ' : gx_R) (a1 : Int32) (a2 : Int32) (σ : gx_R) (hf : Re_isWord a1 a2 σ = some (rr, σ')) : gx_Ev lay0 (E0 D) tt_92 (some (.int rr)) σ' 0 [.ref 39, .int a1, .int a2, .null, .null, .null] [] σ := by
  unfold Re_isWord at hf
  rcases z_if_inv hf with ⟨h1, hf⟩ | ⟨h1, hf⟩
  · exact gx_go_ 10 [.inl 1] [((σ 39 2) - a2) ≤ (5 : Int32)] 12 [.ref 39, .int a1, .int a2, .int ((σ 39 2) - a2), .int (0 : Int32), .null] [] σ rfl ⟨h1, trivial⟩ (gx_fgt (ls' := [.ref 39, .int a1, .int a2, .int ((σ 39 2) - a2), .int (0 : Int32), .null]) ⟨Or.inr rfl, Or.inr rfl, Or.inr rfl, Or.inr rfl, Or.inr rfl, Or.inl rfl, trivial⟩ (vv_Re_isWord_12 D hD rr σ' z_FU a1 a2 ((σ 39 2) - a2) (0 : Int32) σ hf))
  · obtain ⟨e1, e2⟩ := z_ret hf
    subst e1
    subst e2
    exact gx_end 10 [.inl 0] [¬ (((σ 39 2) - a2) ≤ (5 : Int32)), (0 : Int32) &&& 1 = (0 : Int32)] rfl ⟨h1, rfl, trivial⟩
set_option maxHeartbeats 16000000 in
set_option maxRecDepth 20000 in
theorem ww_Re_isWord (D : Nat) (hD : 2 ≤ D) (a1 : Int32) (a2 : Int32) (σ : gx_R) (rr : Int32) (σ' : gx_R) (hf : Re_isWord a1 a2 σ = some (rr, σ')) : E0 D 92 [.ref 39, .int a1, .int a2] σ (some (.int rr)) σ' := by
  cases D with
  | zero => omega
  | succ D => exact Or.inl ⟨Nat.le_of_ble_eq_true rfl, vv_Re_isWord_E D hD rr σ' a1 a2 σ hf⟩
set_option maxHeartbeats 16000000 in
set_option maxRecDepth 20000 in
theorem vv_Re_wordHere_24_B (D : Nat) (hD : 3 ≤ D + 1) (rr : Int32) (σ' : gx_R) (K24 : Int32 → Int32 → gx_R → Option (Int32 × gx_R)) (hK24 : ∀ (a1 : Int32) (a2 : Int32) (σ : gx_R), K24 a1 a2 σ = some (rr, σ') → gx_Ev lay0 (E0 D) tt_91 (some (.int rr)) σ' 24 [.ref 39, .int a1, .int a2] [] σ) (a1 : Int32) (a2 : Int32) (σ : gx_R) (hf : Re_wordHere_24_B K24 a1 a2 σ = some (rr, σ')) : gx_Ev lay0 (E0 D) tt_91 (some (.int rr)) σ' 24 [.ref 39, .int a1, .int a2] [] σ := by
  unfold Re_wordHere_24_B at hf
  rcases z_if_inv hf with ⟨h1, hf⟩ | ⟨h1, hf⟩
  · obtain ⟨e1, e2⟩ := z_ret hf
    subst e1
    subst e2
    exact gx_end 5 [.inl 1] [(30 : Int32) ≤ a2] rfl ⟨h1, trivial⟩
  · obtain ⟨r2, σ3, h4, hf⟩ := z_bd_inv hf
    rcases z_if_inv hf with ⟨h5, hf⟩ | ⟨h5, hf⟩
    · exact gx_go_ 10 [.inl 0, .inr (some (.int r2), σ3), .inl 1] [¬ ((30 : Int32) ≤ a2), E0 D 92 [.ref 39, .int a2, .int a1] σ (some (.int r2)) σ3, r2 = 0] 24 [.ref 39, .int a1, .int (a2 + 1)] [] σ3 rfl ⟨h1, (ww_Re_isWord D (by omega) a2 a1 σ r2 σ3 h4), h5, trivial⟩ (gx_fgt (ls' := [.ref 39, .int a1, .int (a2 + 1)]) ⟨Or.inr rfl, Or.inr rfl, Or.inr rfl, trivial⟩ (hK24 a1 (a2 + 1) σ3 hf))
    · obtain ⟨e1, e2⟩ := z_ret hf
      subst e1
      subst e2
      exact gx_end 10 [.inl 0, .inr (some (.int r2), σ3), .inl 0] [¬ ((30 : Int32) ≤ a2), E0 D 92 [.ref 39, .int a2, .int a1] σ (some (.int r2)) σ3, ¬ (r2 = 0)] rfl ⟨h1, (ww_Re_isWord D (by omega) a2 a1 σ r2 σ3 h4), h5, trivial⟩
set_option maxHeartbeats 16000000 in
set_option maxRecDepth 20000 in
theorem vv_Re_wordHere_24 (D : Nat) (hD : 3 ≤ D + 1) (rr : Int32) (σ' : gx_R) : ∀ (n : Nat) (a1 : Int32) (a2 : Int32) (σ : gx_R), Re_wordHere_24 n a1 a2 σ = some (rr, σ') → gx_Ev lay0 (E0 D) tt_91 (some (.int rr)) σ' 24 [.ref 39, .int a1, .int a2] [] σ := by
  intro n
  induction n with
  | zero => intro a1 a2 σ  hf; cases hf
  | succ n ih => intro a1 a2 σ  hf; exact vv_Re_wordHere_24_B D hD rr σ'  (Re_wordHere_24 n) ih a1 a2 σ  hf
set_option maxHeartbeats 16000000 in
set_option maxRecDepth 20000 in
theorem vv_Re_wordHere_22 (D : Nat) (hD : 3 ≤ D + 1) (rr : Int32) (σ' : gx_R) (a1 : Int32) (σ : gx_R) (hf : Re_wordHere_22 a1 σ = some (rr, σ')) : gx_Ev lay0 (E0 D) tt_91 (some (.int rr)) σ' 22 [.ref 39, .int a1, .null] [] σ := by
  unfold Re_wordHere_22 at hf
  exact gx_go_ 2 [] [] 24 [.ref 39, .int a1, .int (0 : Int32)] [] σ rfl trivial (gx_fgt (ls' := [.ref 39, .int a1, .int (0 : Int32)]) ⟨Or.inr rfl, Or.inr rfl, Or.inr rfl, trivial⟩ (vv_Re_wordHere_24 D hD rr σ' z_FU a1 (0 : Int32) σ hf))
set_option maxHeartbeats 16000000 in
set_option maxRecDepth 20000 in
theorem vv_Re_wordHere_3_B (D : Nat) (hD : 3 ≤ D + 1) (rr : Int32) (σ' : gx_R) (K3 : Int32 → gx_R → Option (Int32 × gx_R)) (hK3 : ∀ (a1 : Int32) (σ : gx_R), K3 a1 σ = some (rr, σ') → gx_Ev lay0 (E0 D) tt_91 (some (.int rr)) σ' 3 [.ref 39, .int a1, .null] [] σ) (a1 : Int32) (σ : gx_R) (hf : Re_wordHere_3_B K3 a1 σ = some (rr, σ')) : gx_Ev lay0 (E0 D) tt_91 (some (.int rr)) σ' 3 [.ref 39, .int a1, .null] [] σ := by
  unfold Re_wordHere_3_B at hf
  rcases z_if_inv hf with ⟨h1, hf⟩ | ⟨h1, hf⟩
  · exact gx_go_ 5 [.inl 1] [(σ 39 1) ≤ (σ 39 2)] 22 [.ref 39, .int a1, .null] [] σ rfl ⟨h1, trivial⟩ (gx_fgt (ls' := [.ref 39, .int a1, .null]) ⟨Or.inr rfl, Or.inr rfl, Or.inl rfl, trivial⟩ (vv_Re_wordHere_22 D hD rr σ' a1 σ hf))
  · obtain ⟨h2, hf⟩ := z_ck_inv hf
    obtain ⟨r3, σ4, h5, hf⟩ := z_bd_inv hf
    rcases z_if_inv hf with ⟨h6, hf⟩ | ⟨h6, hf⟩
    · exact gx_go_ 12 [.inl 0, .inr (some (.int r3), σ4), .inl 1] [¬ ((σ 39 1) ≤ (σ 39 2)), vp_in (σ 39 2) 300, E0 D 88 [.int (σ 38 ((σ 39 2).toNatClampNeg))] σ (some (.int r3)) σ4, r3 = 0] 22 [.ref 39, .int a1, .null] [] σ4 rfl ⟨h1, (z_ix_in h2), (ww_Re_isLetter D (by omega) (σ 38 ((σ 39 2).toNatClampNeg)) σ r3 σ4 h5), h6, trivial⟩ (gx_fgt (ls' := [.ref 39, .int a1, .null]) ⟨Or.inr rfl, Or.inr rfl, Or.inl rfl, trivial⟩ (vv_Re_wordHere_22 D hD rr σ' a1 σ4 hf))
    · exact gx_go_ 19 [.inl 0, .inr (some (.int r3), σ4), .inl 0] [¬ ((σ 39 1) ≤ (σ 39 2)), vp_in (σ 39 2) 300, E0 D 88 [.int (σ 38 ((σ 39 2).toNatClampNeg))] σ (some (.int r3)) σ4, ¬ (r3 = 0)] 3 [.ref 39, .int a1, .null] [] (gx_up σ4 39 2 ((σ4 39 2) + (1 : Int32))) rfl ⟨h1, (z_ix_in h2), (ww_Re_isLetter D (by omega) (σ 38 ((σ 39 2).toNatClampNeg)) σ r3 σ4 h5), h6, trivial⟩ (gx_fgt (ls' := [.ref 39, .int a1, .null]) ⟨Or.inr rfl, Or.inr rfl, Or.inl rfl, trivial⟩ (hK3 a1 (gx_up σ4 39 2 ((σ4 39 2) + (1 : Int32))) hf))
set_option maxHeartbeats 16000000 in
set_option maxRecDepth 20000 in
theorem vv_Re_wordHere_3 (D : Nat) (hD : 3 ≤ D + 1) (rr : Int32) (σ' : gx_R) : ∀ (n : Nat) (a1 : Int32) (σ : gx_R), Re_wordHere_3 n a1 σ = some (rr, σ') → gx_Ev lay0 (E0 D) tt_91 (some (.int rr)) σ' 3 [.ref 39, .int a1, .null] [] σ := by
  intro n
  induction n with
  | zero => intro a1 σ  hf; cases hf
  | succ n ih => intro a1 σ  hf; exact vv_Re_wordHere_3_B D hD rr σ'  (Re_wordHere_3 n) ih a1 σ  hf
set_option maxHeartbeats 16000000 in
set_option maxRecDepth 20000 in
theorem vv_Re_wordHere_E (D : Nat) (hD : 3 ≤ D + 1) (rr : Int32) (σ' : gx_R) (σ : gx_R) (hf : Re_wordHere  σ = some (rr, σ')) : gx_Ev lay0 (E0 D) tt_91 (some (.int rr)) σ' 0 [.ref 39, .null, .null] [] σ := by
  unfold Re_wordHere at hf
  exact gx_go_ 3 [] [] 3 [.ref 39, .int (σ 39 2), .null] [] σ rfl trivial (gx_fgt (ls' := [.ref 39, .int (σ 39 2), .null]) ⟨Or.inr rfl, Or.inr rfl, Or.inl rfl, trivial⟩ (vv_Re_wordHere_3 D hD rr σ' z_FU (σ 39 2) σ hf))
set_option maxHeartbeats 16000000 in
set_option maxRecDepth 20000 in
theorem ww_Re_wordHere (D : Nat) (hD : 3 ≤ D) (σ : gx_R) (rr : Int32) (σ' : gx_R) (hf : Re_wordHere  σ = some (rr, σ')) : E0 D 91 [.ref 39] σ (some (.int rr)) σ' := by
  cases D with
  | zero => omega
  | succ D => exact Or.inl ⟨Nat.le_of_ble_eq_true rfl, vv_Re_wordHere_E D hD rr σ' σ hf⟩
set_option maxHeartbeats 16000000 in
set_option maxRecDepth 20000 in
theorem vv_Re_isDigit_E (D : Nat) (hD : 1 ≤ D + 1) (rr : Int32) (σ' : gx_R) (a0 : Int32) (σ : gx_R) (hf : Re_isDigit a0 σ = some (rr, σ')) : gx_Ev lay0 (E0 D) tt_89 (some (.int rr)) σ' 0 [.int a0] [] σ := by
  unfold Re_isDigit at hf
  rcases z_if_inv hf with ⟨h1, hf⟩ | ⟨h1, hf⟩
  · obtain ⟨e1, e2⟩ := z_ret hf
    subst e1
    subst e2
    exact gx_end 5 [.inl 1] [a0 < (48 : Int32), (0 : Int32) &&& 1 = (0 : Int32)] rfl ⟨h1, rfl, trivial⟩
  · rcases z_if_inv hf with ⟨h2, hf⟩ | ⟨h2, hf⟩
    · obtain ⟨e1, e2⟩ := z_ret hf
      subst e1
      subst e2
      exact gx_end 8 [.inl 0, .inl 1] [¬ (a0 < (48 : Int32)), (57 : Int32) < a0, (0 : Int32) &&& 1 = (0 : Int32)] rfl ⟨h1, h2, rfl, trivial⟩
    · obtain ⟨e1, e2⟩ := z_ret hf
      subst e1
      subst e2
      exact gx_end 9 [.inl 0, .inl 0] [¬ (a0 < (48 : Int32)), ¬ ((57 : Int32) < a0), (1 : Int32) &&& 1 = (1 : Int32)] rfl ⟨h1, h2, rfl, trivial⟩
set_option maxHeartbeats 16000000 in
set_option maxRecDepth 20000 in
theorem ww_Re_isDigit (D : Nat) (hD : 1 ≤ D) (a0 : Int32) (σ : gx_R) (rr : Int32) (σ' : gx_R) (hf : Re_isDigit a0 σ = some (rr, σ')) : E0 D 89 [.int a0] σ (some (.int rr)) σ' := by
  cases D with
  | zero => omega
  | succ D => exact Or.inl ⟨Nat.le_of_ble_eq_true rfl, vv_Re_isDigit_E D hD rr σ' a0 σ hf⟩
set_option maxHeartbeats 16000000 in
set_option maxRecDepth 20000 in
theorem vv_Re_numberHere_35 (D : Nat) (hD : 2 ≤ D + 1) (rr : Int32) (σ' : gx_R) (a1 : Int32) (σ : gx_R) (hf : Re_numberHere_35 a1 σ = some (rr, σ')) : gx_Ev lay0 (E0 D) tt_93 (some (.int rr)) σ' 35 [.ref 39, .int a1] [] σ := by
  unfold Re_numberHere_35 at hf
  obtain ⟨h1, hf⟩ := z_ck_inv hf
  obtain ⟨e1, e2⟩ := z_ret hf
  subst e1
  subst e2
  exact gx_end 8 [] [vp_in (σ 39 6) 301] rfl ⟨(z_ix_in h1), trivial⟩
set_option maxHeartbeats 16000000 in
set_option maxRecDepth 20000 in
theorem vv_Re_numberHere_2_B (D : Nat) (hD : 2 ≤ D + 1) (rr : Int32) (σ' : gx_R) (K2 : Int32 → gx_R → Option (Int32 × gx_R)) (hK2 : ∀ (a1 : Int32) (σ : gx_R), K2 a1 σ = some (rr, σ') → gx_Ev lay0 (E0 D) tt_93 (some (.int rr)) σ' 2 [.ref 39, .int a1] [] σ) (a1 : Int32) (σ : gx_R) (hf : Re_numberHere_2_B K2 a1 σ = some (rr, σ')) : gx_Ev lay0 (E0 D) tt_93 (some (.int rr)) σ' 2 [.ref 39, .int a1] [] σ := by
  unfold Re_numberHere_2_B at hf
  rcases z_if_inv hf with ⟨h1, hf⟩ | ⟨h1, hf⟩
  · exact gx_go_ 5 [.inl 1] [(σ 39 1) ≤ (σ 39 2)] 35 [.ref 39, .int a1] [] σ rfl ⟨h1, trivial⟩ (gx_fgt (ls' := [.ref 39, .int a1]) ⟨Or.inr rfl, Or.inr rfl, trivial⟩ (vv_Re_numberHere_35 D hD rr σ' a1 σ hf))
  · obtain ⟨h2, hf⟩ := z_ck_inv hf
    obtain ⟨r3, σ4, h5, hf⟩ := z_bd_inv hf
    rcases z_if_inv hf with ⟨h6, hf⟩ | ⟨h6, hf⟩
    · exact gx_go_ 12 [.inl 0, .inr (some (.int r3), σ4), .inl 1] [¬ ((σ 39 1) ≤ (σ 39 2)), vp_in (σ 39 2) 300, E0 D 89 [.int (σ 38 ((σ 39 2).toNatClampNeg))] σ (some (.int r3)) σ4, r3 = 0] 35 [.ref 39, .int a1] [] σ4 rfl ⟨h1, (z_ix_in h2), (ww_Re_isDigit D (by omega) (σ 38 ((σ 39 2).toNatClampNeg)) σ r3 σ4 h5), h6, trivial⟩ (gx_fgt (ls' := [.ref 39, .int a1]) ⟨Or.inr rfl, Or.inr rfl, trivial⟩ (vv_Re_numberHere_35 D hD rr σ' a1 σ4 hf))
    · obtain ⟨h7, hf⟩ := z_ck_inv hf
      exact gx_go_ 33 [.inl 0, .inr (some (.int r3), σ4), .inl 0] [¬ ((σ 39 1) ≤ (σ 39 2)), vp_in (σ 39 2) 300, E0 D 89 [.int (σ 38 ((σ 39 2).toNatClampNeg))] σ (some (.int r3)) σ4, ¬ (r3 = 0), vp_in (σ4 39 2) 300] 2 [.ref 39, .int (if (10000 : Int32) < (((a1 * (10 : Int32)) + (σ4 38 ((σ4 39 2).toNatClampNeg))) - (48 : Int32)) then (10000 : Int32) else (((a1 * (10 : Int32)) + (σ4 38 ((σ4 39 2).toNatClampNeg))) - (48 : Int32)))] [] (gx_up σ4 39 2 ((σ4 39 2) + (1 : Int32))) rfl ⟨h1, (z_ix_in h2), (ww_Re_isDigit D (by omega) (σ 38 ((σ 39 2).toNatClampNeg)) σ r3 σ4 h5), h6, (z_ix_in h7), trivial⟩ (gx_fgt (ls' := [.ref 39, .int (if (10000 : Int32) < (((a1 * (10 : Int32)) + (σ4 38 ((σ4 39 2).toNatClampNeg))) - (48 : Int32)) then (10000 : Int32) else (((a1 * (10 : Int32)) + (σ4 38 ((σ4 39 2).toNatClampNeg))) - (48 : Int32)))]) ⟨Or.inr rfl, Or.inr rfl, trivial⟩ (hK2 (if (10000 : Int32) < (((a1 * (10 : Int32)) + (σ4 38 ((σ4 39 2).toNatClampNeg))) - (48 : Int32)) then (10000 : Int32) else (((a1 * (10 : Int32)) + (σ4 38 ((σ4 39 2).toNatClampNeg))) - (48 : Int32))) (gx_up σ4 39 2 ((σ4 39 2) + (1 : Int32))) hf))
set_option maxHeartbeats 16000000 in
set_option maxRecDepth 20000 in
theorem vv_Re_numberHere_2 (D : Nat) (hD : 2 ≤ D + 1) (rr : Int32) (σ' : gx_R) : ∀ (n : Nat) (a1 : Int32) (σ : gx_R), Re_numberHere_2 n a1 σ = some (rr, σ') → gx_Ev lay0 (E0 D) tt_93 (some (.int rr)) σ' 2 [.ref 39, .int a1] [] σ := by
  intro n
  induction n with
  | zero => intro a1 σ  hf; cases hf
  | succ n ih => intro a1 σ  hf; exact vv_Re_numberHere_2_B D hD rr σ'  (Re_numberHere_2 n) ih a1 σ  hf
set_option maxHeartbeats 16000000 in
set_option maxRecDepth 20000 in
theorem vv_Re_numberHere_E (D : Nat) (hD : 2 ≤ D + 1) (rr : Int32) (σ' : gx_R) (σ : gx_R) (hf : Re_numberHere  σ = some (rr, σ')) : gx_Ev lay0 (E0 D) tt_93 (some (.int rr)) σ' 0 [.ref 39, .null] [] σ := by
  unfold Re_numberHere at hf
  exact gx_go_ 2 [] [] 2 [.ref 39, .int (0 : Int32)] [] σ rfl trivial (gx_fgt (ls' := [.ref 39, .int (0 : Int32)]) ⟨Or.inr rfl, Or.inr rfl, trivial⟩ (vv_Re_numberHere_2 D hD rr σ' z_FU (0 : Int32) σ hf))
set_option maxHeartbeats 16000000 in
set_option maxRecDepth 20000 in
theorem ww_Re_numberHere (D : Nat) (hD : 2 ≤ D) (σ : gx_R) (rr : Int32) (σ' : gx_R) (hf : Re_numberHere  σ = some (rr, σ')) : E0 D 93 [.ref 39] σ (some (.int rr)) σ' := by
  cases D with
  | zero => omega
  | succ D => exact Or.inl ⟨Nat.le_of_ble_eq_true rfl, vv_Re_numberHere_E D hD rr σ' σ hf⟩
set_option maxHeartbeats 16000000 in
set_option maxRecDepth 20000 in
theorem vv_Re_signHere_24 (D : Nat) (hD : 2 ≤ D + 1) (rr : Int32) (σ' : gx_R) (K30 : Int32 → Int32 → gx_R → Option (Int32 × gx_R)) (hK30 : ∀ (a1 : Int32) (a2 : Int32) (σ : gx_R), K30 a1 a2 σ = some (rr, σ') → gx_Ev lay0 (E0 D) tt_94 (some (.int rr)) σ' 30 [.null, .int a1, .int a2] [] σ) (a1 : Int32) (a2 : Int32) (σ : gx_R) (hf : Re_signHere_24 K30 a1 a2 σ = some (rr, σ')) : gx_Ev lay0 (E0 D) tt_94 (some (.int rr)) σ' 24 [.ref 39, .int a1, .int a2] [] σ := by
  unfold Re_signHere_24 at hf
  exact gx_go_ 6 [] [] 30 [.ref 39, .int a1, .int a2] [] (gx_up σ 39 2 ((σ 39 2) + (1 : Int32))) rfl trivial (gx_fgt (ls' := [.null, .int a1, .int a2]) ⟨Or.inl rfl, Or.inr rfl, Or.inr rfl, trivial⟩ (hK30 a1 a2 (gx_up σ 39 2 ((σ 39 2) + (1 : Int32))) hf))
set_option maxHeartbeats 16000000 in
set_option maxRecDepth 20000 in
theorem vv_Re_signHere_30 (D : Nat) (hD : 2 ≤ D + 1) (rr : Int32) (σ' : gx_R) (a1 : Int32) (a2 : Int32) (σ : gx_R) (hf : Re_signHere_30 a1 a2 σ = some (rr, σ')) : gx_Ev lay0 (E0 D) tt_94 (some (.int rr)) σ' 30 [.null, .int a1, .int a2] [] σ := by
  unfold Re_signHere_30 at hf
  rcases z_if_inv hf with ⟨h1, hf⟩ | ⟨h1, hf⟩
  · obtain ⟨e1, e2⟩ := z_ret hf
    subst e1
    subst e2
    exact gx_end 4 [.inl 1] [a1.toInt = 35 + (0 : Nat)] rfl ⟨(z_sw_in h1 (by decide)), trivial⟩
  · skip
    rcases z_if_inv hf with ⟨h2, hf⟩ | ⟨h2, hf⟩
    · obtain ⟨e1, e2⟩ := z_ret hf
      subst e1
      subst e2
      exact gx_end 4 [.inl 6] [a1.toInt = 35 + (5 : Nat)] rfl ⟨(z_sw_in h2 (by decide)), trivial⟩
    · skip
      rcases z_if_inv hf with ⟨h3, hf⟩ | ⟨h3, hf⟩
      · obtain ⟨e1, e2⟩ := z_ret hf
        subst e1
        subst e2
        exact gx_end 4 [.inl 7] [a1.toInt = 35 + (6 : Nat)] rfl ⟨(z_sw_in h3 (by decide)), trivial⟩
      · skip
        rcases z_if_inv hf with ⟨h4, hf⟩ | ⟨h4, hf⟩
        · obtain ⟨e1, e2⟩ := z_ret hf
          subst e1
          subst e2
          exact gx_end 4 [.inl 8] [a1.toInt = 35 + (7 : Nat)] rfl ⟨(z_sw_in h4 (by decide)), trivial⟩
        · skip
          rcases z_if_inv hf with ⟨h5, hf⟩ | ⟨h5, hf⟩
          · obtain ⟨e1, e2⟩ := z_ret hf
            subst e1
            subst e2
            exact gx_end 4 [.inl 9] [a1.toInt = 35 + (8 : Nat)] rfl ⟨(z_sw_in h5 (by decide)), trivial⟩
          · skip
            rcases z_if_inv hf with ⟨h6, hf⟩ | ⟨h6, hf⟩
            · obtain ⟨e1, e2⟩ := z_ret hf
              subst e1
              subst e2
              exact gx_end 4 [.inl 11] [a1.toInt = 35 + (10 : Nat)] rfl ⟨(z_sw_in h6 (by decide)), trivial⟩
            · skip
              rcases z_if_inv hf with ⟨h7, hf⟩ | ⟨h7, hf⟩
              · obtain ⟨e1, e2⟩ := z_ret hf
                subst e1
                subst e2
                exact gx_end 4 [.inl 13] [a1.toInt = 35 + (12 : Nat)] rfl ⟨(z_sw_in h7 (by decide)), trivial⟩
              · skip
                rcases z_if_inv hf with ⟨h8, hf⟩ | ⟨h8, hf⟩
                · obtain ⟨e1, e2⟩ := z_ret hf
                  subst e1
                  subst e2
                  exact gx_end 4 [.inl 25] [a1.toInt = 35 + (24 : Nat)] rfl ⟨(z_sw_in h8 (by decide)), trivial⟩
                · skip
                  rcases z_if_inv hf with ⟨h9, hf⟩ | ⟨h9, hf⟩
                  · rcases z_if_inv hf with ⟨h10, hf⟩ | ⟨h10, hf⟩
                    · obtain ⟨e1, e2⟩ := z_ret hf
                      subst e1
                      subst e2
                      exact gx_end 6 [.inl 26, .inl 1] [a1.toInt = 35 + (25 : Nat), a2 = 0] rfl ⟨(z_sw_in h9 (by decide)), h10, trivial⟩
                    · obtain ⟨e1, e2⟩ := z_ret hf
                      subst e1
                      subst e2
                      exact gx_end 7 [.inl 26, .inl 0] [a1.toInt = 35 + (25 : Nat), ¬ (a2 = 0)] rfl ⟨(z_sw_in h9 (by decide)), h10, trivial⟩
                  · skip
                    rcases z_if_inv hf with ⟨h11, hf⟩ | ⟨h11, hf⟩
                    · obtain ⟨e1, e2⟩ := z_ret hf
                      subst e1
                      subst e2
                      exact gx_end 4 [.inl 27] [a1.toInt = 35 + (26 : Nat)] rfl ⟨(z_sw_in h11 (by decide)), trivial⟩
                    · skip
                      rcases z_if_inv hf with ⟨h12, hf⟩ | ⟨h12, hf⟩
                      · rcases z_if_inv hf with ⟨h13, hf⟩ | ⟨h13, hf⟩
                        · obtain ⟨e1, e2⟩ := z_ret hf
                          subst e1
                          subst e2
                          exact gx_end 6 [.inl 28, .inl 1] [a1.toInt = 35 + (27 : Nat), a2 = 0] rfl ⟨(z_sw_in h12 (by decide)), h13, trivial⟩
                        · obtain ⟨e1, e2⟩ := z_ret hf
                          subst e1
                          subst e2
                          exact gx_end 7 [.inl 28, .inl 0] [a1.toInt = 35 + (27 : Nat), ¬ (a2 = 0)] rfl ⟨(z_sw_in h12 (by decide)), h13, trivial⟩
                      · skip
                        refine gx_go_ 1 [] [] 31 [.null, .int a1, .int a2] [.int a1] σ rfl trivial ?_
                        refine gx_sw (td := 62) (tt := [46, 62, 62, 62, 62, 56, 58, 52, 48, 62, 50, 62, 54, 62, 62, 62, 62, 62, 62, 62, 62, 62, 62, 62, 60, 32, 44, 38]) (lo := 35) rfl rfl ?_
                        rw [gx_swt_df (td := 62) (tt := [46, 62, 62, 62, 62, 56, 58, 52, 48, 62, 50, 62, 54, 62, 62, 62, 62, 62, 62, 62, 62, 62, 62, 62, 60, 32, 44, 38]) (lo := 35) ⟨Or.inr (z_sw_ne h1 (by decide)), Or.inl rfl, Or.inl rfl, Or.inl rfl, Or.inl rfl, Or.inr (z_sw_ne h2 (by decide)), Or.inr (z_sw_ne h3 (by decide)), Or.inr (z_sw_ne h4 (by decide)), Or.inr (z_sw_ne h5 (by decide)), Or.inl rfl, Or.inr (z_sw_ne h6 (by decide)), Or.inl rfl, Or.inr (z_sw_ne h7 (by decide)), Or.inl rfl, Or.inl rfl, Or.inl rfl, Or.inl rfl, Or.inl rfl, Or.inl rfl, Or.inl rfl, Or.inl rfl, Or.inl rfl, Or.inl rfl, Or.inl rfl, Or.inr (z_sw_ne h8 (by decide)), Or.inr (z_sw_ne h9 (by decide)), Or.inr (z_sw_ne h11 (by decide)), Or.inr (z_sw_ne h12 (by decide)), trivial⟩]
                        obtain ⟨e1, e2⟩ := z_ret hf
                        subst e1
                        subst e2
                        exact gx_end 2 [] [] rfl trivial
set_option maxHeartbeats 16000000 in
set_option maxRecDepth 20000 in
theorem vv_Re_signHere_15 (D : Nat) (hD : 2 ≤ D + 1) (rr : Int32) (σ' : gx_R) (a1 : Int32) (s0 : Int32) (σ : gx_R) (hf : Re_signHere_15 a1 s0 σ = some (rr, σ')) : gx_Ev lay0 (E0 D) tt_94 (some (.int rr)) σ' 15 [.ref 39, .int a1, .null] [.int s0] σ := by
  unfold Re_signHere_15 at hf
  rcases z_if_inv hf with ⟨h1, hf⟩ | ⟨h1, hf⟩
  · exact gx_go_ 3 [.inl 1] [s0 = 0] 30 [.ref 39, .int a1, .int s0] [] σ rfl ⟨h1, trivial⟩ (gx_fgt (ls' := [.null, .int a1, .int s0]) ⟨Or.inl rfl, Or.inr rfl, Or.inr rfl, trivial⟩ (vv_Re_signHere_30 D hD rr σ' a1 s0 σ hf))
  · rcases z_if_inv hf with ⟨h2, hf⟩ | ⟨h2, hf⟩
    · exact gx_go_ 6 [.inl 0, .inl 1] [¬ (s0 = 0), a1 = (60 : Int32)] 24 [.ref 39, .int a1, .int s0] [] σ rfl ⟨h1, h2, trivial⟩ (gx_fgt (ls' := [.ref 39, .int a1, .int s0]) ⟨Or.inr rfl, Or.inr rfl, Or.inr rfl, trivial⟩ (vv_Re_signHere_24 D hD rr σ' (Re_signHere_30) (vv_Re_signHere_30 D hD rr σ') a1 s0 σ hf))
    · rcases z_if_inv hf with ⟨h3, hf⟩ | ⟨h3, hf⟩
      · exact gx_go_ 9 [.inl 0, .inl 0, .inl 0] [¬ (s0 = 0), ¬ (a1 = (60 : Int32)), ¬ ¬ (a1 = (62 : Int32))] 24 [.ref 39, .int a1, .int s0] [] σ rfl ⟨h1, h2, (fun q => q h3), trivial⟩ (gx_fgt (ls' := [.ref 39, .int a1, .int s0]) ⟨Or.inr rfl, Or.inr rfl, Or.inr rfl, trivial⟩ (vv_Re_signHere_24 D hD rr σ' (Re_signHere_30) (vv_Re_signHere_30 D hD rr σ') a1 s0 σ hf))
      · exact gx_go_ 9 [.inl 0, .inl 0, .inl 1] [¬ (s0 = 0), ¬ (a1 = (60 : Int32)), ¬ (a1 = (62 : Int32))] 30 [.ref 39, .int a1, .int s0] [] σ rfl ⟨h1, h2, h3, trivial⟩ (gx_fgt (ls' := [.null, .int a1, .int s0]) ⟨Or.inl rfl, Or.inr rfl, Or.inr rfl, trivial⟩ (vv_Re_signHere_30 D hD rr σ' a1 s0 σ hf))
set_option maxHeartbeats 16000000 in
set_option maxRecDepth 20000 in
theorem vv_Re_signHere_E (D : Nat) (hD : 2 ≤ D + 1) (rr : Int32) (σ' : gx_R) (a1 : Int32) (σ : gx_R) (hf : Re_signHere a1 σ = some (rr, σ')) : gx_Ev lay0 (E0 D) tt_94 (some (.int rr)) σ' 0 [.ref 39, .int a1, .null] [] σ := by
  unfold Re_signHere at hf
  obtain ⟨r1, σ2, h3, hf⟩ := z_bd_inv hf
  rcases z_if_inv hf with ⟨h4, hf⟩ | ⟨h4, hf⟩
  · exact gx_go_ 14 [.inr (some (.int r1), σ2), .inl 0] [E0 D 87 [.ref 39, .int ((gx_up σ 39 2 ((σ 39 2) + (1 : Int32))) 39 2)] (gx_up σ 39 2 ((σ 39 2) + (1 : Int32))) (some (.int r1)) σ2, ¬ ¬ (r1 = (61 : Int32))] 15 [.ref 39, .int a1, .null] [.int (1 : Int32)] σ2 rfl ⟨(ww_Re_byteAt D (by omega) ((gx_up σ 39 2 ((σ 39 2) + (1 : Int32))) 39 2) (gx_up σ 39 2 ((σ 39 2) + (1 : Int32))) r1 σ2 h3), (fun q => q h4), trivial⟩ (gx_fgt (ls' := [.ref 39, .int a1, .null]) ⟨Or.inr rfl, Or.inr rfl, Or.inl rfl, trivial⟩ (vv_Re_signHere_15 D hD rr σ' a1 (1 : Int32) σ2 hf))
  · exact gx_go_ 13 [.inr (some (.int r1), σ2), .inl 1] [E0 D 87 [.ref 39, .int ((gx_up σ 39 2 ((σ 39 2) + (1 : Int32))) 39 2)] (gx_up σ 39 2 ((σ 39 2) + (1 : Int32))) (some (.int r1)) σ2, ¬ (r1 = (61 : Int32))] 15 [.ref 39, .int a1, .null] [.int (0 : Int32)] σ2 rfl ⟨(ww_Re_byteAt D (by omega) ((gx_up σ 39 2 ((σ 39 2) + (1 : Int32))) 39 2) (gx_up σ 39 2 ((σ 39 2) + (1 : Int32))) r1 σ2 h3), h4, trivial⟩ (gx_fgt (ls' := [.ref 39, .int a1, .null]) ⟨Or.inr rfl, Or.inr rfl, Or.inl rfl, trivial⟩ (vv_Re_signHere_15 D hD rr σ' a1 (0 : Int32) σ2 hf))
set_option maxHeartbeats 16000000 in
set_option maxRecDepth 20000 in
theorem ww_Re_signHere (D : Nat) (hD : 2 ≤ D) (a1 : Int32) (σ : gx_R) (rr : Int32) (σ' : gx_R) (hf : Re_signHere a1 σ = some (rr, σ')) : E0 D 94 [.ref 39, .int a1] σ (some (.int rr)) σ' := by
  cases D with
  | zero => omega
  | succ D => exact Or.inl ⟨Nat.le_of_ble_eq_true rfl, vv_Re_signHere_E D hD rr σ' a1 σ hf⟩
set_option maxHeartbeats 16000000 in
set_option maxRecDepth 20000 in
theorem vv_Re_split_61 (D : Nat) (hD : 4 ≤ D + 1) (rr : Unit) (σ' : gx_R) (K68 : Int32 → gx_R → Option (Unit × gx_R)) (hK68 : ∀ (a1 : Int32) (σ : gx_R), K68 a1 σ = some (rr, σ') → gx_Ev lay0 (E0 D) tt_90 none σ' 68 [.ref 39, .int a1, .null] [] σ) (a1 : Int32) (s1 : Int32) (s2 : Int32) (σ : gx_R) (hf : Re_split_61 K68 a1 s1 s2 σ = some (rr, σ')) : gx_Ev lay0 (E0 D) tt_90 none σ' 61 [.ref 39, .int a1, .null] [.int s2, .int s1, .ref 40] σ := by
  unfold Re_split_61 at hf
  obtain ⟨h1, hf⟩ := z_ck_inv hf
  exact gx_go_ 7 [] [vp_in s1 301] 68 [.ref 39, .int a1, .null] [] (gx_up (gx_up σ 40 s1.toNatClampNeg s2) 39 6 (((gx_up σ 40 s1.toNatClampNeg s2) 39 6) + (1 : Int32))) rfl ⟨(z_ix_in h1), trivial⟩ (gx_fgt (ls' := [.ref 39, .int a1, .null]) ⟨Or.inr rfl, Or.inr rfl, Or.inl rfl, trivial⟩ (hK68 a1 (gx_up (gx_up σ 40 s1.toNatClampNeg s2) 39 6 (((gx_up σ 40 s1.toNatClampNeg s2) 39 6) + (1 : Int32))) hf))
set_option maxHeartbeats 16000000 in
set_option maxRecDepth 20000 in
theorem vv_Re_split_28 (D : Nat) (hD : 4 ≤ D + 1) (rr : Unit) (σ' : gx_R) (K68 : Int32 → gx_R → Option (Unit × gx_R)) (hK68 : ∀ (a1 : Int32) (σ : gx_R), K68 a1 σ = some (rr, σ') → gx_Ev lay0 (E0 D) tt_90 none σ' 68 [.ref 39, .int a1, .null] [] σ) (a1 : Int32) (σ : gx_R) (hf : Re_split_28 K68 a1 σ = some (rr, σ')) : gx_Ev lay0 (E0 D) tt_90 none σ' 28 [.ref 39, .int a1, .null] [] σ := by
  unfold Re_split_28 at hf
  exact gx_go_ 7 [] [] 68 [.ref 39, .int a1, .null] [] (gx_up σ 39 2 ((σ 39 2) + (1 : Int32))) rfl trivial (gx_fgt (ls' := [.ref 39, .int a1, .null]) ⟨Or.inr rfl, Or.inr rfl, Or.inl rfl, trivial⟩ (hK68 a1 (gx_up σ 39 2 ((σ 39 2) + (1 : Int32))) hf))
set_option maxHeartbeats 16000000 in
set_option maxRecDepth 20000 in
theorem vv_Re_split_68 (D : Nat) (hD : 4 ≤ D + 1) (rr : Unit) (σ' : gx_R) (K8 : Int32 → gx_R → Option (Unit × gx_R)) (hK8 : ∀ (a1 : Int32) (σ : gx_R), K8 a1 σ = some (rr, σ') → gx_Ev lay0 (E0 D) tt_90 none σ' 8 [.ref 39, .int a1, .null] [] σ) (a1 : Int32) (σ : gx_R) (hf : Re_split_68 K8 a1 σ = some (rr, σ')) : gx_Ev lay0 (E0 D) tt_90 none σ' 68 [.ref 39, .int a1, .null] [] σ := by
  unfold Re_split_68 at hf
  exact gx_go_ 2 [] [] 8 [.ref 39, .int (a1 + 1), .null] [] σ rfl trivial (gx_fgt (ls' := [.ref 39, .int (a1 + 1), .null]) ⟨Or.inr rfl, Or.inr rfl, Or.inl rfl, trivial⟩ (hK8 (a1 + 1) σ hf))
set_option maxHeartbeats 16000000 in
set_option maxRecDepth 20000 in
theorem vv_Re_split_70 (D : Nat) (hD : 4 ≤ D + 1) (rr : Unit) (σ' : gx_R) (σ : gx_R) (hf : Re_split_70  σ = some (rr, σ')) : gx_Ev lay0 (E0 D) tt_90 none σ' 70 [.ref 39, .null, .null] [] σ := by
  unfold Re_split_70 at hf
  obtain ⟨h1, hf⟩ := z_ck_inv hf
  obtain ⟨h2, hf⟩ := z_ck_inv hf
  obtain ⟨e1, e2⟩ := z_ret hf
  subst e1
  subst e2
  exact gx_end 20 [] [vp_in (σ 39 6) 301, vp_in ((gx_up σ 41 (σ 39 6).toNatClampNeg (σ 39 1)) 39 6) 301] rfl ⟨(z_ix_in h1), (z_ix_in h2), trivial⟩
set_option maxHeartbeats 16000000 in
set_option maxRecDepth 20000 in
theorem vv_Re_split_8_B (D : Nat) (hD : 4 ≤ D + 1) (rr : Unit) (σ' : gx_R) (K8 : Int32 → gx_R → Option (Unit × gx_R)) (hK8 : ∀ (a1 : Int32) (σ : gx_R), K8 a1 σ = some (rr, σ') → gx_Ev lay0 (E0 D) tt_90 none σ' 8 [.ref 39, .int a1, .null] [] σ) (a1 : Int32) (σ : gx_R) (hf : Re_split_8_B K8 a1 σ = some (rr, σ')) : gx_Ev lay0 (E0 D) tt_90 none σ' 8 [.ref 39, .int a1, .null] [] σ := by
  unfold Re_split_8_B at hf
  rcases z_if_inv hf with ⟨h1, hf⟩ | ⟨h1, hf⟩
  · exact gx_go_ 3 [.inl 1] [(300 : Int32) < a1] 70 [.ref 39, .int a1, .null] [] σ rfl ⟨h1, trivial⟩ (gx_fgt (ls' := [.ref 39, .null, .null]) ⟨Or.inr rfl, Or.inl rfl, Or.inl rfl, trivial⟩ (vv_Re_split_70 D hD rr σ' σ hf))
  · rcases z_if_inv hf with ⟨h2, hf⟩ | ⟨h2, hf⟩
    · exact gx_go_ 8 [.inl 0, .inl 1] [¬ ((300 : Int32) < a1), (σ 39 1) ≤ (σ 39 2)] 70 [.ref 39, .int a1, .null] [] σ rfl ⟨h1, h2, trivial⟩ (gx_fgt (ls' := [.ref 39, .null, .null]) ⟨Or.inr rfl, Or.inl rfl, Or.inl rfl, trivial⟩ (vv_Re_split_70 D hD rr σ' σ hf))
    · obtain ⟨h3, hf⟩ := z_ck_inv hf
      rcases z_if_inv hf with ⟨h4, hf⟩ | ⟨h4, hf⟩
      · exact gx_go_ 17 [.inl 0, .inl 0, .inl 1] [¬ ((300 : Int32) < a1), ¬ ((σ 39 1) ≤ (σ 39 2)), vp_in (σ 39 2) 300, (σ 38 ((σ 39 2).toNatClampNeg)) = (32 : Int32)] 28 [.ref 39, .int a1, .int (σ 38 ((σ 39 2).toNatClampNeg))] [] σ rfl ⟨h1, h2, (z_ix_in h3), h4, trivial⟩ (gx_fgt (ls' := [.ref 39, .int a1, .null]) ⟨Or.inr rfl, Or.inr rfl, Or.inl rfl, trivial⟩ (vv_Re_split_28 D hD rr σ' (Re_split_68 K8) (vv_Re_split_68 D hD rr σ' K8 hK8) a1 σ hf))
      · rcases z_if_inv hf with ⟨h5, hf⟩ | ⟨h5, hf⟩
        · exact gx_go_ 20 [.inl 0, .inl 0, .inl 0, .inl 0] [¬ ((300 : Int32) < a1), ¬ ((σ 39 1) ≤ (σ 39 2)), vp_in (σ 39 2) 300, ¬ ((σ 38 ((σ 39 2).toNatClampNeg)) = (32 : Int32)), ¬ ¬ ((σ 38 ((σ 39 2).toNatClampNeg)) = (10 : Int32))] 28 [.ref 39, .int a1, .int (σ 38 ((σ 39 2).toNatClampNeg))] [] σ rfl ⟨h1, h2, (z_ix_in h3), h4, (fun q => q h5), trivial⟩ (gx_fgt (ls' := [.ref 39, .int a1, .null]) ⟨Or.inr rfl, Or.inr rfl, Or.inl rfl, trivial⟩ (vv_Re_split_28 D hD rr σ' (Re_split_68 K8) (vv_Re_split_68 D hD rr σ' K8 hK8) a1 σ hf))
        · obtain ⟨h6, hf⟩ := z_ck_inv hf
          obtain ⟨r7, σ8, h9, hf⟩ := z_bd_inv hf
          rcases z_if_inv hf with ⟨h10, hf⟩ | ⟨h10, hf⟩
          · obtain ⟨r11, σ12, h13, hf⟩ := z_bd_inv hf
            rcases z_if_inv hf with ⟨h14, hf⟩ | ⟨h14, hf⟩
            · obtain ⟨r15, σ16, h17, hf⟩ := z_bd_inv hf
              exact gx_go_ 40 [.inl 0, .inl 0, .inl 0, .inl 1, .inr (some (.int r7), σ8), .inl 1, .inr (some (.int r11), σ12), .inl 1, .inr (some (.int r15), σ16)] [¬ ((300 : Int32) < a1), ¬ ((σ 39 1) ≤ (σ 39 2)), vp_in (σ 39 2) 300, ¬ ((σ 38 ((σ 39 2).toNatClampNeg)) = (32 : Int32)), ¬ ((σ 38 ((σ 39 2).toNatClampNeg)) = (10 : Int32)), vp_in (σ 39 6) 301, E0 D 88 [.int (σ 38 ((σ 39 2).toNatClampNeg))] (gx_up σ 41 (σ 39 6).toNatClampNeg (σ 39 2)) (some (.int r7)) σ8, r7 = 0, E0 D 89 [.int (σ 38 ((σ 39 2).toNatClampNeg))] σ8 (some (.int r11)) σ12, r11 = 0, E0 D 94 [.ref 39, .int (σ 38 ((σ 39 2).toNatClampNeg))] σ12 (some (.int r15)) σ16] 61 [.ref 39, .int a1, .int (σ 38 ((σ 39 2).toNatClampNeg))] [.int r15, .int ((gx_up σ 41 (σ 39 6).toNatClampNeg (σ 39 2)) 39 6), .ref 40] σ16 rfl ⟨h1, h2, (z_ix_in h3), h4, h5, (z_ix_in h6), (ww_Re_isLetter D (by omega) (σ 38 ((σ 39 2).toNatClampNeg)) (gx_up σ 41 (σ 39 6).toNatClampNeg (σ 39 2)) r7 σ8 h9), h10, (ww_Re_isDigit D (by omega) (σ 38 ((σ 39 2).toNatClampNeg)) σ8 r11 σ12 h13), h14, (ww_Re_signHere D (by omega) (σ 38 ((σ 39 2).toNatClampNeg)) σ12 r15 σ16 h17), trivial⟩ (gx_fgt (ls' := [.ref 39, .int a1, .null]) ⟨Or.inr rfl, Or.inr rfl, Or.inl rfl, trivial⟩ (vv_Re_split_61 D hD rr σ' (Re_split_68 K8) (vv_Re_split_68 D hD rr σ' K8 hK8) a1 ((gx_up σ 41 (σ 39 6).toNatClampNeg (σ 39 2)) 39 6) r15 σ16 hf))
            · obtain ⟨r18, σ19, h20, hf⟩ := z_bd_inv hf
              exact gx_go_ 40 [.inl 0, .inl 0, .inl 0, .inl 1, .inr (some (.int r7), σ8), .inl 1, .inr (some (.int r11), σ12), .inl 0, .inr (some (.int r18), σ19)] [¬ ((300 : Int32) < a1), ¬ ((σ 39 1) ≤ (σ 39 2)), vp_in (σ 39 2) 300, ¬ ((σ 38 ((σ 39 2).toNatClampNeg)) = (32 : Int32)), ¬ ((σ 38 ((σ 39 2).toNatClampNeg)) = (10 : Int32)), vp_in (σ 39 6) 301, E0 D 88 [.int (σ 38 ((σ 39 2).toNatClampNeg))] (gx_up σ 41 (σ 39 6).toNatClampNeg (σ 39 2)) (some (.int r7)) σ8, r7 = 0, E0 D 89 [.int (σ 38 ((σ 39 2).toNatClampNeg))] σ8 (some (.int r11)) σ12, ¬ (r11 = 0), E0 D 93 [.ref 39] σ12 (some (.int r18)) σ19] 61 [.ref 39, .int a1, .int (σ 38 ((σ 39 2).toNatClampNeg))] [.int r18, .int ((gx_up σ 41 (σ 39 6).toNatClampNeg (σ 39 2)) 39 6), .ref 40] σ19 rfl ⟨h1, h2, (z_ix_in h3), h4, h5, (z_ix_in h6), (ww_Re_isLetter D (by omega) (σ 38 ((σ 39 2).toNatClampNeg)) (gx_up σ 41 (σ 39 6).toNatClampNeg (σ 39 2)) r7 σ8 h9), h10, (ww_Re_isDigit D (by omega) (σ 38 ((σ 39 2).toNatClampNeg)) σ8 r11 σ12 h13), h14, (ww_Re_numberHere D (by omega) σ12 r18 σ19 h20), trivial⟩ (gx_fgt (ls' := [.ref 39, .int a1, .null]) ⟨Or.inr rfl, Or.inr rfl, Or.inl rfl, trivial⟩ (vv_Re_split_61 D hD rr σ' (Re_split_68 K8) (vv_Re_split_68 D hD rr σ' K8 hK8) a1 ((gx_up σ 41 (σ 39 6).toNatClampNeg (σ 39 2)) 39 6) r18 σ19 hf))
          · obtain ⟨r21, σ22, h23, hf⟩ := z_bd_inv hf
            exact gx_go_ 37 [.inl 0, .inl 0, .inl 0, .inl 1, .inr (some (.int r7), σ8), .inl 0, .inr (some (.int r21), σ22)] [¬ ((300 : Int32) < a1), ¬ ((σ 39 1) ≤ (σ 39 2)), vp_in (σ 39 2) 300, ¬ ((σ 38 ((σ 39 2).toNatClampNeg)) = (32 : Int32)), ¬ ((σ 38 ((σ 39 2).toNatClampNeg)) = (10 : Int32)), vp_in (σ 39 6) 301, E0 D 88 [.int (σ 38 ((σ 39 2).toNatClampNeg))] (gx_up σ 41 (σ 39 6).toNatClampNeg (σ 39 2)) (some (.int r7)) σ8, ¬ (r7 = 0), E0 D 91 [.ref 39] σ8 (some (.int r21)) σ22] 61 [.ref 39, .int a1, .int (σ 38 ((σ 39 2).toNatClampNeg))] [.int r21, .int ((gx_up σ 41 (σ 39 6).toNatClampNeg (σ 39 2)) 39 6), .ref 40] σ22 rfl ⟨h1, h2, (z_ix_in h3), h4, h5, (z_ix_in h6), (ww_Re_isLetter D (by omega) (σ 38 ((σ 39 2).toNatClampNeg)) (gx_up σ 41 (σ 39 6).toNatClampNeg (σ 39 2)) r7 σ8 h9), h10, (ww_Re_wordHere D (by omega) σ8 r21 σ22 h23), trivial⟩ (gx_fgt (ls' := [.ref 39, .int a1, .null]) ⟨Or.inr rfl, Or.inr rfl, Or.inl rfl, trivial⟩ (vv_Re_split_61 D hD rr σ' (Re_split_68 K8) (vv_Re_split_68 D hD rr σ' K8 hK8) a1 ((gx_up σ 41 (σ 39 6).toNatClampNeg (σ 39 2)) 39 6) r21 σ22 hf))
set_option maxHeartbeats 16000000 in
set_option maxRecDepth 20000 in
theorem vv_Re_split_8 (D : Nat) (hD : 4 ≤ D + 1) (rr : Unit) (σ' : gx_R) : ∀ (n : Nat) (a1 : Int32) (σ : gx_R), Re_split_8 n a1 σ = some (rr, σ') → gx_Ev lay0 (E0 D) tt_90 none σ' 8 [.ref 39, .int a1, .null] [] σ := by
  intro n
  induction n with
  | zero => intro a1 σ  hf; cases hf
  | succ n ih => intro a1 σ  hf; exact vv_Re_split_8_B D hD rr σ'  (Re_split_8 n) ih a1 σ  hf
set_option maxHeartbeats 16000000 in
set_option maxRecDepth 20000 in
theorem vv_Re_split_E (D : Nat) (hD : 4 ≤ D + 1) (rr : Unit) (σ' : gx_R) (σ : gx_R) (hf : Re_split  σ = some (rr, σ')) : gx_Ev lay0 (E0 D) tt_90 none σ' 0 [.ref 39, .null, .null] [] σ := by
  unfold Re_split at hf
  exact gx_go_ 8 [] [] 8 [.ref 39, .int (0 : Int32), .null] [] (gx_up (gx_up σ 39 2 (0 : Int32)) 39 6 (0 : Int32)) rfl trivial (gx_fgt (ls' := [.ref 39, .int (0 : Int32), .null]) ⟨Or.inr rfl, Or.inr rfl, Or.inl rfl, trivial⟩ (vv_Re_split_8 D hD rr σ' z_FU (0 : Int32) (gx_up (gx_up σ 39 2 (0 : Int32)) 39 6 (0 : Int32)) hf))
set_option maxHeartbeats 16000000 in
set_option maxRecDepth 20000 in
theorem ww_Re_split (D : Nat) (hD : 4 ≤ D) (σ : gx_R) (rr : Unit) (σ' : gx_R) (hf : Re_split  σ = some (rr, σ')) : E0 D 90 [.ref 39] σ none σ' := by
  cases D with
  | zero => omega
  | succ D => exact Or.inl ⟨Nat.le_of_ble_eq_true rfl, vv_Re_split_E D hD rr σ' σ hf⟩
set_option maxHeartbeats 16000000 in
set_option maxRecDepth 20000 in
theorem vv_Re_refuse_E (D : Nat) (hD : 1 ≤ D + 1) (rr : Int32) (σ' : gx_R) (a1 : Int32) (σ : gx_R) (hf : Re_refuse a1 σ = some (rr, σ')) : gx_Ev lay0 (E0 D) tt_72 (some (.int rr)) σ' 0 [.ref 39, .int a1] [] σ := by
  unfold Re_refuse at hf
  obtain ⟨h1, hf⟩ := z_ck_inv hf
  obtain ⟨e1, e2⟩ := z_ret hf
  subst e1
  subst e2
  exact gx_end 12 [] [vp_in ((gx_up σ 39 11 a1) 39 7) 301, (0 : Int32) &&& 1 = (0 : Int32)] rfl ⟨(z_ix_in h1), rfl, trivial⟩
set_option maxHeartbeats 16000000 in
set_option maxRecDepth 20000 in
theorem ww_Re_refuse (D : Nat) (hD : 1 ≤ D) (a1 : Int32) (σ : gx_R) (rr : Int32) (σ' : gx_R) (hf : Re_refuse a1 σ = some (rr, σ')) : E0 D 72 [.ref 39, .int a1] σ (some (.int rr)) σ' := by
  cases D with
  | zero => omega
  | succ D => exact Or.inl ⟨Nat.le_of_ble_eq_true rfl, vv_Re_refuse_E D hD rr σ' a1 σ hf⟩
set_option maxHeartbeats 16000000 in
set_option maxRecDepth 20000 in
theorem vv_Re_advance_E (D : Nat) (hD : 1 ≤ D + 1) (rr : Unit) (σ' : gx_R) (σ : gx_R) (hf : Re_advance  σ = some (rr, σ')) : gx_Ev lay0 (E0 D) tt_71 none σ' 0 [.ref 39] [] σ := by
  unfold Re_advance at hf
  obtain ⟨h1, hf⟩ := z_ck_inv hf
  obtain ⟨e1, e2⟩ := z_ret hf
  subst e1
  subst e2
  exact gx_end 19 [] [vp_in ((gx_up σ 39 7 (if ((σ 39 6) - (1 : Int32)) < ((σ 39 7) + (1 : Int32)) then ((σ 39 6) - (1 : Int32)) else ((σ 39 7) + (1 : Int32)))) 39 7) 301] rfl ⟨(z_ix_in h1), trivial⟩
set_option maxHeartbeats 16000000 in
set_option maxRecDepth 20000 in
theorem ww_Re_advance (D : Nat) (hD : 1 ≤ D) (σ : gx_R) (rr : Unit) (σ' : gx_R) (hf : Re_advance  σ = some (rr, σ')) : E0 D 71 [.ref 39] σ none σ' := by
  cases D with
  | zero => omega
  | succ D => exact Or.inl ⟨Nat.le_of_ble_eq_true rfl, vv_Re_advance_E D hD rr σ' σ hf⟩
set_option maxHeartbeats 16000000 in
set_option maxRecDepth 20000 in
theorem vv_Re_plainNumber_E (D : Nat) (hD : 2 ≤ D + 1) (rr : Int32) (σ' : gx_R) (σ : gx_R) (hf : Re_plainNumber  σ = some (rr, σ')) : gx_Ev lay0 (E0 D) tt_81 (some (.int rr)) σ' 0 [.ref 39] [] σ := by
  unfold Re_plainNumber at hf
  obtain ⟨h1, hf⟩ := z_ck_inv hf
  rcases z_if_inv hf with ⟨h2, hf⟩ | ⟨h2, hf⟩
  · obtain ⟨h3, hf⟩ := z_ck_inv hf
    obtain ⟨⟨⟩, σ5, h6, hf⟩ := z_bd_inv hf
    obtain ⟨⟨⟩, σ8, h9, hf⟩ := z_bd_inv hf
    obtain ⟨e1, e2⟩ := z_ret hf
    subst e1
    subst e2
    exact gx_end 23 [.inl 1, .inr (none, σ5), .inr (none, σ8)] [vp_in (σ 39 7) 301, (σ 42 ((σ 39 7).toNatClampNeg)) ≤ (9999 : Int32), vp_in (σ 39 7) 301, E0 D 16 [.ref 43, .int (((σ 42 ((σ 39 7).toNatClampNeg)) * (64 : Int32)) + (30 : Int32))] σ (none) σ5, E0 D 71 [.ref 39] σ5 (none) σ8, (1 : Int32) &&& 1 = (1 : Int32)] rfl ⟨(z_ix_in h1), h2, (z_ix_in h3), (ww_Te_put D (by omega) (((σ 42 ((σ 39 7).toNatClampNeg)) * (64 : Int32)) + (30 : Int32)) σ () σ5 h6), (ww_Re_advance D (by omega) σ5 () σ8 h9), rfl, trivial⟩
  · obtain ⟨r10, σ11, h12, hf⟩ := z_bd_inv hf
    obtain ⟨h13, hf⟩ := z_ck_inv hf
    obtain ⟨e1, e2⟩ := z_ret hf
    subst e1
    subst e2
    exact gx_end 11 [.inl 0, .inr (some (.int r10), σ11)] [vp_in (σ 39 7) 301, ¬ ((σ 42 ((σ 39 7).toNatClampNeg)) ≤ (9999 : Int32)), E0 D 72 [.ref 39, .int (2 : Int32)] σ (some (.int r10)) σ11, r10 &&& 1 = r10] rfl ⟨(z_ix_in h1), h2, (ww_Re_refuse D (by omega) (2 : Int32) σ r10 σ11 h12), (z_bo_in h13), trivial⟩
set_option maxHeartbeats 16000000 in
set_option maxRecDepth 20000 in
theorem ww_Re_plainNumber (D : Nat) (hD : 2 ≤ D) (σ : gx_R) (rr : Int32) (σ' : gx_R) (hf : Re_plainNumber  σ = some (rr, σ')) : E0 D 81 [.ref 39] σ (some (.int rr)) σ' := by
  cases D with
  | zero => omega
  | succ D => exact Or.inl ⟨Nat.le_of_ble_eq_true rfl, vv_Re_plainNumber_E D hD rr σ' σ hf⟩
set_option maxHeartbeats 16000000 in
set_option maxRecDepth 20000 in
theorem vv_Re_name_19 (D : Nat) (hD : 2 ≤ D + 1) (rr : Int32) (σ' : gx_R) (σ : gx_R) (hf : Re_name_19  σ = some (rr, σ')) : gx_Ev lay0 (E0 D) tt_82 (some (.int rr)) σ' 19 [.ref 39] [] σ := by
  unfold Re_name_19 at hf
  obtain ⟨r1, σ2, h3, hf⟩ := z_bd_inv hf
  obtain ⟨h4, hf⟩ := z_ck_inv hf
  obtain ⟨e1, e2⟩ := z_ret hf
  subst e1
  subst e2
  exact gx_end 4 [.inr (some (.int r1), σ2)] [E0 D 72 [.ref 39, .int (5 : Int32)] σ (some (.int r1)) σ2, r1 &&& 1 = r1] rfl ⟨(ww_Re_refuse D (by omega) (5 : Int32) σ r1 σ2 h3), (z_bo_in h4), trivial⟩
set_option maxHeartbeats 16000000 in
set_option maxRecDepth 20000 in
theorem vv_Re_name_E (D : Nat) (hD : 2 ≤ D + 1) (rr : Int32) (σ' : gx_R) (σ : gx_R) (hf : Re_name  σ = some (rr, σ')) : gx_Ev lay0 (E0 D) tt_82 (some (.int rr)) σ' 0 [.ref 39] [] σ := by
  unfold Re_name at hf
  rcases z_if_inv hf with ⟨h1, hf⟩ | ⟨h1, hf⟩
  · exact gx_go_ 3 [.inl 1] [(σ 39 9) < 0] 19 [.ref 39] [] σ rfl ⟨h1, trivial⟩ (gx_fgt (ls' := [.ref 39]) ⟨Or.inr rfl, trivial⟩ (vv_Re_name_19 D hD rr σ' σ hf))
  · rcases z_if_inv hf with ⟨h2, hf⟩ | ⟨h2, hf⟩
    · exact gx_go_ 7 [.inl 0, .inl 1] [¬ ((σ 39 9) < 0), (4 : Int32) ≤ (σ 39 9)] 19 [.ref 39] [] σ rfl ⟨h1, h2, trivial⟩ (gx_fgt (ls' := [.ref 39]) ⟨Or.inr rfl, trivial⟩ (vv_Re_name_19 D hD rr σ' σ hf))
    · obtain ⟨h3, hf⟩ := z_ck_inv hf
      rcases z_if_inv hf with ⟨h4, hf⟩ | ⟨h4, hf⟩
      · exact gx_go_ 19 [.inl 0, .inl 0, .inr (some (.ref 200), σ), .inr (some (.int (z_nmAt (σ 39 9))), σ), .inl 0] [¬ ((σ 39 9) < 0), ¬ ((4 : Int32) ≤ (σ 39 9)), E0 D 1000 [] σ (some (.ref 200)) σ, E0 D 1001 [.ref 200, .int (σ 39 9)] σ (some (.int (z_nmAt (σ 39 9)))) σ, ¬ ¬ ((((z_nmAt (σ 39 9)) >>> (((σ 39 8) - (21 : Int32)) &&& 31)) &&& (1 : Int32)) = 0)] 19 [.ref 39] [] σ rfl ⟨h1, h2, (sp_1000 D σ (by omega)), (sp_1001 D σ (σ 39 9) (by omega) h3), (fun q => q h4), trivial⟩ (gx_fgt (ls' := [.ref 39]) ⟨Or.inr rfl, trivial⟩ (vv_Re_name_19 D hD rr σ' σ hf))
      · obtain ⟨⟨⟩, σ6, h7, hf⟩ := z_bd_inv hf
        obtain ⟨⟨⟩, σ9, h10, hf⟩ := z_bd_inv hf
        obtain ⟨e1, e2⟩ := z_ret hf
        subst e1
        subst e2
        exact gx_end 28 [.inl 0, .inl 0, .inr (some (.ref 200), σ), .inr (some (.int (z_nmAt (σ 39 9))), σ), .inl 1, .inr (none, σ6), .inr (none, σ9)] [¬ ((σ 39 9) < 0), ¬ ((4 : Int32) ≤ (σ 39 9)), E0 D 1000 [] σ (some (.ref 200)) σ, E0 D 1001 [.ref 200, .int (σ 39 9)] σ (some (.int (z_nmAt (σ 39 9)))) σ, ¬ ((((z_nmAt (σ 39 9)) >>> (((σ 39 8) - (21 : Int32)) &&& 31)) &&& (1 : Int32)) = 0), E0 D 16 [.ref 43, .int (σ 39 8)] σ (none) σ6, E0 D 71 [.ref 39] σ6 (none) σ9, (1 : Int32) &&& 1 = (1 : Int32)] rfl ⟨h1, h2, (sp_1000 D σ (by omega)), (sp_1001 D σ (σ 39 9) (by omega) h3), h4, (ww_Te_put D (by omega) (σ 39 8) σ () σ6 h7), (ww_Re_advance D (by omega) σ6 () σ9 h10), rfl, trivial⟩
set_option maxHeartbeats 16000000 in
set_option maxRecDepth 20000 in
theorem ww_Re_name (D : Nat) (hD : 2 ≤ D) (σ : gx_R) (rr : Int32) (σ' : gx_R) (hf : Re_name  σ = some (rr, σ')) : E0 D 82 [.ref 39] σ (some (.int rr)) σ' := by
  cases D with
  | zero => omega
  | succ D => exact Or.inl ⟨Nat.le_of_ble_eq_true rfl, vv_Re_name_E D hD rr σ' σ hf⟩
set_option maxHeartbeats 16000000 in
set_option maxRecDepth 20000 in
theorem vv_Re_take_E (D : Nat) (hD : 2 ≤ D + 1) (rr : Int32) (σ' : gx_R) (a1 : Int32) (σ : gx_R) (hf : Re_take a1 σ = some (rr, σ')) : gx_Ev lay0 (E0 D) tt_73 (some (.int rr)) σ' 0 [.ref 39, .int a1] [] σ := by
  unfold Re_take at hf
  rcases z_if_inv hf with ⟨h1, hf⟩ | ⟨h1, hf⟩
  · obtain ⟨⟨⟩, σ3, h4, hf⟩ := z_bd_inv hf
    obtain ⟨e1, e2⟩ := z_ret hf
    subst e1
    subst e2
    exact gx_end 8 [.inl 1, .inr (none, σ3)] [(σ 39 8) = a1, E0 D 71 [.ref 39] σ (none) σ3, (1 : Int32) &&& 1 = (1 : Int32)] rfl ⟨h1, (ww_Re_advance D (by omega) σ () σ3 h4), rfl, trivial⟩
  · obtain ⟨r5, σ6, h7, hf⟩ := z_bd_inv hf
    obtain ⟨h8, hf⟩ := z_ck_inv hf
    obtain ⟨e1, e2⟩ := z_ret hf
    subst e1
    subst e2
    exact gx_end 8 [.inl 0, .inr (some (.int r5), σ6)] [¬ ((σ 39 8) = a1), E0 D 72 [.ref 39, .int (1 : Int32)] σ (some (.int r5)) σ6, r5 &&& 1 = r5] rfl ⟨h1, (ww_Re_refuse D (by omega) (1 : Int32) σ r5 σ6 h7), (z_bo_in h8), trivial⟩
set_option maxHeartbeats 16000000 in
set_option maxRecDepth 20000 in
theorem ww_Re_take (D : Nat) (hD : 2 ≤ D) (a1 : Int32) (σ : gx_R) (rr : Int32) (σ' : gx_R) (hf : Re_take a1 σ = some (rr, σ')) : E0 D 73 [.ref 39, .int a1] σ (some (.int rr)) σ' := by
  cases D with
  | zero => omega
  | succ D => exact Or.inl ⟨Nat.le_of_ble_eq_true rfl, vv_Re_take_E D hD rr σ' a1 σ hf⟩
set_option maxHeartbeats 16000000 in
set_option maxRecDepth 20000 in
theorem vv_Re_ask_40 (D : Nat) (hD : 3 ≤ D + 1) (rr : Int32) (σ' : gx_R) (rc : Nat → Int32 → gx_R → Option (Int32 × gx_R)) (hrc0 : ∀ (a1 : Int32) (σ : gx_R) (r : Int32) (σ1 : gx_R), rc 0 a1 σ = some (r, σ1) → E0 D 86 [.ref 39, .int a1] σ (some (.int r)) σ1) (hrc1 : ∀ (a1 : Int32) (σ : gx_R) (r : Int32) (σ1 : gx_R), rc 1 a1 σ = some (r, σ1) → E0 D 85 [.ref 39, .int a1] σ (some (.int r)) σ1) (hrc2 : ∀ (a1 : Int32) (σ : gx_R) (r : Int32) (σ1 : gx_R), rc 2 a1 σ = some (r, σ1) → E0 D 83 [.ref 39, .int a1] σ (some (.int r)) σ1) (hrc3 : ∀ (a1 : Int32) (σ : gx_R) (r : Int32) (σ1 : gx_R), rc 3 a1 σ = some (r, σ1) → E0 D 84 [.ref 39, .int a1] σ (some (.int r)) σ1) (hrc4 : ∀ (a1 : Int32) (σ : gx_R) (r : Int32) (σ1 : gx_R), rc 4 a1 σ = some (r, σ1) → E0 D 80 [.ref 39, .int a1] σ (some (.int r)) σ1) (hrc5 : ∀ (a1 : Int32) (σ : gx_R) (r : Int32) (σ1 : gx_R), rc 5 a1 σ = some (r, σ1) → E0 D 79 [.ref 39, .int a1] σ (some (.int r)) σ1) (hrc6 : ∀ (a1 : Int32) (σ : gx_R) (r : Int32) (σ1 : gx_R), rc 6 a1 σ = some (r, σ1) → E0 D 78 [.ref 39, .int a1] σ (some (.int r)) σ1) (σ : gx_R) (hf : Re_ask_40 rc  σ = some (rr, σ')) : gx_Ev lay0 (E0 D) tt_86 (some (.int rr)) σ' 40 [.ref 39, .null, .null, .null] [] σ := by
  unfold Re_ask_40 at hf
  obtain ⟨r1, σ2, h3, hf⟩ := z_bd_inv hf
  obtain ⟨h4, hf⟩ := z_ck_inv hf
  obtain ⟨e1, e2⟩ := z_ret hf
  subst e1
  subst e2
  exact gx_end 4 [.inr (some (.int r1), σ2)] [E0 D 72 [.ref 39, .int (1 : Int32)] σ (some (.int r1)) σ2, r1 &&& 1 = r1] rfl ⟨(ww_Re_refuse D (by omega) (1 : Int32) σ r1 σ2 h3), (z_bo_in h4), trivial⟩
set_option maxHeartbeats 16000000 in
set_option maxRecDepth 20000 in
theorem vv_Re_ask_E (D : Nat) (hD : 3 ≤ D + 1) (rr : Int32) (σ' : gx_R) (rc : Nat → Int32 → gx_R → Option (Int32 × gx_R)) (hrc0 : ∀ (a1 : Int32) (σ : gx_R) (r : Int32) (σ1 : gx_R), rc 0 a1 σ = some (r, σ1) → E0 D 86 [.ref 39, .int a1] σ (some (.int r)) σ1) (hrc1 : ∀ (a1 : Int32) (σ : gx_R) (r : Int32) (σ1 : gx_R), rc 1 a1 σ = some (r, σ1) → E0 D 85 [.ref 39, .int a1] σ (some (.int r)) σ1) (hrc2 : ∀ (a1 : Int32) (σ : gx_R) (r : Int32) (σ1 : gx_R), rc 2 a1 σ = some (r, σ1) → E0 D 83 [.ref 39, .int a1] σ (some (.int r)) σ1) (hrc3 : ∀ (a1 : Int32) (σ : gx_R) (r : Int32) (σ1 : gx_R), rc 3 a1 σ = some (r, σ1) → E0 D 84 [.ref 39, .int a1] σ (some (.int r)) σ1) (hrc4 : ∀ (a1 : Int32) (σ : gx_R) (r : Int32) (σ1 : gx_R), rc 4 a1 σ = some (r, σ1) → E0 D 80 [.ref 39, .int a1] σ (some (.int r)) σ1) (hrc5 : ∀ (a1 : Int32) (σ : gx_R) (r : Int32) (σ1 : gx_R), rc 5 a1 σ = some (r, σ1) → E0 D 79 [.ref 39, .int a1] σ (some (.int r)) σ1) (hrc6 : ∀ (a1 : Int32) (σ : gx_R) (r : Int32) (σ1 : gx_R), rc 6 a1 σ = some (r, σ1) → E0 D 78 [.ref 39, .int a1] σ (some (.int r)) σ1) (a1 : Int32) (σ : gx_R) (hf : Re_ask_E rc a1 σ = some (rr, σ')) : gx_Ev lay0 (E0 D) tt_86 (some (.int rr)) σ' 0 [.ref 39, .int a1, .null, .null] [] σ := by
  unfold Re_ask_E at hf
  rcases z_if_inv hf with ⟨h1, hf⟩ | ⟨h1, hf⟩
  · rcases z_if_inv hf with ⟨h2, hf⟩ | ⟨h2, hf⟩
    · obtain ⟨⟨⟩, σ4, h5, hf⟩ := z_bd_inv hf
      obtain ⟨r6, σ7, h8, hf⟩ := z_bd_inv hf
      obtain ⟨⟨⟩, σ10, h11, hf⟩ := z_bd_inv hf
      obtain ⟨h12, hf⟩ := z_ck_inv hf
      obtain ⟨e1, e2⟩ := z_ret hf
      subst e1
      subst e2
      exact gx_end 21 [.inl 0, .inl 1, .inr (none, σ4), .inr (some (.int r6), σ7), .inr (none, σ10)] [¬ ¬ ((σ 39 8) = (20 : Int32)), a1 < (8 : Int32), E0 D 71 [.ref 39] σ (none) σ4, E0 D 86 [.ref 39, .int (a1 + (1 : Int32))] σ4 (some (.int r6)) σ7, E0 D 16 [.ref 43, .int (20 : Int32)] σ7 (none) σ10, r6 &&& 1 = r6] rfl ⟨(fun q => q h1), h2, (ww_Re_advance D (by omega) σ () σ4 h5), (hrc0 (a1 + (1 : Int32)) σ4 r6 σ7 h8), (ww_Te_put D (by omega) (20 : Int32) σ7 () σ10 h11), (z_bo_in h12), trivial⟩
    · obtain ⟨r13, σ14, h15, hf⟩ := z_bd_inv hf
      obtain ⟨h16, hf⟩ := z_ck_inv hf
      obtain ⟨e1, e2⟩ := z_ret hf
      subst e1
      subst e2
      exact gx_end 11 [.inl 0, .inl 0, .inr (some (.int r13), σ14)] [¬ ¬ ((σ 39 8) = (20 : Int32)), ¬ (a1 < (8 : Int32)), E0 D 72 [.ref 39, .int (3 : Int32)] σ (some (.int r13)) σ14, r13 &&& 1 = r13] rfl ⟨(fun q => q h1), h2, (ww_Re_refuse D (by omega) (3 : Int32) σ r13 σ14 h15), (z_bo_in h16), trivial⟩
  · obtain ⟨r17, σ18, h19, hf⟩ := z_bd_inv hf
    rcases z_if_inv hf with ⟨h20, hf⟩ | ⟨h20, hf⟩
    · obtain ⟨e1, e2⟩ := z_ret hf
      subst e1
      subst e2
      exact gx_end 10 [.inl 1, .inr (some (.int r17), σ18), .inl 0] [¬ ((σ 39 8) = (20 : Int32)), E0 D 78 [.ref 39, .int a1] σ (some (.int r17)) σ18, ¬ ¬ (r17 = 0), (0 : Int32) &&& 1 = (0 : Int32)] rfl ⟨h1, (hrc6 a1 σ r17 σ18 h19), (fun q => q h20), rfl, trivial⟩
    · rcases z_if_inv hf with ⟨h21, hf⟩ | ⟨h21, hf⟩
      · exact gx_go_ 14 [.inl 1, .inr (some (.int r17), σ18), .inl 1, .inl 1] [¬ ((σ 39 8) = (20 : Int32)), E0 D 78 [.ref 39, .int a1] σ (some (.int r17)) σ18, ¬ (r17 = 0), (σ18 39 8) < (31 : Int32)] 40 [.ref 39, .int a1, .int (σ18 39 8), .null] [] σ18 rfl ⟨h1, (hrc6 a1 σ r17 σ18 h19), h20, h21, trivial⟩ (gx_fgt (ls' := [.ref 39, .null, .null, .null]) ⟨Or.inr rfl, Or.inl rfl, Or.inl rfl, Or.inl rfl, trivial⟩ (vv_Re_ask_40 D hD rr σ' rc hrc0 hrc1 hrc2 hrc3 hrc4 hrc5 hrc6 σ18 hf))
      · rcases z_if_inv hf with ⟨h22, hf⟩ | ⟨h22, hf⟩
        · obtain ⟨⟨⟩, σ24, h25, hf⟩ := z_bd_inv hf
          obtain ⟨r26, σ27, h28, hf⟩ := z_bd_inv hf
          obtain ⟨⟨⟩, σ30, h31, hf⟩ := z_bd_inv hf
          obtain ⟨h32, hf⟩ := z_ck_inv hf
          obtain ⟨e1, e2⟩ := z_ret hf
          subst e1
          subst e2
          exact gx_end 29 [.inl 1, .inr (some (.int r17), σ18), .inl 1, .inl 0, .inl 1, .inr (none, σ24), .inr (some (.int r26), σ27), .inr (none, σ30)] [¬ ((σ 39 8) = (20 : Int32)), E0 D 78 [.ref 39, .int a1] σ (some (.int r17)) σ18, ¬ (r17 = 0), ¬ ((σ18 39 8) < (31 : Int32)), (σ18 39 8) ≤ (36 : Int32), E0 D 71 [.ref 39] σ18 (none) σ24, E0 D 78 [.ref 39, .int a1] σ24 (some (.int r26)) σ27, E0 D 16 [.ref 43, .int (σ18 39 8)] σ27 (none) σ30, r26 &&& 1 = r26] rfl ⟨h1, (hrc6 a1 σ r17 σ18 h19), h20, h21, h22, (ww_Re_advance D (by omega) σ18 () σ24 h25), (hrc6 a1 σ24 r26 σ27 h28), (ww_Te_put D (by omega) (σ18 39 8) σ27 () σ30 h31), (z_bo_in h32), trivial⟩
        · exact gx_go_ 17 [.inl 1, .inr (some (.int r17), σ18), .inl 1, .inl 0, .inl 0] [¬ ((σ 39 8) = (20 : Int32)), E0 D 78 [.ref 39, .int a1] σ (some (.int r17)) σ18, ¬ (r17 = 0), ¬ ((σ18 39 8) < (31 : Int32)), ¬ ((σ18 39 8) ≤ (36 : Int32))] 40 [.ref 39, .int a1, .int (σ18 39 8), .null] [] σ18 rfl ⟨h1, (hrc6 a1 σ r17 σ18 h19), h20, h21, h22, trivial⟩ (gx_fgt (ls' := [.ref 39, .null, .null, .null]) ⟨Or.inr rfl, Or.inl rfl, Or.inl rfl, Or.inl rfl, trivial⟩ (vv_Re_ask_40 D hD rr σ' rc hrc0 hrc1 hrc2 hrc3 hrc4 hrc5 hrc6 σ18 hf))
set_option maxHeartbeats 16000000 in
set_option maxRecDepth 20000 in
theorem vv_Re_both_6_B (D : Nat) (hD : 3 ≤ D + 1) (rr : Int32) (σ' : gx_R) (rc : Nat → Int32 → gx_R → Option (Int32 × gx_R)) (hrc0 : ∀ (a1 : Int32) (σ : gx_R) (r : Int32) (σ1 : gx_R), rc 0 a1 σ = some (r, σ1) → E0 D 86 [.ref 39, .int a1] σ (some (.int r)) σ1) (hrc1 : ∀ (a1 : Int32) (σ : gx_R) (r : Int32) (σ1 : gx_R), rc 1 a1 σ = some (r, σ1) → E0 D 85 [.ref 39, .int a1] σ (some (.int r)) σ1) (hrc2 : ∀ (a1 : Int32) (σ : gx_R) (r : Int32) (σ1 : gx_R), rc 2 a1 σ = some (r, σ1) → E0 D 83 [.ref 39, .int a1] σ (some (.int r)) σ1) (hrc3 : ∀ (a1 : Int32) (σ : gx_R) (r : Int32) (σ1 : gx_R), rc 3 a1 σ = some (r, σ1) → E0 D 84 [.ref 39, .int a1] σ (some (.int r)) σ1) (hrc4 : ∀ (a1 : Int32) (σ : gx_R) (r : Int32) (σ1 : gx_R), rc 4 a1 σ = some (r, σ1) → E0 D 80 [.ref 39, .int a1] σ (some (.int r)) σ1) (hrc5 : ∀ (a1 : Int32) (σ : gx_R) (r : Int32) (σ1 : gx_R), rc 5 a1 σ = some (r, σ1) → E0 D 79 [.ref 39, .int a1] σ (some (.int r)) σ1) (hrc6 : ∀ (a1 : Int32) (σ : gx_R) (r : Int32) (σ1 : gx_R), rc 6 a1 σ = some (r, σ1) → E0 D 78 [.ref 39, .int a1] σ (some (.int r)) σ1) (K6 : Int32 → Int32 → Int32 → gx_R → Option (Int32 × gx_R)) (hK6 : ∀ (a1 : Int32) (a2 : Int32) (a3 : Int32) (σ : gx_R), K6 a1 a2 a3 σ = some (rr, σ') → gx_Ev lay0 (E0 D) tt_85 (some (.int rr)) σ' 6 [.ref 39, .int a1, .int a2, .int a3] [] σ) (a1 : Int32) (a2 : Int32) (a3 : Int32) (σ : gx_R) (hf : Re_both_6_B rc K6 a1 a2 a3 σ = some (rr, σ')) : gx_Ev lay0 (E0 D) tt_85 (some (.int rr)) σ' 6 [.ref 39, .int a1, .int a2, .int a3] [] σ := by
  unfold Re_both_6_B at hf
  rcases z_if_inv hf with ⟨h1, hf⟩ | ⟨h1, hf⟩
  · obtain ⟨h2, hf⟩ := z_ck_inv hf
    obtain ⟨e1, e2⟩ := z_ret hf
    subst e1
    subst e2
    exact gx_end 5 [.inl 1] [(300 : Int32) ≤ a3, a2 &&& 1 = a2] rfl ⟨h1, (z_bo_in h2), trivial⟩
  · rcases z_if_inv hf with ⟨h3, hf⟩ | ⟨h3, hf⟩
    · obtain ⟨h4, hf⟩ := z_ck_inv hf
      obtain ⟨e1, e2⟩ := z_ret hf
      subst e1
      subst e2
      exact gx_end 7 [.inl 0, .inl 1] [¬ ((300 : Int32) ≤ a3), a2 = 0, a2 &&& 1 = a2] rfl ⟨h1, h3, (z_bo_in h4), trivial⟩
    · rcases z_if_inv hf with ⟨h5, hf⟩ | ⟨h5, hf⟩
      · obtain ⟨⟨⟩, σ7, h8, hf⟩ := z_bd_inv hf
        obtain ⟨r9, σ10, h11, hf⟩ := z_bd_inv hf
        obtain ⟨⟨⟩, σ13, h14, hf⟩ := z_bd_inv hf
        exact gx_go_ 21 [.inl 0, .inl 0, .inl 0, .inr (none, σ7), .inr (some (.int r9), σ10), .inr (none, σ13)] [¬ ((300 : Int32) ≤ a3), ¬ (a2 = 0), ¬ ¬ ((σ 39 8) = (19 : Int32)), E0 D 71 [.ref 39] σ (none) σ7, E0 D 86 [.ref 39, .int a1] σ7 (some (.int r9)) σ10, E0 D 16 [.ref 43, .int (19 : Int32)] σ10 (none) σ13] 6 [.ref 39, .int a1, .int r9, .int (a3 + 1)] [] σ13 rfl ⟨h1, h3, (fun q => q h5), (ww_Re_advance D (by omega) σ () σ7 h8), (hrc0 a1 σ7 r9 σ10 h11), (ww_Te_put D (by omega) (19 : Int32) σ10 () σ13 h14), trivial⟩ (gx_fgt (ls' := [.ref 39, .int a1, .int r9, .int (a3 + 1)]) ⟨Or.inr rfl, Or.inr rfl, Or.inr rfl, Or.inr rfl, trivial⟩ (hK6 a1 r9 (a3 + 1) σ13 hf))
      · obtain ⟨h15, hf⟩ := z_ck_inv hf
        obtain ⟨e1, e2⟩ := z_ret hf
        subst e1
        subst e2
        exact gx_end 11 [.inl 0, .inl 0, .inl 1] [¬ ((300 : Int32) ≤ a3), ¬ (a2 = 0), ¬ ((σ 39 8) = (19 : Int32)), a2 &&& 1 = a2] rfl ⟨h1, h3, h5, (z_bo_in h15), trivial⟩
set_option maxHeartbeats 16000000 in
set_option maxRecDepth 20000 in
theorem vv_Re_both_6 (D : Nat) (hD : 3 ≤ D + 1) (rr : Int32) (σ' : gx_R) (rc : Nat → Int32 → gx_R → Option (Int32 × gx_R)) (hrc0 : ∀ (a1 : Int32) (σ : gx_R) (r : Int32) (σ1 : gx_R), rc 0 a1 σ = some (r, σ1) → E0 D 86 [.ref 39, .int a1] σ (some (.int r)) σ1) (hrc1 : ∀ (a1 : Int32) (σ : gx_R) (r : Int32) (σ1 : gx_R), rc 1 a1 σ = some (r, σ1) → E0 D 85 [.ref 39, .int a1] σ (some (.int r)) σ1) (hrc2 : ∀ (a1 : Int32) (σ : gx_R) (r : Int32) (σ1 : gx_R), rc 2 a1 σ = some (r, σ1) → E0 D 83 [.ref 39, .int a1] σ (some (.int r)) σ1) (hrc3 : ∀ (a1 : Int32) (σ : gx_R) (r : Int32) (σ1 : gx_R), rc 3 a1 σ = some (r, σ1) → E0 D 84 [.ref 39, .int a1] σ (some (.int r)) σ1) (hrc4 : ∀ (a1 : Int32) (σ : gx_R) (r : Int32) (σ1 : gx_R), rc 4 a1 σ = some (r, σ1) → E0 D 80 [.ref 39, .int a1] σ (some (.int r)) σ1) (hrc5 : ∀ (a1 : Int32) (σ : gx_R) (r : Int32) (σ1 : gx_R), rc 5 a1 σ = some (r, σ1) → E0 D 79 [.ref 39, .int a1] σ (some (.int r)) σ1) (hrc6 : ∀ (a1 : Int32) (σ : gx_R) (r : Int32) (σ1 : gx_R), rc 6 a1 σ = some (r, σ1) → E0 D 78 [.ref 39, .int a1] σ (some (.int r)) σ1) : ∀ (n : Nat) (a1 : Int32) (a2 : Int32) (a3 : Int32) (σ : gx_R), Re_both_6 rc n a1 a2 a3 σ = some (rr, σ') → gx_Ev lay0 (E0 D) tt_85 (some (.int rr)) σ' 6 [.ref 39, .int a1, .int a2, .int a3] [] σ := by
  intro n
  induction n with
  | zero => intro a1 a2 a3 σ  hf; cases hf
  | succ n ih => intro a1 a2 a3 σ  hf; exact vv_Re_both_6_B D hD rr σ' rc hrc0 hrc1 hrc2 hrc3 hrc4 hrc5 hrc6 (Re_both_6 rc n) ih a1 a2 a3 σ  hf
set_option maxHeartbeats 16000000 in
set_option maxRecDepth 20000 in
theorem vv_Re_both_E (D : Nat) (hD : 3 ≤ D + 1) (rr : Int32) (σ' : gx_R) (rc : Nat → Int32 → gx_R → Option (Int32 × gx_R)) (hrc0 : ∀ (a1 : Int32) (σ : gx_R) (r : Int32) (σ1 : gx_R), rc 0 a1 σ = some (r, σ1) → E0 D 86 [.ref 39, .int a1] σ (some (.int r)) σ1) (hrc1 : ∀ (a1 : Int32) (σ : gx_R) (r : Int32) (σ1 : gx_R), rc 1 a1 σ = some (r, σ1) → E0 D 85 [.ref 39, .int a1] σ (some (.int r)) σ1) (hrc2 : ∀ (a1 : Int32) (σ : gx_R) (r : Int32) (σ1 : gx_R), rc 2 a1 σ = some (r, σ1) → E0 D 83 [.ref 39, .int a1] σ (some (.int r)) σ1) (hrc3 : ∀ (a1 : Int32) (σ : gx_R) (r : Int32) (σ1 : gx_R), rc 3 a1 σ = some (r, σ1) → E0 D 84 [.ref 39, .int a1] σ (some (.int r)) σ1) (hrc4 : ∀ (a1 : Int32) (σ : gx_R) (r : Int32) (σ1 : gx_R), rc 4 a1 σ = some (r, σ1) → E0 D 80 [.ref 39, .int a1] σ (some (.int r)) σ1) (hrc5 : ∀ (a1 : Int32) (σ : gx_R) (r : Int32) (σ1 : gx_R), rc 5 a1 σ = some (r, σ1) → E0 D 79 [.ref 39, .int a1] σ (some (.int r)) σ1) (hrc6 : ∀ (a1 : Int32) (σ : gx_R) (r : Int32) (σ1 : gx_R), rc 6 a1 σ = some (r, σ1) → E0 D 78 [.ref 39, .int a1] σ (some (.int r)) σ1) (a1 : Int32) (σ : gx_R) (hf : Re_both_E rc a1 σ = some (rr, σ')) : gx_Ev lay0 (E0 D) tt_85 (some (.int rr)) σ' 0 [.ref 39, .int a1, .null, .null] [] σ := by
  unfold Re_both_E at hf
  obtain ⟨r1, σ2, h3, hf⟩ := z_bd_inv hf
  exact gx_go_ 6 [.inr (some (.int r1), σ2)] [E0 D 86 [.ref 39, .int a1] σ (some (.int r1)) σ2] 6 [.ref 39, .int a1, .int r1, .int (0 : Int32)] [] σ2 rfl ⟨(hrc0 a1 σ r1 σ2 h3), trivial⟩ (gx_fgt (ls' := [.ref 39, .int a1, .int r1, .int (0 : Int32)]) ⟨Or.inr rfl, Or.inr rfl, Or.inr rfl, Or.inr rfl, trivial⟩ (vv_Re_both_6 D hD rr σ' rc hrc0 hrc1 hrc2 hrc3 hrc4 hrc5 hrc6 z_FU a1 r1 (0 : Int32) σ2 hf))
set_option maxHeartbeats 16000000 in
set_option maxRecDepth 20000 in
theorem vv_Re_choice_E (D : Nat) (hD : 3 ≤ D + 1) (rr : Int32) (σ' : gx_R) (rc : Nat → Int32 → gx_R → Option (Int32 × gx_R)) (hrc0 : ∀ (a1 : Int32) (σ : gx_R) (r : Int32) (σ1 : gx_R), rc 0 a1 σ = some (r, σ1) → E0 D 86 [.ref 39, .int a1] σ (some (.int r)) σ1) (hrc1 : ∀ (a1 : Int32) (σ : gx_R) (r : Int32) (σ1 : gx_R), rc 1 a1 σ = some (r, σ1) → E0 D 85 [.ref 39, .int a1] σ (some (.int r)) σ1) (hrc2 : ∀ (a1 : Int32) (σ : gx_R) (r : Int32) (σ1 : gx_R), rc 2 a1 σ = some (r, σ1) → E0 D 83 [.ref 39, .int a1] σ (some (.int r)) σ1) (hrc3 : ∀ (a1 : Int32) (σ : gx_R) (r : Int32) (σ1 : gx_R), rc 3 a1 σ = some (r, σ1) → E0 D 84 [.ref 39, .int a1] σ (some (.int r)) σ1) (hrc4 : ∀ (a1 : Int32) (σ : gx_R) (r : Int32) (σ1 : gx_R), rc 4 a1 σ = some (r, σ1) → E0 D 80 [.ref 39, .int a1] σ (some (.int r)) σ1) (hrc5 : ∀ (a1 : Int32) (σ : gx_R) (r : Int32) (σ1 : gx_R), rc 5 a1 σ = some (r, σ1) → E0 D 79 [.ref 39, .int a1] σ (some (.int r)) σ1) (hrc6 : ∀ (a1 : Int32) (σ : gx_R) (r : Int32) (σ1 : gx_R), rc 6 a1 σ = some (r, σ1) → E0 D 78 [.ref 39, .int a1] σ (some (.int r)) σ1) (a1 : Int32) (σ : gx_R) (hf : Re_choice_E rc a1 σ = some (rr, σ')) : gx_Ev lay0 (E0 D) tt_83 (some (.int rr)) σ' 0 [.ref 39, .int a1, .null, .null] [] σ := by
  unfold Re_choice_E at hf
  obtain ⟨⟨⟩, σ2, h3, hf⟩ := z_bd_inv hf
  obtain ⟨r4, σ5, h6, hf⟩ := z_bd_inv hf
  rcases z_if_inv hf with ⟨h7, hf⟩ | ⟨h7, hf⟩
  · obtain ⟨e1, e2⟩ := z_ret hf
    subst e1
    subst e2
    exact gx_end 8 [.inr (none, σ2), .inr (some (.int r4), σ5), .inl 1] [E0 D 71 [.ref 39] σ (none) σ2, E0 D 84 [.ref 39, .int a1] σ2 (some (.int r4)) σ5, r4 = 0, (0 : Int32) &&& 1 = (0 : Int32)] rfl ⟨(ww_Re_advance D (by omega) σ () σ2 h3), (hrc3 a1 σ2 r4 σ5 h6), h7, rfl, trivial⟩
  · obtain ⟨r8, σ9, h10, hf⟩ := z_bd_inv hf
    rcases z_if_inv hf with ⟨h11, hf⟩ | ⟨h11, hf⟩
    · obtain ⟨e1, e2⟩ := z_ret hf
      subst e1
      subst e2
      exact gx_end 12 [.inr (none, σ2), .inr (some (.int r4), σ5), .inl 0, .inr (some (.int r8), σ9), .inl 0] [E0 D 71 [.ref 39] σ (none) σ2, E0 D 84 [.ref 39, .int a1] σ2 (some (.int r4)) σ5, ¬ (r4 = 0), E0 D 73 [.ref 39, .int (15 : Int32)] σ5 (some (.int r8)) σ9, ¬ ¬ (r8 = 0), (0 : Int32) &&& 1 = (0 : Int32)] rfl ⟨(ww_Re_advance D (by omega) σ () σ2 h3), (hrc3 a1 σ2 r4 σ5 h6), h7, (ww_Re_take D (by omega) (15 : Int32) σ5 r8 σ9 h10), (fun q => q h11), rfl, trivial⟩
    · obtain ⟨⟨⟩, σ13, h14, hf⟩ := z_bd_inv hf
      obtain ⟨r15, σ16, h17, hf⟩ := z_bd_inv hf
      rcases z_if_inv hf with ⟨h18, hf⟩ | ⟨h18, hf⟩
      · obtain ⟨e1, e2⟩ := z_ret hf
        subst e1
        subst e2
        exact gx_end 24 [.inr (none, σ2), .inr (some (.int r4), σ5), .inl 0, .inr (some (.int r8), σ9), .inl 1, .inr (none, σ13), .inr (some (.int r15), σ16), .inl 1] [E0 D 71 [.ref 39] σ (none) σ2, E0 D 84 [.ref 39, .int a1] σ2 (some (.int r4)) σ5, ¬ (r4 = 0), E0 D 73 [.ref 39, .int (15 : Int32)] σ5 (some (.int r8)) σ9, ¬ (r8 = 0), E0 D 16 [.ref 43, .int (15 : Int32)] σ9 (none) σ13, E0 D 78 [.ref 39, .int a1] σ13 (some (.int r15)) σ16, r15 = 0, (0 : Int32) &&& 1 = (0 : Int32)] rfl ⟨(ww_Re_advance D (by omega) σ () σ2 h3), (hrc3 a1 σ2 r4 σ5 h6), h7, (ww_Re_take D (by omega) (15 : Int32) σ5 r8 σ9 h10), h11, (ww_Te_put D (by omega) (15 : Int32) σ9 () σ13 h14), (hrc6 a1 σ13 r15 σ16 h17), h18, rfl, trivial⟩
      · obtain ⟨r19, σ20, h21, hf⟩ := z_bd_inv hf
        rcases z_if_inv hf with ⟨h22, hf⟩ | ⟨h22, hf⟩
        · obtain ⟨e1, e2⟩ := z_ret hf
          subst e1
          subst e2
          exact gx_end 28 [.inr (none, σ2), .inr (some (.int r4), σ5), .inl 0, .inr (some (.int r8), σ9), .inl 1, .inr (none, σ13), .inr (some (.int r15), σ16), .inl 0, .inr (some (.int r19), σ20), .inl 0] [E0 D 71 [.ref 39] σ (none) σ2, E0 D 84 [.ref 39, .int a1] σ2 (some (.int r4)) σ5, ¬ (r4 = 0), E0 D 73 [.ref 39, .int (15 : Int32)] σ5 (some (.int r8)) σ9, ¬ (r8 = 0), E0 D 16 [.ref 43, .int (15 : Int32)] σ9 (none) σ13, E0 D 78 [.ref 39, .int a1] σ13 (some (.int r15)) σ16, ¬ (r15 = 0), E0 D 73 [.ref 39, .int (16 : Int32)] σ16 (some (.int r19)) σ20, ¬ ¬ (r19 = 0), (0 : Int32) &&& 1 = (0 : Int32)] rfl ⟨(ww_Re_advance D (by omega) σ () σ2 h3), (hrc3 a1 σ2 r4 σ5 h6), h7, (ww_Re_take D (by omega) (15 : Int32) σ5 r8 σ9 h10), h11, (ww_Te_put D (by omega) (15 : Int32) σ9 () σ13 h14), (hrc6 a1 σ13 r15 σ16 h17), h18, (ww_Re_take D (by omega) (16 : Int32) σ16 r19 σ20 h21), (fun q => q h22), rfl, trivial⟩
        · obtain ⟨⟨⟩, σ24, h25, hf⟩ := z_bd_inv hf
          obtain ⟨⟨⟩, σ27, h28, hf⟩ := z_bd_inv hf
          obtain ⟨r29, σ30, h31, hf⟩ := z_bd_inv hf
          rcases z_if_inv hf with ⟨h32, hf⟩ | ⟨h32, hf⟩
          · obtain ⟨e1, e2⟩ := z_ret hf
            subst e1
            subst e2
            exact gx_end 44 [.inr (none, σ2), .inr (some (.int r4), σ5), .inl 0, .inr (some (.int r8), σ9), .inl 1, .inr (none, σ13), .inr (some (.int r15), σ16), .inl 0, .inr (some (.int r19), σ20), .inl 1, .inr (none, σ24), .inr (none, σ27), .inr (some (.int r29), σ30), .inl 1] [E0 D 71 [.ref 39] σ (none) σ2, E0 D 84 [.ref 39, .int a1] σ2 (some (.int r4)) σ5, ¬ (r4 = 0), E0 D 73 [.ref 39, .int (15 : Int32)] σ5 (some (.int r8)) σ9, ¬ (r8 = 0), E0 D 16 [.ref 43, .int (15 : Int32)] σ9 (none) σ13, E0 D 78 [.ref 39, .int a1] σ13 (some (.int r15)) σ16, ¬ (r15 = 0), E0 D 73 [.ref 39, .int (16 : Int32)] σ16 (some (.int r19)) σ20, ¬ (r19 = 0), E0 D 16 [.ref 43, .int (16 : Int32)] σ20 (none) σ24, E0 D 17 [.ref 43, .int (σ9 43 7)] σ24 (none) σ27, E0 D 78 [.ref 39, .int a1] σ27 (some (.int r29)) σ30, r29 = 0, (0 : Int32) &&& 1 = (0 : Int32)] rfl ⟨(ww_Re_advance D (by omega) σ () σ2 h3), (hrc3 a1 σ2 r4 σ5 h6), h7, (ww_Re_take D (by omega) (15 : Int32) σ5 r8 σ9 h10), h11, (ww_Te_put D (by omega) (15 : Int32) σ9 () σ13 h14), (hrc6 a1 σ13 r15 σ16 h17), h18, (ww_Re_take D (by omega) (16 : Int32) σ16 r19 σ20 h21), h22, (ww_Te_put D (by omega) (16 : Int32) σ20 () σ24 h25), (ww_Te_goOnHere D (by omega) (σ9 43 7) σ24 () σ27 h28), (hrc6 a1 σ27 r29 σ30 h31), h32, rfl, trivial⟩
          · obtain ⟨r33, σ34, h35, hf⟩ := z_bd_inv hf
            rcases z_if_inv hf with ⟨h36, hf⟩ | ⟨h36, hf⟩
            · obtain ⟨e1, e2⟩ := z_ret hf
              subst e1
              subst e2
              exact gx_end 48 [.inr (none, σ2), .inr (some (.int r4), σ5), .inl 0, .inr (some (.int r8), σ9), .inl 1, .inr (none, σ13), .inr (some (.int r15), σ16), .inl 0, .inr (some (.int r19), σ20), .inl 1, .inr (none, σ24), .inr (none, σ27), .inr (some (.int r29), σ30), .inl 0, .inr (some (.int r33), σ34), .inl 0] [E0 D 71 [.ref 39] σ (none) σ2, E0 D 84 [.ref 39, .int a1] σ2 (some (.int r4)) σ5, ¬ (r4 = 0), E0 D 73 [.ref 39, .int (15 : Int32)] σ5 (some (.int r8)) σ9, ¬ (r8 = 0), E0 D 16 [.ref 43, .int (15 : Int32)] σ9 (none) σ13, E0 D 78 [.ref 39, .int a1] σ13 (some (.int r15)) σ16, ¬ (r15 = 0), E0 D 73 [.ref 39, .int (16 : Int32)] σ16 (some (.int r19)) σ20, ¬ (r19 = 0), E0 D 16 [.ref 43, .int (16 : Int32)] σ20 (none) σ24, E0 D 17 [.ref 43, .int (σ9 43 7)] σ24 (none) σ27, E0 D 78 [.ref 39, .int a1] σ27 (some (.int r29)) σ30, ¬ (r29 = 0), E0 D 73 [.ref 39, .int (17 : Int32)] σ30 (some (.int r33)) σ34, ¬ ¬ (r33 = 0), (0 : Int32) &&& 1 = (0 : Int32)] rfl ⟨(ww_Re_advance D (by omega) σ () σ2 h3), (hrc3 a1 σ2 r4 σ5 h6), h7, (ww_Re_take D (by omega) (15 : Int32) σ5 r8 σ9 h10), h11, (ww_Te_put D (by omega) (15 : Int32) σ9 () σ13 h14), (hrc6 a1 σ13 r15 σ16 h17), h18, (ww_Re_take D (by omega) (16 : Int32) σ16 r19 σ20 h21), h22, (ww_Te_put D (by omega) (16 : Int32) σ20 () σ24 h25), (ww_Te_goOnHere D (by omega) (σ9 43 7) σ24 () σ27 h28), (hrc6 a1 σ27 r29 σ30 h31), h32, (ww_Re_take D (by omega) (17 : Int32) σ30 r33 σ34 h35), (fun q => q h36), rfl, trivial⟩
            · obtain ⟨⟨⟩, σ38, h39, hf⟩ := z_bd_inv hf
              obtain ⟨e1, e2⟩ := z_ret hf
              subst e1
              subst e2
              exact gx_end 52 [.inr (none, σ2), .inr (some (.int r4), σ5), .inl 0, .inr (some (.int r8), σ9), .inl 1, .inr (none, σ13), .inr (some (.int r15), σ16), .inl 0, .inr (some (.int r19), σ20), .inl 1, .inr (none, σ24), .inr (none, σ27), .inr (some (.int r29), σ30), .inl 0, .inr (some (.int r33), σ34), .inl 1, .inr (none, σ38)] [E0 D 71 [.ref 39] σ (none) σ2, E0 D 84 [.ref 39, .int a1] σ2 (some (.int r4)) σ5, ¬ (r4 = 0), E0 D 73 [.ref 39, .int (15 : Int32)] σ5 (some (.int r8)) σ9, ¬ (r8 = 0), E0 D 16 [.ref 43, .int (15 : Int32)] σ9 (none) σ13, E0 D 78 [.ref 39, .int a1] σ13 (some (.int r15)) σ16, ¬ (r15 = 0), E0 D 73 [.ref 39, .int (16 : Int32)] σ16 (some (.int r19)) σ20, ¬ (r19 = 0), E0 D 16 [.ref 43, .int (16 : Int32)] σ20 (none) σ24, E0 D 17 [.ref 43, .int (σ9 43 7)] σ24 (none) σ27, E0 D 78 [.ref 39, .int a1] σ27 (some (.int r29)) σ30, ¬ (r29 = 0), E0 D 73 [.ref 39, .int (17 : Int32)] σ30 (some (.int r33)) σ34, ¬ (r33 = 0), E0 D 17 [.ref 43, .int (σ20 43 7)] σ34 (none) σ38, (1 : Int32) &&& 1 = (1 : Int32)] rfl ⟨(ww_Re_advance D (by omega) σ () σ2 h3), (hrc3 a1 σ2 r4 σ5 h6), h7, (ww_Re_take D (by omega) (15 : Int32) σ5 r8 σ9 h10), h11, (ww_Te_put D (by omega) (15 : Int32) σ9 () σ13 h14), (hrc6 a1 σ13 r15 σ16 h17), h18, (ww_Re_take D (by omega) (16 : Int32) σ16 r19 σ20 h21), h22, (ww_Te_put D (by omega) (16 : Int32) σ20 () σ24 h25), (ww_Te_goOnHere D (by omega) (σ9 43 7) σ24 () σ27 h28), (hrc6 a1 σ27 r29 σ30 h31), h32, (ww_Re_take D (by omega) (17 : Int32) σ30 r33 σ34 h35), h36, (ww_Te_goOnHere D (by omega) (σ20 43 7) σ34 () σ38 h39), rfl, trivial⟩
set_option maxHeartbeats 16000000 in
set_option maxRecDepth 20000 in
theorem vv_Re_either_6_B (D : Nat) (hD : 3 ≤ D + 1) (rr : Int32) (σ' : gx_R) (rc : Nat → Int32 → gx_R → Option (Int32 × gx_R)) (hrc0 : ∀ (a1 : Int32) (σ : gx_R) (r : Int32) (σ1 : gx_R), rc 0 a1 σ = some (r, σ1) → E0 D 86 [.ref 39, .int a1] σ (some (.int r)) σ1) (hrc1 : ∀ (a1 : Int32) (σ : gx_R) (r : Int32) (σ1 : gx_R), rc 1 a1 σ = some (r, σ1) → E0 D 85 [.ref 39, .int a1] σ (some (.int r)) σ1) (hrc2 : ∀ (a1 : Int32) (σ : gx_R) (r : Int32) (σ1 : gx_R), rc 2 a1 σ = some (r, σ1) → E0 D 83 [.ref 39, .int a1] σ (some (.int r)) σ1) (hrc3 : ∀ (a1 : Int32) (σ : gx_R) (r : Int32) (σ1 : gx_R), rc 3 a1 σ = some (r, σ1) → E0 D 84 [.ref 39, .int a1] σ (some (.int r)) σ1) (hrc4 : ∀ (a1 : Int32) (σ : gx_R) (r : Int32) (σ1 : gx_R), rc 4 a1 σ = some (r, σ1) → E0 D 80 [.ref 39, .int a1] σ (some (.int r)) σ1) (hrc5 : ∀ (a1 : Int32) (σ : gx_R) (r : Int32) (σ1 : gx_R), rc 5 a1 σ = some (r, σ1) → E0 D 79 [.ref 39, .int a1] σ (some (.int r)) σ1) (hrc6 : ∀ (a1 : Int32) (σ : gx_R) (r : Int32) (σ1 : gx_R), rc 6 a1 σ = some (r, σ1) → E0 D 78 [.ref 39, .int a1] σ (some (.int r)) σ1) (K6 : Int32 → Int32 → Int32 → gx_R → Option (Int32 × gx_R)) (hK6 : ∀ (a1 : Int32) (a2 : Int32) (a3 : Int32) (σ : gx_R), K6 a1 a2 a3 σ = some (rr, σ') → gx_Ev lay0 (E0 D) tt_84 (some (.int rr)) σ' 6 [.ref 39, .int a1, .int a2, .int a3] [] σ) (a1 : Int32) (a2 : Int32) (a3 : Int32) (σ : gx_R) (hf : Re_either_6_B rc K6 a1 a2 a3 σ = some (rr, σ')) : gx_Ev lay0 (E0 D) tt_84 (some (.int rr)) σ' 6 [.ref 39, .int a1, .int a2, .int a3] [] σ := by
  unfold Re_either_6_B at hf
  rcases z_if_inv hf with ⟨h1, hf⟩ | ⟨h1, hf⟩
  · obtain ⟨h2, hf⟩ := z_ck_inv hf
    obtain ⟨e1, e2⟩ := z_ret hf
    subst e1
    subst e2
    exact gx_end 5 [.inl 1] [(300 : Int32) ≤ a3, a2 &&& 1 = a2] rfl ⟨h1, (z_bo_in h2), trivial⟩
  · rcases z_if_inv hf with ⟨h3, hf⟩ | ⟨h3, hf⟩
    · obtain ⟨h4, hf⟩ := z_ck_inv hf
      obtain ⟨e1, e2⟩ := z_ret hf
      subst e1
      subst e2
      exact gx_end 7 [.inl 0, .inl 1] [¬ ((300 : Int32) ≤ a3), a2 = 0, a2 &&& 1 = a2] rfl ⟨h1, h3, (z_bo_in h4), trivial⟩
    · rcases z_if_inv hf with ⟨h5, hf⟩ | ⟨h5, hf⟩
      · obtain ⟨⟨⟩, σ7, h8, hf⟩ := z_bd_inv hf
        obtain ⟨r9, σ10, h11, hf⟩ := z_bd_inv hf
        obtain ⟨⟨⟩, σ13, h14, hf⟩ := z_bd_inv hf
        exact gx_go_ 21 [.inl 0, .inl 0, .inl 0, .inr (none, σ7), .inr (some (.int r9), σ10), .inr (none, σ13)] [¬ ((300 : Int32) ≤ a3), ¬ (a2 = 0), ¬ ¬ ((σ 39 8) = (18 : Int32)), E0 D 71 [.ref 39] σ (none) σ7, E0 D 85 [.ref 39, .int a1] σ7 (some (.int r9)) σ10, E0 D 16 [.ref 43, .int (18 : Int32)] σ10 (none) σ13] 6 [.ref 39, .int a1, .int r9, .int (a3 + 1)] [] σ13 rfl ⟨h1, h3, (fun q => q h5), (ww_Re_advance D (by omega) σ () σ7 h8), (hrc1 a1 σ7 r9 σ10 h11), (ww_Te_put D (by omega) (18 : Int32) σ10 () σ13 h14), trivial⟩ (gx_fgt (ls' := [.ref 39, .int a1, .int r9, .int (a3 + 1)]) ⟨Or.inr rfl, Or.inr rfl, Or.inr rfl, Or.inr rfl, trivial⟩ (hK6 a1 r9 (a3 + 1) σ13 hf))
      · obtain ⟨h15, hf⟩ := z_ck_inv hf
        obtain ⟨e1, e2⟩ := z_ret hf
        subst e1
        subst e2
        exact gx_end 11 [.inl 0, .inl 0, .inl 1] [¬ ((300 : Int32) ≤ a3), ¬ (a2 = 0), ¬ ((σ 39 8) = (18 : Int32)), a2 &&& 1 = a2] rfl ⟨h1, h3, h5, (z_bo_in h15), trivial⟩
set_option maxHeartbeats 16000000 in
set_option maxRecDepth 20000 in
theorem vv_Re_either_6 (D : Nat) (hD : 3 ≤ D + 1) (rr : Int32) (σ' : gx_R) (rc : Nat → Int32 → gx_R → Option (Int32 × gx_R)) (hrc0 : ∀ (a1 : Int32) (σ : gx_R) (r : Int32) (σ1 : gx_R), rc 0 a1 σ = some (r, σ1) → E0 D 86 [.ref 39, .int a1] σ (some (.int r)) σ1) (hrc1 : ∀ (a1 : Int32) (σ : gx_R) (r : Int32) (σ1 : gx_R), rc 1 a1 σ = some (r, σ1) → E0 D 85 [.ref 39, .int a1] σ (some (.int r)) σ1) (hrc2 : ∀ (a1 : Int32) (σ : gx_R) (r : Int32) (σ1 : gx_R), rc 2 a1 σ = some (r, σ1) → E0 D 83 [.ref 39, .int a1] σ (some (.int r)) σ1) (hrc3 : ∀ (a1 : Int32) (σ : gx_R) (r : Int32) (σ1 : gx_R), rc 3 a1 σ = some (r, σ1) → E0 D 84 [.ref 39, .int a1] σ (some (.int r)) σ1) (hrc4 : ∀ (a1 : Int32) (σ : gx_R) (r : Int32) (σ1 : gx_R), rc 4 a1 σ = some (r, σ1) → E0 D 80 [.ref 39, .int a1] σ (some (.int r)) σ1) (hrc5 : ∀ (a1 : Int32) (σ : gx_R) (r : Int32) (σ1 : gx_R), rc 5 a1 σ = some (r, σ1) → E0 D 79 [.ref 39, .int a1] σ (some (.int r)) σ1) (hrc6 : ∀ (a1 : Int32) (σ : gx_R) (r : Int32) (σ1 : gx_R), rc 6 a1 σ = some (r, σ1) → E0 D 78 [.ref 39, .int a1] σ (some (.int r)) σ1) : ∀ (n : Nat) (a1 : Int32) (a2 : Int32) (a3 : Int32) (σ : gx_R), Re_either_6 rc n a1 a2 a3 σ = some (rr, σ') → gx_Ev lay0 (E0 D) tt_84 (some (.int rr)) σ' 6 [.ref 39, .int a1, .int a2, .int a3] [] σ := by
  intro n
  induction n with
  | zero => intro a1 a2 a3 σ  hf; cases hf
  | succ n ih => intro a1 a2 a3 σ  hf; exact vv_Re_either_6_B D hD rr σ' rc hrc0 hrc1 hrc2 hrc3 hrc4 hrc5 hrc6 (Re_either_6 rc n) ih a1 a2 a3 σ  hf
set_option maxHeartbeats 16000000 in
set_option maxRecDepth 20000 in
theorem vv_Re_either_E (D : Nat) (hD : 3 ≤ D + 1) (rr : Int32) (σ' : gx_R) (rc : Nat → Int32 → gx_R → Option (Int32 × gx_R)) (hrc0 : ∀ (a1 : Int32) (σ : gx_R) (r : Int32) (σ1 : gx_R), rc 0 a1 σ = some (r, σ1) → E0 D 86 [.ref 39, .int a1] σ (some (.int r)) σ1) (hrc1 : ∀ (a1 : Int32) (σ : gx_R) (r : Int32) (σ1 : gx_R), rc 1 a1 σ = some (r, σ1) → E0 D 85 [.ref 39, .int a1] σ (some (.int r)) σ1) (hrc2 : ∀ (a1 : Int32) (σ : gx_R) (r : Int32) (σ1 : gx_R), rc 2 a1 σ = some (r, σ1) → E0 D 83 [.ref 39, .int a1] σ (some (.int r)) σ1) (hrc3 : ∀ (a1 : Int32) (σ : gx_R) (r : Int32) (σ1 : gx_R), rc 3 a1 σ = some (r, σ1) → E0 D 84 [.ref 39, .int a1] σ (some (.int r)) σ1) (hrc4 : ∀ (a1 : Int32) (σ : gx_R) (r : Int32) (σ1 : gx_R), rc 4 a1 σ = some (r, σ1) → E0 D 80 [.ref 39, .int a1] σ (some (.int r)) σ1) (hrc5 : ∀ (a1 : Int32) (σ : gx_R) (r : Int32) (σ1 : gx_R), rc 5 a1 σ = some (r, σ1) → E0 D 79 [.ref 39, .int a1] σ (some (.int r)) σ1) (hrc6 : ∀ (a1 : Int32) (σ : gx_R) (r : Int32) (σ1 : gx_R), rc 6 a1 σ = some (r, σ1) → E0 D 78 [.ref 39, .int a1] σ (some (.int r)) σ1) (a1 : Int32) (σ : gx_R) (hf : Re_either_E rc a1 σ = some (rr, σ')) : gx_Ev lay0 (E0 D) tt_84 (some (.int rr)) σ' 0 [.ref 39, .int a1, .null, .null] [] σ := by
  unfold Re_either_E at hf
  obtain ⟨r1, σ2, h3, hf⟩ := z_bd_inv hf
  exact gx_go_ 6 [.inr (some (.int r1), σ2)] [E0 D 85 [.ref 39, .int a1] σ (some (.int r1)) σ2] 6 [.ref 39, .int a1, .int r1, .int (0 : Int32)] [] σ2 rfl ⟨(hrc1 a1 σ r1 σ2 h3), trivial⟩ (gx_fgt (ls' := [.ref 39, .int a1, .int r1, .int (0 : Int32)]) ⟨Or.inr rfl, Or.inr rfl, Or.inr rfl, Or.inr rfl, trivial⟩ (vv_Re_either_6 D hD rr σ' rc hrc0 hrc1 hrc2 hrc3 hrc4 hrc5 hrc6 z_FU a1 r1 (0 : Int32) σ2 hf))
set_option maxHeartbeats 16000000 in
set_option maxRecDepth 20000 in
theorem vv_Re_one_58 (D : Nat) (hD : 3 ≤ D + 1) (rr : Int32) (σ' : gx_R) (rc : Nat → Int32 → gx_R → Option (Int32 × gx_R)) (hrc0 : ∀ (a1 : Int32) (σ : gx_R) (r : Int32) (σ1 : gx_R), rc 0 a1 σ = some (r, σ1) → E0 D 86 [.ref 39, .int a1] σ (some (.int r)) σ1) (hrc1 : ∀ (a1 : Int32) (σ : gx_R) (r : Int32) (σ1 : gx_R), rc 1 a1 σ = some (r, σ1) → E0 D 85 [.ref 39, .int a1] σ (some (.int r)) σ1) (hrc2 : ∀ (a1 : Int32) (σ : gx_R) (r : Int32) (σ1 : gx_R), rc 2 a1 σ = some (r, σ1) → E0 D 83 [.ref 39, .int a1] σ (some (.int r)) σ1) (hrc3 : ∀ (a1 : Int32) (σ : gx_R) (r : Int32) (σ1 : gx_R), rc 3 a1 σ = some (r, σ1) → E0 D 84 [.ref 39, .int a1] σ (some (.int r)) σ1) (hrc4 : ∀ (a1 : Int32) (σ : gx_R) (r : Int32) (σ1 : gx_R), rc 4 a1 σ = some (r, σ1) → E0 D 80 [.ref 39, .int a1] σ (some (.int r)) σ1) (hrc5 : ∀ (a1 : Int32) (σ : gx_R) (r : Int32) (σ1 : gx_R), rc 5 a1 σ = some (r, σ1) → E0 D 79 [.ref 39, .int a1] σ (some (.int r)) σ1) (hrc6 : ∀ (a1 : Int32) (σ : gx_R) (r : Int32) (σ1 : gx_R), rc 6 a1 σ = some (r, σ1) → E0 D 78 [.ref 39, .int a1] σ (some (.int r)) σ1) (a1 : Int32) (s0 : Int32) (σ : gx_R) (hf : Re_one_58 rc a1 s0 σ = some (rr, σ')) : gx_Ev lay0 (E0 D) tt_80 (some (.int rr)) σ' 58 [.ref 39, .int a1, .null, .null] [.int s0] σ := by
  unfold Re_one_58 at hf
  obtain ⟨⟨⟩, σ2, h3, hf⟩ := z_bd_inv hf
  rcases z_if_inv hf with ⟨h4, hf⟩ | ⟨h4, hf⟩
  · obtain ⟨r5, σ6, h7, hf⟩ := z_bd_inv hf
    rcases z_if_inv hf with ⟨h8, hf⟩ | ⟨h8, hf⟩
    · obtain ⟨e1, e2⟩ := z_ret hf
      subst e1
      subst e2
      exact gx_end 13 [.inr (none, σ2), .inl 0, .inr (some (.int r5), σ6), .inl 1] [E0 D 71 [.ref 39] σ (none) σ2, ¬ ¬ (s0 = 0), E0 D 78 [.ref 39, .int (a1 + (1 : Int32))] σ2 (some (.int r5)) σ6, r5 = 0, (0 : Int32) &&& 1 = (0 : Int32)] rfl ⟨(ww_Re_advance D (by omega) σ () σ2 h3), (fun q => q h4), (hrc6 (a1 + (1 : Int32)) σ2 r5 σ6 h7), h8, rfl, trivial⟩
    · obtain ⟨r9, σ10, h11, hf⟩ := z_bd_inv hf
      rcases z_if_inv hf with ⟨h12, hf⟩ | ⟨h12, hf⟩
      · obtain ⟨e1, e2⟩ := z_ret hf
        subst e1
        subst e2
        exact gx_end 17 [.inr (none, σ2), .inl 0, .inr (some (.int r5), σ6), .inl 0, .inr (some (.int r9), σ10), .inl 1] [E0 D 71 [.ref 39] σ (none) σ2, ¬ ¬ (s0 = 0), E0 D 78 [.ref 39, .int (a1 + (1 : Int32))] σ2 (some (.int r5)) σ6, ¬ (r5 = 0), E0 D 73 [.ref 39, .int (42 : Int32)] σ6 (some (.int r9)) σ10, r9 = 0, (0 : Int32) &&& 1 = (0 : Int32)] rfl ⟨(ww_Re_advance D (by omega) σ () σ2 h3), (fun q => q h4), (hrc6 (a1 + (1 : Int32)) σ2 r5 σ6 h7), h8, (ww_Re_take D (by omega) (42 : Int32) σ6 r9 σ10 h11), h12, rfl, trivial⟩
      · obtain ⟨e1, e2⟩ := z_ret hf
        subst e1
        subst e2
        exact gx_end 18 [.inr (none, σ2), .inl 0, .inr (some (.int r5), σ6), .inl 0, .inr (some (.int r9), σ10), .inl 0] [E0 D 71 [.ref 39] σ (none) σ2, ¬ ¬ (s0 = 0), E0 D 78 [.ref 39, .int (a1 + (1 : Int32))] σ2 (some (.int r5)) σ6, ¬ (r5 = 0), E0 D 73 [.ref 39, .int (42 : Int32)] σ6 (some (.int r9)) σ10, ¬ (r9 = 0), (1 : Int32) &&& 1 = (1 : Int32)] rfl ⟨(ww_Re_advance D (by omega) σ () σ2 h3), (fun q => q h4), (hrc6 (a1 + (1 : Int32)) σ2 r5 σ6 h7), h8, (ww_Re_take D (by omega) (42 : Int32) σ6 r9 σ10 h11), h12, rfl, trivial⟩
  · obtain ⟨r13, σ14, h15, hf⟩ := z_bd_inv hf
    obtain ⟨⟨⟩, σ17, h18, hf⟩ := z_bd_inv hf
    obtain ⟨h19, hf⟩ := z_ck_inv hf
    obtain ⟨e1, e2⟩ := z_ret hf
    subst e1
    subst e2
    exact gx_end 17 [.inr (none, σ2), .inl 1, .inr (some (.int r13), σ14), .inr (none, σ17)] [E0 D 71 [.ref 39] σ (none) σ2, ¬ (s0 = 0), E0 D 80 [.ref 39, .int (a1 + (1 : Int32))] σ2 (some (.int r13)) σ14, E0 D 16 [.ref 43, .int (46 : Int32)] σ14 (none) σ17, r13 &&& 1 = r13] rfl ⟨(ww_Re_advance D (by omega) σ () σ2 h3), h4, (hrc4 (a1 + (1 : Int32)) σ2 r13 σ14 h15), (ww_Te_put D (by omega) (46 : Int32) σ14 () σ17 h18), (z_bo_in h19), trivial⟩
set_option maxHeartbeats 16000000 in
set_option maxRecDepth 20000 in
theorem vv_Re_one_34 (D : Nat) (hD : 3 ≤ D + 1) (rr : Int32) (σ' : gx_R) (rc : Nat → Int32 → gx_R → Option (Int32 × gx_R)) (hrc0 : ∀ (a1 : Int32) (σ : gx_R) (r : Int32) (σ1 : gx_R), rc 0 a1 σ = some (r, σ1) → E0 D 86 [.ref 39, .int a1] σ (some (.int r)) σ1) (hrc1 : ∀ (a1 : Int32) (σ : gx_R) (r : Int32) (σ1 : gx_R), rc 1 a1 σ = some (r, σ1) → E0 D 85 [.ref 39, .int a1] σ (some (.int r)) σ1) (hrc2 : ∀ (a1 : Int32) (σ : gx_R) (r : Int32) (σ1 : gx_R), rc 2 a1 σ = some (r, σ1) → E0 D 83 [.ref 39, .int a1] σ (some (.int r)) σ1) (hrc3 : ∀ (a1 : Int32) (σ : gx_R) (r : Int32) (σ1 : gx_R), rc 3 a1 σ = some (r, σ1) → E0 D 84 [.ref 39, .int a1] σ (some (.int r)) σ1) (hrc4 : ∀ (a1 : Int32) (σ : gx_R) (r : Int32) (σ1 : gx_R), rc 4 a1 σ = some (r, σ1) → E0 D 80 [.ref 39, .int a1] σ (some (.int r)) σ1) (hrc5 : ∀ (a1 : Int32) (σ : gx_R) (r : Int32) (σ1 : gx_R), rc 5 a1 σ = some (r, σ1) → E0 D 79 [.ref 39, .int a1] σ (some (.int r)) σ1) (hrc6 : ∀ (a1 : Int32) (σ : gx_R) (r : Int32) (σ1 : gx_R), rc 6 a1 σ = some (r, σ1) → E0 D 78 [.ref 39, .int a1] σ (some (.int r)) σ1) (a1 : Int32) (σ : gx_R) (hf : Re_one_34 rc a1 σ = some (rr, σ')) : gx_Ev lay0 (E0 D) tt_80 (some (.int rr)) σ' 34 [.ref 39, .int a1, .null, .null] [] σ := by
  unfold Re_one_34 at hf
  rcases z_if_inv hf with ⟨h1, hf⟩ | ⟨h1, hf⟩
  · rcases z_if_inv hf with ⟨h2, hf⟩ | ⟨h2, hf⟩
    · obtain ⟨r3, σ4, h5, hf⟩ := z_bd_inv hf
      obtain ⟨h6, hf⟩ := z_ck_inv hf
      obtain ⟨e1, e2⟩ := z_ret hf
      subst e1
      subst e2
      exact gx_end 13 [.inl 1, .inl 0, .inr (some (.int r3), σ4)] [a1 < (8 : Int32), ¬ ¬ ((σ 39 8) = (14 : Int32)), E0 D 83 [.ref 39, .int (a1 + (1 : Int32))] σ (some (.int r3)) σ4, r3 &&& 1 = r3] rfl ⟨h1, (fun q => q h2), (hrc2 (a1 + (1 : Int32)) σ r3 σ4 h5), (z_bo_in h6), trivial⟩
    · rcases z_if_inv hf with ⟨h7, hf⟩ | ⟨h7, hf⟩
      · exact gx_go_ 13 [.inl 1, .inl 1, .inl 0] [a1 < (8 : Int32), ¬ ((σ 39 8) = (14 : Int32)), ¬ ¬ ((σ 39 8) = (38 : Int32))] 58 [.ref 39, .int a1, .null, .null] [.int (1 : Int32)] σ rfl ⟨h1, h2, (fun q => q h7), trivial⟩ (gx_fgt (ls' := [.ref 39, .int a1, .null, .null]) ⟨Or.inr rfl, Or.inr rfl, Or.inl rfl, Or.inl rfl, trivial⟩ (vv_Re_one_58 D hD rr σ' rc hrc0 hrc1 hrc2 hrc3 hrc4 hrc5 hrc6 a1 (1 : Int32) σ hf))
      · exact gx_go_ 12 [.inl 1, .inl 1, .inl 1] [a1 < (8 : Int32), ¬ ((σ 39 8) = (14 : Int32)), ¬ ((σ 39 8) = (38 : Int32))] 58 [.ref 39, .int a1, .null, .null] [.int (0 : Int32)] σ rfl ⟨h1, h2, h7, trivial⟩ (gx_fgt (ls' := [.ref 39, .int a1, .null, .null]) ⟨Or.inr rfl, Or.inr rfl, Or.inl rfl, Or.inl rfl, trivial⟩ (vv_Re_one_58 D hD rr σ' rc hrc0 hrc1 hrc2 hrc3 hrc4 hrc5 hrc6 a1 (0 : Int32) σ hf))
  · obtain ⟨r8, σ9, h10, hf⟩ := z_bd_inv hf
    obtain ⟨h11, hf⟩ := z_ck_inv hf
    obtain ⟨e1, e2⟩ := z_ret hf
    subst e1
    subst e2
    exact gx_end 7 [.inl 0, .inr (some (.int r8), σ9)] [¬ (a1 < (8 : Int32)), E0 D 72 [.ref 39, .int (3 : Int32)] σ (some (.int r8)) σ9, r8 &&& 1 = r8] rfl ⟨h1, (ww_Re_refuse D (by omega) (3 : Int32) σ r8 σ9 h10), (z_bo_in h11), trivial⟩
set_option maxHeartbeats 16000000 in
set_option maxRecDepth 20000 in
theorem vv_Re_one_18 (D : Nat) (hD : 3 ≤ D + 1) (rr : Int32) (σ' : gx_R) (rc : Nat → Int32 → gx_R → Option (Int32 × gx_R)) (hrc0 : ∀ (a1 : Int32) (σ : gx_R) (r : Int32) (σ1 : gx_R), rc 0 a1 σ = some (r, σ1) → E0 D 86 [.ref 39, .int a1] σ (some (.int r)) σ1) (hrc1 : ∀ (a1 : Int32) (σ : gx_R) (r : Int32) (σ1 : gx_R), rc 1 a1 σ = some (r, σ1) → E0 D 85 [.ref 39, .int a1] σ (some (.int r)) σ1) (hrc2 : ∀ (a1 : Int32) (σ : gx_R) (r : Int32) (σ1 : gx_R), rc 2 a1 σ = some (r, σ1) → E0 D 83 [.ref 39, .int a1] σ (some (.int r)) σ1) (hrc3 : ∀ (a1 : Int32) (σ : gx_R) (r : Int32) (σ1 : gx_R), rc 3 a1 σ = some (r, σ1) → E0 D 84 [.ref 39, .int a1] σ (some (.int r)) σ1) (hrc4 : ∀ (a1 : Int32) (σ : gx_R) (r : Int32) (σ1 : gx_R), rc 4 a1 σ = some (r, σ1) → E0 D 80 [.ref 39, .int a1] σ (some (.int r)) σ1) (hrc5 : ∀ (a1 : Int32) (σ : gx_R) (r : Int32) (σ1 : gx_R), rc 5 a1 σ = some (r, σ1) → E0 D 79 [.ref 39, .int a1] σ (some (.int r)) σ1) (hrc6 : ∀ (a1 : Int32) (σ : gx_R) (r : Int32) (σ1 : gx_R), rc 6 a1 σ = some (r, σ1) → E0 D 78 [.ref 39, .int a1] σ (some (.int r)) σ1) (a1 : Int32) (σ : gx_R) (hf : Re_one_18 rc a1 σ = some (rr, σ')) : gx_Ev lay0 (E0 D) tt_80 (some (.int rr)) σ' 18 [.ref 39, .int a1, .null, .null] [] σ := by
  unfold Re_one_18 at hf
  rcases z_if_inv hf with ⟨h1, hf⟩ | ⟨h1, hf⟩
  · exact gx_go_ 4 [.inl 1] [(σ 39 8) = (41 : Int32)] 34 [.ref 39, .int a1, .null, .null] [] σ rfl ⟨h1, trivial⟩ (gx_fgt (ls' := [.ref 39, .int a1, .null, .null]) ⟨Or.inr rfl, Or.inr rfl, Or.inl rfl, Or.inl rfl, trivial⟩ (vv_Re_one_34 D hD rr σ' rc hrc0 hrc1 hrc2 hrc3 hrc4 hrc5 hrc6 a1 σ hf))
  · rcases z_if_inv hf with ⟨h2, hf⟩ | ⟨h2, hf⟩
    · exact gx_go_ 8 [.inl 0, .inl 1] [¬ ((σ 39 8) = (41 : Int32)), (σ 39 8) = (38 : Int32)] 34 [.ref 39, .int a1, .null, .null] [] σ rfl ⟨h1, h2, trivial⟩ (gx_fgt (ls' := [.ref 39, .int a1, .null, .null]) ⟨Or.inr rfl, Or.inr rfl, Or.inl rfl, Or.inl rfl, trivial⟩ (vv_Re_one_34 D hD rr σ' rc hrc0 hrc1 hrc2 hrc3 hrc4 hrc5 hrc6 a1 σ hf))
    · rcases z_if_inv hf with ⟨h3, hf⟩ | ⟨h3, hf⟩
      · exact gx_go_ 12 [.inl 0, .inl 0, .inl 1] [¬ ((σ 39 8) = (41 : Int32)), ¬ ((σ 39 8) = (38 : Int32)), (σ 39 8) = (14 : Int32)] 34 [.ref 39, .int a1, .null, .null] [] σ rfl ⟨h1, h2, h3, trivial⟩ (gx_fgt (ls' := [.ref 39, .int a1, .null, .null]) ⟨Or.inr rfl, Or.inr rfl, Or.inl rfl, Or.inl rfl, trivial⟩ (vv_Re_one_34 D hD rr σ' rc hrc0 hrc1 hrc2 hrc3 hrc4 hrc5 hrc6 a1 σ hf))
      · obtain ⟨r4, σ5, h6, hf⟩ := z_bd_inv hf
        obtain ⟨h7, hf⟩ := z_ck_inv hf
        obtain ⟨e1, e2⟩ := z_ret hf
        subst e1
        subst e2
        exact gx_end 16 [.inl 0, .inl 0, .inl 0, .inr (some (.int r4), σ5)] [¬ ((σ 39 8) = (41 : Int32)), ¬ ((σ 39 8) = (38 : Int32)), ¬ ((σ 39 8) = (14 : Int32)), E0 D 72 [.ref 39, .int (1 : Int32)] σ (some (.int r4)) σ5, r4 &&& 1 = r4] rfl ⟨h1, h2, h3, (ww_Re_refuse D (by omega) (1 : Int32) σ r4 σ5 h6), (z_bo_in h7), trivial⟩
set_option maxHeartbeats 16000000 in
set_option maxRecDepth 20000 in
theorem vv_Re_one_E (D : Nat) (hD : 3 ≤ D + 1) (rr : Int32) (σ' : gx_R) (rc : Nat → Int32 → gx_R → Option (Int32 × gx_R)) (hrc0 : ∀ (a1 : Int32) (σ : gx_R) (r : Int32) (σ1 : gx_R), rc 0 a1 σ = some (r, σ1) → E0 D 86 [.ref 39, .int a1] σ (some (.int r)) σ1) (hrc1 : ∀ (a1 : Int32) (σ : gx_R) (r : Int32) (σ1 : gx_R), rc 1 a1 σ = some (r, σ1) → E0 D 85 [.ref 39, .int a1] σ (some (.int r)) σ1) (hrc2 : ∀ (a1 : Int32) (σ : gx_R) (r : Int32) (σ1 : gx_R), rc 2 a1 σ = some (r, σ1) → E0 D 83 [.ref 39, .int a1] σ (some (.int r)) σ1) (hrc3 : ∀ (a1 : Int32) (σ : gx_R) (r : Int32) (σ1 : gx_R), rc 3 a1 σ = some (r, σ1) → E0 D 84 [.ref 39, .int a1] σ (some (.int r)) σ1) (hrc4 : ∀ (a1 : Int32) (σ : gx_R) (r : Int32) (σ1 : gx_R), rc 4 a1 σ = some (r, σ1) → E0 D 80 [.ref 39, .int a1] σ (some (.int r)) σ1) (hrc5 : ∀ (a1 : Int32) (σ : gx_R) (r : Int32) (σ1 : gx_R), rc 5 a1 σ = some (r, σ1) → E0 D 79 [.ref 39, .int a1] σ (some (.int r)) σ1) (hrc6 : ∀ (a1 : Int32) (σ : gx_R) (r : Int32) (σ1 : gx_R), rc 6 a1 σ = some (r, σ1) → E0 D 78 [.ref 39, .int a1] σ (some (.int r)) σ1) (a1 : Int32) (σ : gx_R) (hf : Re_one_E rc a1 σ = some (rr, σ')) : gx_Ev lay0 (E0 D) tt_80 (some (.int rr)) σ' 0 [.ref 39, .int a1, .null, .null] [] σ := by
  unfold Re_one_E at hf
  rcases z_if_inv hf with ⟨h1, hf⟩ | ⟨h1, hf⟩
  · obtain ⟨r2, σ3, h4, hf⟩ := z_bd_inv hf
    obtain ⟨h5, hf⟩ := z_ck_inv hf
    obtain ⟨e1, e2⟩ := z_ret hf
    subst e1
    subst e2
    exact gx_end 7 [.inl 0, .inr (some (.int r2), σ3)] [¬ ¬ ((σ 39 8) = (30 : Int32)), E0 D 81 [.ref 39] σ (some (.int r2)) σ3, r2 &&& 1 = r2] rfl ⟨(fun q => q h1), (ww_Re_plainNumber D (by omega) σ r2 σ3 h4), (z_bo_in h5), trivial⟩
  · rcases z_if_inv hf with ⟨h6, hf⟩ | ⟨h6, hf⟩
    · exact gx_go_ 8 [.inl 1, .inl 1] [¬ ((σ 39 8) = (30 : Int32)), (σ 39 8) < (21 : Int32)] 18 [.ref 39, .int a1, .null, .null] [] σ rfl ⟨h1, h6, trivial⟩ (gx_fgt (ls' := [.ref 39, .int a1, .null, .null]) ⟨Or.inr rfl, Or.inr rfl, Or.inl rfl, Or.inl rfl, trivial⟩ (vv_Re_one_18 D hD rr σ' rc hrc0 hrc1 hrc2 hrc3 hrc4 hrc5 hrc6 a1 σ hf))
    · rcases z_if_inv hf with ⟨h7, hf⟩ | ⟨h7, hf⟩
      · exact gx_go_ 12 [.inl 1, .inl 0, .inl 1] [¬ ((σ 39 8) = (30 : Int32)), ¬ ((σ 39 8) < (21 : Int32)), (30 : Int32) ≤ (σ 39 8)] 18 [.ref 39, .int a1, .null, .null] [] σ rfl ⟨h1, h6, h7, trivial⟩ (gx_fgt (ls' := [.ref 39, .int a1, .null, .null]) ⟨Or.inr rfl, Or.inr rfl, Or.inl rfl, Or.inl rfl, trivial⟩ (vv_Re_one_18 D hD rr σ' rc hrc0 hrc1 hrc2 hrc3 hrc4 hrc5 hrc6 a1 σ hf))
      · obtain ⟨r8, σ9, h10, hf⟩ := z_bd_inv hf
        obtain ⟨h11, hf⟩ := z_ck_inv hf
        obtain ⟨e1, e2⟩ := z_ret hf
        subst e1
        subst e2
        exact gx_end 15 [.inl 1, .inl 0, .inl 0, .inr (some (.int r8), σ9)] [¬ ((σ 39 8) = (30 : Int32)), ¬ ((σ 39 8) < (21 : Int32)), ¬ ((30 : Int32) ≤ (σ 39 8)), E0 D 82 [.ref 39] σ (some (.int r8)) σ9, r8 &&& 1 = r8] rfl ⟨h1, h6, h7, (ww_Re_name D (by omega) σ r8 σ9 h10), (z_bo_in h11), trivial⟩
set_option maxHeartbeats 16000000 in
set_option maxRecDepth 20000 in
theorem vv_Re_product_19 (D : Nat) (hD : 3 ≤ D + 1) (rr : Int32) (σ' : gx_R) (rc : Nat → Int32 → gx_R → Option (Int32 × gx_R)) (hrc0 : ∀ (a1 : Int32) (σ : gx_R) (r : Int32) (σ1 : gx_R), rc 0 a1 σ = some (r, σ1) → E0 D 86 [.ref 39, .int a1] σ (some (.int r)) σ1) (hrc1 : ∀ (a1 : Int32) (σ : gx_R) (r : Int32) (σ1 : gx_R), rc 1 a1 σ = some (r, σ1) → E0 D 85 [.ref 39, .int a1] σ (some (.int r)) σ1) (hrc2 : ∀ (a1 : Int32) (σ : gx_R) (r : Int32) (σ1 : gx_R), rc 2 a1 σ = some (r, σ1) → E0 D 83 [.ref 39, .int a1] σ (some (.int r)) σ1) (hrc3 : ∀ (a1 : Int32) (σ : gx_R) (r : Int32) (σ1 : gx_R), rc 3 a1 σ = some (r, σ1) → E0 D 84 [.ref 39, .int a1] σ (some (.int r)) σ1) (hrc4 : ∀ (a1 : Int32) (σ : gx_R) (r : Int32) (σ1 : gx_R), rc 4 a1 σ = some (r, σ1) → E0 D 80 [.ref 39, .int a1] σ (some (.int r)) σ1) (hrc5 : ∀ (a1 : Int32) (σ : gx_R) (r : Int32) (σ1 : gx_R), rc 5 a1 σ = some (r, σ1) → E0 D 79 [.ref 39, .int a1] σ (some (.int r)) σ1) (hrc6 : ∀ (a1 : Int32) (σ : gx_R) (r : Int32) (σ1 : gx_R), rc 6 a1 σ = some (r, σ1) → E0 D 78 [.ref 39, .int a1] σ (some (.int r)) σ1) (K6 : Int32 → Int32 → Int32 → gx_R → Option (Int32 × gx_R)) (hK6 : ∀ (a1 : Int32) (a2 : Int32) (a3 : Int32) (σ : gx_R), K6 a1 a2 a3 σ = some (rr, σ') → gx_Ev lay0 (E0 D) tt_79 (some (.int rr)) σ' 6 [.ref 39, .int a1, .int a2, .int a3, .null] [] σ) (a1 : Int32) (a3 : Int32) (σ : gx_R) (hf : Re_product_19 rc K6 a1 a3 σ = some (rr, σ')) : gx_Ev lay0 (E0 D) tt_79 (some (.int rr)) σ' 19 [.ref 39, .int a1, .null, .int a3, .null] [] σ := by
  unfold Re_product_19 at hf
  obtain ⟨⟨⟩, σ2, h3, hf⟩ := z_bd_inv hf
  obtain ⟨r4, σ5, h6, hf⟩ := z_bd_inv hf
  obtain ⟨⟨⟩, σ8, h9, hf⟩ := z_bd_inv hf
  exact gx_go_ 15 [.inr (none, σ2), .inr (some (.int r4), σ5), .inr (none, σ8)] [E0 D 71 [.ref 39] σ (none) σ2, E0 D 80 [.ref 39, .int a1] σ2 (some (.int r4)) σ5, E0 D 16 [.ref 43, .int (σ 39 8)] σ5 (none) σ8] 6 [.ref 39, .int a1, .int r4, .int (a3 + 1), .int (σ 39 8)] [] σ8 rfl ⟨(ww_Re_advance D (by omega) σ () σ2 h3), (hrc4 a1 σ2 r4 σ5 h6), (ww_Te_put D (by omega) (σ 39 8) σ5 () σ8 h9), trivial⟩ (gx_fgt (ls' := [.ref 39, .int a1, .int r4, .int (a3 + 1), .null]) ⟨Or.inr rfl, Or.inr rfl, Or.inr rfl, Or.inr rfl, Or.inl rfl, trivial⟩ (hK6 a1 r4 (a3 + 1) σ8 hf))
set_option maxHeartbeats 16000000 in
set_option maxRecDepth 20000 in
theorem vv_Re_product_6_B (D : Nat) (hD : 3 ≤ D + 1) (rr : Int32) (σ' : gx_R) (rc : Nat → Int32 → gx_R → Option (Int32 × gx_R)) (hrc0 : ∀ (a1 : Int32) (σ : gx_R) (r : Int32) (σ1 : gx_R), rc 0 a1 σ = some (r, σ1) → E0 D 86 [.ref 39, .int a1] σ (some (.int r)) σ1) (hrc1 : ∀ (a1 : Int32) (σ : gx_R) (r : Int32) (σ1 : gx_R), rc 1 a1 σ = some (r, σ1) → E0 D 85 [.ref 39, .int a1] σ (some (.int r)) σ1) (hrc2 : ∀ (a1 : Int32) (σ : gx_R) (r : Int32) (σ1 : gx_R), rc 2 a1 σ = some (r, σ1) → E0 D 83 [.ref 39, .int a1] σ (some (.int r)) σ1) (hrc3 : ∀ (a1 : Int32) (σ : gx_R) (r : Int32) (σ1 : gx_R), rc 3 a1 σ = some (r, σ1) → E0 D 84 [.ref 39, .int a1] σ (some (.int r)) σ1) (hrc4 : ∀ (a1 : Int32) (σ : gx_R) (r : Int32) (σ1 : gx_R), rc 4 a1 σ = some (r, σ1) → E0 D 80 [.ref 39, .int a1] σ (some (.int r)) σ1) (hrc5 : ∀ (a1 : Int32) (σ : gx_R) (r : Int32) (σ1 : gx_R), rc 5 a1 σ = some (r, σ1) → E0 D 79 [.ref 39, .int a1] σ (some (.int r)) σ1) (hrc6 : ∀ (a1 : Int32) (σ : gx_R) (r : Int32) (σ1 : gx_R), rc 6 a1 σ = some (r, σ1) → E0 D 78 [.ref 39, .int a1] σ (some (.int r)) σ1) (K6 : Int32 → Int32 → Int32 → gx_R → Option (Int32 × gx_R)) (hK6 : ∀ (a1 : Int32) (a2 : Int32) (a3 : Int32) (σ : gx_R), K6 a1 a2 a3 σ = some (rr, σ') → gx_Ev lay0 (E0 D) tt_79 (some (.int rr)) σ' 6 [.ref 39, .int a1, .int a2, .int a3, .null] [] σ) (a1 : Int32) (a2 : Int32) (a3 : Int32) (σ : gx_R) (hf : Re_product_6_B rc K6 a1 a2 a3 σ = some (rr, σ')) : gx_Ev lay0 (E0 D) tt_79 (some (.int rr)) σ' 6 [.ref 39, .int a1, .int a2, .int a3, .null] [] σ := by
  unfold Re_product_6_B at hf
  rcases z_if_inv hf with ⟨h1, hf⟩ | ⟨h1, hf⟩
  · obtain ⟨h2, hf⟩ := z_ck_inv hf
    obtain ⟨e1, e2⟩ := z_ret hf
    subst e1
    subst e2
    exact gx_end 5 [.inl 1] [(300 : Int32) ≤ a3, a2 &&& 1 = a2] rfl ⟨h1, (z_bo_in h2), trivial⟩
  · rcases z_if_inv hf with ⟨h3, hf⟩ | ⟨h3, hf⟩
    · obtain ⟨h4, hf⟩ := z_ck_inv hf
      obtain ⟨e1, e2⟩ := z_ret hf
      subst e1
      subst e2
      exact gx_end 7 [.inl 0, .inl 1] [¬ ((300 : Int32) ≤ a3), a2 = 0, a2 &&& 1 = a2] rfl ⟨h1, h3, (z_bo_in h4), trivial⟩
    · rcases z_if_inv hf with ⟨h5, hf⟩ | ⟨h5, hf⟩
      · exact gx_go_ 9 [.inl 0, .inl 0, .inl 1] [¬ ((300 : Int32) ≤ a3), ¬ (a2 = 0), (σ 39 8) = (39 : Int32)] 19 [.ref 39, .int a1, .int a2, .int a3, .null] [] σ rfl ⟨h1, h3, h5, trivial⟩ (gx_fgt (ls' := [.ref 39, .int a1, .null, .int a3, .null]) ⟨Or.inr rfl, Or.inr rfl, Or.inl rfl, Or.inr rfl, Or.inl rfl, trivial⟩ (vv_Re_product_19 D hD rr σ' rc hrc0 hrc1 hrc2 hrc3 hrc4 hrc5 hrc6 K6 hK6 a1 a3 σ hf))
      · rcases z_if_inv hf with ⟨h6, hf⟩ | ⟨h6, hf⟩
        · exact gx_go_ 13 [.inl 0, .inl 0, .inl 0, .inl 0] [¬ ((300 : Int32) ≤ a3), ¬ (a2 = 0), ¬ ((σ 39 8) = (39 : Int32)), ¬ ¬ ((σ 39 8) = (40 : Int32))] 19 [.ref 39, .int a1, .int a2, .int a3, .null] [] σ rfl ⟨h1, h3, h5, (fun q => q h6), trivial⟩ (gx_fgt (ls' := [.ref 39, .int a1, .null, .int a3, .null]) ⟨Or.inr rfl, Or.inr rfl, Or.inl rfl, Or.inr rfl, Or.inl rfl, trivial⟩ (vv_Re_product_19 D hD rr σ' rc hrc0 hrc1 hrc2 hrc3 hrc4 hrc5 hrc6 K6 hK6 a1 a3 σ hf))
        · obtain ⟨h7, hf⟩ := z_ck_inv hf
          obtain ⟨e1, e2⟩ := z_ret hf
          subst e1
          subst e2
          exact gx_end 15 [.inl 0, .inl 0, .inl 0, .inl 1] [¬ ((300 : Int32) ≤ a3), ¬ (a2 = 0), ¬ ((σ 39 8) = (39 : Int32)), ¬ ((σ 39 8) = (40 : Int32)), a2 &&& 1 = a2] rfl ⟨h1, h3, h5, h6, (z_bo_in h7), trivial⟩
set_option maxHeartbeats 16000000 in
set_option maxRecDepth 20000 in
theorem vv_Re_product_6 (D : Nat) (hD : 3 ≤ D + 1) (rr : Int32) (σ' : gx_R) (rc : Nat → Int32 → gx_R → Option (Int32 × gx_R)) (hrc0 : ∀ (a1 : Int32) (σ : gx_R) (r : Int32) (σ1 : gx_R), rc 0 a1 σ = some (r, σ1) → E0 D 86 [.ref 39, .int a1] σ (some (.int r)) σ1) (hrc1 : ∀ (a1 : Int32) (σ : gx_R) (r : Int32) (σ1 : gx_R), rc 1 a1 σ = some (r, σ1) → E0 D 85 [.ref 39, .int a1] σ (some (.int r)) σ1) (hrc2 : ∀ (a1 : Int32) (σ : gx_R) (r : Int32) (σ1 : gx_R), rc 2 a1 σ = some (r, σ1) → E0 D 83 [.ref 39, .int a1] σ (some (.int r)) σ1) (hrc3 : ∀ (a1 : Int32) (σ : gx_R) (r : Int32) (σ1 : gx_R), rc 3 a1 σ = some (r, σ1) → E0 D 84 [.ref 39, .int a1] σ (some (.int r)) σ1) (hrc4 : ∀ (a1 : Int32) (σ : gx_R) (r : Int32) (σ1 : gx_R), rc 4 a1 σ = some (r, σ1) → E0 D 80 [.ref 39, .int a1] σ (some (.int r)) σ1) (hrc5 : ∀ (a1 : Int32) (σ : gx_R) (r : Int32) (σ1 : gx_R), rc 5 a1 σ = some (r, σ1) → E0 D 79 [.ref 39, .int a1] σ (some (.int r)) σ1) (hrc6 : ∀ (a1 : Int32) (σ : gx_R) (r : Int32) (σ1 : gx_R), rc 6 a1 σ = some (r, σ1) → E0 D 78 [.ref 39, .int a1] σ (some (.int r)) σ1) : ∀ (n : Nat) (a1 : Int32) (a2 : Int32) (a3 : Int32) (σ : gx_R), Re_product_6 rc n a1 a2 a3 σ = some (rr, σ') → gx_Ev lay0 (E0 D) tt_79 (some (.int rr)) σ' 6 [.ref 39, .int a1, .int a2, .int a3, .null] [] σ := by
  intro n
  induction n with
  | zero => intro a1 a2 a3 σ  hf; cases hf
  | succ n ih => intro a1 a2 a3 σ  hf; exact vv_Re_product_6_B D hD rr σ' rc hrc0 hrc1 hrc2 hrc3 hrc4 hrc5 hrc6 (Re_product_6 rc n) ih a1 a2 a3 σ  hf
set_option maxHeartbeats 16000000 in
set_option maxRecDepth 20000 in
theorem vv_Re_product_E (D : Nat) (hD : 3 ≤ D + 1) (rr : Int32) (σ' : gx_R) (rc : Nat → Int32 → gx_R → Option (Int32 × gx_R)) (hrc0 : ∀ (a1 : Int32) (σ : gx_R) (r : Int32) (σ1 : gx_R), rc 0 a1 σ = some (r, σ1) → E0 D 86 [.ref 39, .int a1] σ (some (.int r)) σ1) (hrc1 : ∀ (a1 : Int32) (σ : gx_R) (r : Int32) (σ1 : gx_R), rc 1 a1 σ = some (r, σ1) → E0 D 85 [.ref 39, .int a1] σ (some (.int r)) σ1) (hrc2 : ∀ (a1 : Int32) (σ : gx_R) (r : Int32) (σ1 : gx_R), rc 2 a1 σ = some (r, σ1) → E0 D 83 [.ref 39, .int a1] σ (some (.int r)) σ1) (hrc3 : ∀ (a1 : Int32) (σ : gx_R) (r : Int32) (σ1 : gx_R), rc 3 a1 σ = some (r, σ1) → E0 D 84 [.ref 39, .int a1] σ (some (.int r)) σ1) (hrc4 : ∀ (a1 : Int32) (σ : gx_R) (r : Int32) (σ1 : gx_R), rc 4 a1 σ = some (r, σ1) → E0 D 80 [.ref 39, .int a1] σ (some (.int r)) σ1) (hrc5 : ∀ (a1 : Int32) (σ : gx_R) (r : Int32) (σ1 : gx_R), rc 5 a1 σ = some (r, σ1) → E0 D 79 [.ref 39, .int a1] σ (some (.int r)) σ1) (hrc6 : ∀ (a1 : Int32) (σ : gx_R) (r : Int32) (σ1 : gx_R), rc 6 a1 σ = some (r, σ1) → E0 D 78 [.ref 39, .int a1] σ (some (.int r)) σ1) (a1 : Int32) (σ : gx_R) (hf : Re_product_E rc a1 σ = some (rr, σ')) : gx_Ev lay0 (E0 D) tt_79 (some (.int rr)) σ' 0 [.ref 39, .int a1, .null, .null, .null] [] σ := by
  unfold Re_product_E at hf
  obtain ⟨r1, σ2, h3, hf⟩ := z_bd_inv hf
  exact gx_go_ 6 [.inr (some (.int r1), σ2)] [E0 D 80 [.ref 39, .int a1] σ (some (.int r1)) σ2] 6 [.ref 39, .int a1, .int r1, .int (0 : Int32), .null] [] σ2 rfl ⟨(hrc4 a1 σ r1 σ2 h3), trivial⟩ (gx_fgt (ls' := [.ref 39, .int a1, .int r1, .int (0 : Int32), .null]) ⟨Or.inr rfl, Or.inr rfl, Or.inr rfl, Or.inr rfl, Or.inl rfl, trivial⟩ (vv_Re_product_6 D hD rr σ' rc hrc0 hrc1 hrc2 hrc3 hrc4 hrc5 hrc6 z_FU a1 r1 (0 : Int32) σ2 hf))
set_option maxHeartbeats 16000000 in
set_option maxRecDepth 20000 in
theorem vv_Re_sum_19 (D : Nat) (hD : 3 ≤ D + 1) (rr : Int32) (σ' : gx_R) (rc : Nat → Int32 → gx_R → Option (Int32 × gx_R)) (hrc0 : ∀ (a1 : Int32) (σ : gx_R) (r : Int32) (σ1 : gx_R), rc 0 a1 σ = some (r, σ1) → E0 D 86 [.ref 39, .int a1] σ (some (.int r)) σ1) (hrc1 : ∀ (a1 : Int32) (σ : gx_R) (r : Int32) (σ1 : gx_R), rc 1 a1 σ = some (r, σ1) → E0 D 85 [.ref 39, .int a1] σ (some (.int r)) σ1) (hrc2 : ∀ (a1 : Int32) (σ : gx_R) (r : Int32) (σ1 : gx_R), rc 2 a1 σ = some (r, σ1) → E0 D 83 [.ref 39, .int a1] σ (some (.int r)) σ1) (hrc3 : ∀ (a1 : Int32) (σ : gx_R) (r : Int32) (σ1 : gx_R), rc 3 a1 σ = some (r, σ1) → E0 D 84 [.ref 39, .int a1] σ (some (.int r)) σ1) (hrc4 : ∀ (a1 : Int32) (σ : gx_R) (r : Int32) (σ1 : gx_R), rc 4 a1 σ = some (r, σ1) → E0 D 80 [.ref 39, .int a1] σ (some (.int r)) σ1) (hrc5 : ∀ (a1 : Int32) (σ : gx_R) (r : Int32) (σ1 : gx_R), rc 5 a1 σ = some (r, σ1) → E0 D 79 [.ref 39, .int a1] σ (some (.int r)) σ1) (hrc6 : ∀ (a1 : Int32) (σ : gx_R) (r : Int32) (σ1 : gx_R), rc 6 a1 σ = some (r, σ1) → E0 D 78 [.ref 39, .int a1] σ (some (.int r)) σ1) (K6 : Int32 → Int32 → Int32 → gx_R → Option (Int32 × gx_R)) (hK6 : ∀ (a1 : Int32) (a2 : Int32) (a3 : Int32) (σ : gx_R), K6 a1 a2 a3 σ = some (rr, σ') → gx_Ev lay0 (E0 D) tt_78 (some (.int rr)) σ' 6 [.ref 39, .int a1, .int a2, .int a3, .null] [] σ) (a1 : Int32) (a3 : Int32) (σ : gx_R) (hf : Re_sum_19 rc K6 a1 a3 σ = some (rr, σ')) : gx_Ev lay0 (E0 D) tt_78 (some (.int rr)) σ' 19 [.ref 39, .int a1, .null, .int a3, .null] [] σ := by
  unfold Re_sum_19 at hf
  obtain ⟨⟨⟩, σ2, h3, hf⟩ := z_bd_inv hf
  obtain ⟨r4, σ5, h6, hf⟩ := z_bd_inv hf
  obtain ⟨⟨⟩, σ8, h9, hf⟩ := z_bd_inv hf
  exact gx_go_ 15 [.inr (none, σ2), .inr (some (.int r4), σ5), .inr (none, σ8)] [E0 D 71 [.ref 39] σ (none) σ2, E0 D 79 [.ref 39, .int a1] σ2 (some (.int r4)) σ5, E0 D 16 [.ref 43, .int (σ 39 8)] σ5 (none) σ8] 6 [.ref 39, .int a1, .int r4, .int (a3 + 1), .int (σ 39 8)] [] σ8 rfl ⟨(ww_Re_advance D (by omega) σ () σ2 h3), (hrc5 a1 σ2 r4 σ5 h6), (ww_Te_put D (by omega) (σ 39 8) σ5 () σ8 h9), trivial⟩ (gx_fgt (ls' := [.ref 39, .int a1, .int r4, .int (a3 + 1), .null]) ⟨Or.inr rfl, Or.inr rfl, Or.inr rfl, Or.inr rfl, Or.inl rfl, trivial⟩ (hK6 a1 r4 (a3 + 1) σ8 hf))
set_option maxHeartbeats 16000000 in
set_option maxRecDepth 20000 in
theorem vv_Re_sum_6_B (D : Nat) (hD : 3 ≤ D + 1) (rr : Int32) (σ' : gx_R) (rc : Nat → Int32 → gx_R → Option (Int32 × gx_R)) (hrc0 : ∀ (a1 : Int32) (σ : gx_R) (r : Int32) (σ1 : gx_R), rc 0 a1 σ = some (r, σ1) → E0 D 86 [.ref 39, .int a1] σ (some (.int r)) σ1) (hrc1 : ∀ (a1 : Int32) (σ : gx_R) (r : Int32) (σ1 : gx_R), rc 1 a1 σ = some (r, σ1) → E0 D 85 [.ref 39, .int a1] σ (some (.int r)) σ1) (hrc2 : ∀ (a1 : Int32) (σ : gx_R) (r : Int32) (σ1 : gx_R), rc 2 a1 σ = some (r, σ1) → E0 D 83 [.ref 39, .int a1] σ (some (.int r)) σ1) (hrc3 : ∀ (a1 : Int32) (σ : gx_R) (r : Int32) (σ1 : gx_R), rc 3 a1 σ = some (r, σ1) → E0 D 84 [.ref 39, .int a1] σ (some (.int r)) σ1) (hrc4 : ∀ (a1 : Int32) (σ : gx_R) (r : Int32) (σ1 : gx_R), rc 4 a1 σ = some (r, σ1) → E0 D 80 [.ref 39, .int a1] σ (some (.int r)) σ1) (hrc5 : ∀ (a1 : Int32) (σ : gx_R) (r : Int32) (σ1 : gx_R), rc 5 a1 σ = some (r, σ1) → E0 D 79 [.ref 39, .int a1] σ (some (.int r)) σ1) (hrc6 : ∀ (a1 : Int32) (σ : gx_R) (r : Int32) (σ1 : gx_R), rc 6 a1 σ = some (r, σ1) → E0 D 78 [.ref 39, .int a1] σ (some (.int r)) σ1) (K6 : Int32 → Int32 → Int32 → gx_R → Option (Int32 × gx_R)) (hK6 : ∀ (a1 : Int32) (a2 : Int32) (a3 : Int32) (σ : gx_R), K6 a1 a2 a3 σ = some (rr, σ') → gx_Ev lay0 (E0 D) tt_78 (some (.int rr)) σ' 6 [.ref 39, .int a1, .int a2, .int a3, .null] [] σ) (a1 : Int32) (a2 : Int32) (a3 : Int32) (σ : gx_R) (hf : Re_sum_6_B rc K6 a1 a2 a3 σ = some (rr, σ')) : gx_Ev lay0 (E0 D) tt_78 (some (.int rr)) σ' 6 [.ref 39, .int a1, .int a2, .int a3, .null] [] σ := by
  unfold Re_sum_6_B at hf
  rcases z_if_inv hf with ⟨h1, hf⟩ | ⟨h1, hf⟩
  · obtain ⟨h2, hf⟩ := z_ck_inv hf
    obtain ⟨e1, e2⟩ := z_ret hf
    subst e1
    subst e2
    exact gx_end 5 [.inl 1] [(300 : Int32) ≤ a3, a2 &&& 1 = a2] rfl ⟨h1, (z_bo_in h2), trivial⟩
  · rcases z_if_inv hf with ⟨h3, hf⟩ | ⟨h3, hf⟩
    · obtain ⟨h4, hf⟩ := z_ck_inv hf
      obtain ⟨e1, e2⟩ := z_ret hf
      subst e1
      subst e2
      exact gx_end 7 [.inl 0, .inl 1] [¬ ((300 : Int32) ≤ a3), a2 = 0, a2 &&& 1 = a2] rfl ⟨h1, h3, (z_bo_in h4), trivial⟩
    · rcases z_if_inv hf with ⟨h5, hf⟩ | ⟨h5, hf⟩
      · exact gx_go_ 9 [.inl 0, .inl 0, .inl 1] [¬ ((300 : Int32) ≤ a3), ¬ (a2 = 0), (σ 39 8) = (37 : Int32)] 19 [.ref 39, .int a1, .int a2, .int a3, .null] [] σ rfl ⟨h1, h3, h5, trivial⟩ (gx_fgt (ls' := [.ref 39, .int a1, .null, .int a3, .null]) ⟨Or.inr rfl, Or.inr rfl, Or.inl rfl, Or.inr rfl, Or.inl rfl, trivial⟩ (vv_Re_sum_19 D hD rr σ' rc hrc0 hrc1 hrc2 hrc3 hrc4 hrc5 hrc6 K6 hK6 a1 a3 σ hf))
      · rcases z_if_inv hf with ⟨h6, hf⟩ | ⟨h6, hf⟩
        · exact gx_go_ 13 [.inl 0, .inl 0, .inl 0, .inl 0] [¬ ((300 : Int32) ≤ a3), ¬ (a2 = 0), ¬ ((σ 39 8) = (37 : Int32)), ¬ ¬ ((σ 39 8) = (38 : Int32))] 19 [.ref 39, .int a1, .int a2, .int a3, .null] [] σ rfl ⟨h1, h3, h5, (fun q => q h6), trivial⟩ (gx_fgt (ls' := [.ref 39, .int a1, .null, .int a3, .null]) ⟨Or.inr rfl, Or.inr rfl, Or.inl rfl, Or.inr rfl, Or.inl rfl, trivial⟩ (vv_Re_sum_19 D hD rr σ' rc hrc0 hrc1 hrc2 hrc3 hrc4 hrc5 hrc6 K6 hK6 a1 a3 σ hf))
        · obtain ⟨h7, hf⟩ := z_ck_inv hf
          obtain ⟨e1, e2⟩ := z_ret hf
          subst e1
          subst e2
          exact gx_end 15 [.inl 0, .inl 0, .inl 0, .inl 1] [¬ ((300 : Int32) ≤ a3), ¬ (a2 = 0), ¬ ((σ 39 8) = (37 : Int32)), ¬ ((σ 39 8) = (38 : Int32)), a2 &&& 1 = a2] rfl ⟨h1, h3, h5, h6, (z_bo_in h7), trivial⟩
set_option maxHeartbeats 16000000 in
set_option maxRecDepth 20000 in
theorem vv_Re_sum_6 (D : Nat) (hD : 3 ≤ D + 1) (rr : Int32) (σ' : gx_R) (rc : Nat → Int32 → gx_R → Option (Int32 × gx_R)) (hrc0 : ∀ (a1 : Int32) (σ : gx_R) (r : Int32) (σ1 : gx_R), rc 0 a1 σ = some (r, σ1) → E0 D 86 [.ref 39, .int a1] σ (some (.int r)) σ1) (hrc1 : ∀ (a1 : Int32) (σ : gx_R) (r : Int32) (σ1 : gx_R), rc 1 a1 σ = some (r, σ1) → E0 D 85 [.ref 39, .int a1] σ (some (.int r)) σ1) (hrc2 : ∀ (a1 : Int32) (σ : gx_R) (r : Int32) (σ1 : gx_R), rc 2 a1 σ = some (r, σ1) → E0 D 83 [.ref 39, .int a1] σ (some (.int r)) σ1) (hrc3 : ∀ (a1 : Int32) (σ : gx_R) (r : Int32) (σ1 : gx_R), rc 3 a1 σ = some (r, σ1) → E0 D 84 [.ref 39, .int a1] σ (some (.int r)) σ1) (hrc4 : ∀ (a1 : Int32) (σ : gx_R) (r : Int32) (σ1 : gx_R), rc 4 a1 σ = some (r, σ1) → E0 D 80 [.ref 39, .int a1] σ (some (.int r)) σ1) (hrc5 : ∀ (a1 : Int32) (σ : gx_R) (r : Int32) (σ1 : gx_R), rc 5 a1 σ = some (r, σ1) → E0 D 79 [.ref 39, .int a1] σ (some (.int r)) σ1) (hrc6 : ∀ (a1 : Int32) (σ : gx_R) (r : Int32) (σ1 : gx_R), rc 6 a1 σ = some (r, σ1) → E0 D 78 [.ref 39, .int a1] σ (some (.int r)) σ1) : ∀ (n : Nat) (a1 : Int32) (a2 : Int32) (a3 : Int32) (σ : gx_R), Re_sum_6 rc n a1 a2 a3 σ = some (rr, σ') → gx_Ev lay0 (E0 D) tt_78 (some (.int rr)) σ' 6 [.ref 39, .int a1, .int a2, .int a3, .null] [] σ := by
  intro n
  induction n with
  | zero => intro a1 a2 a3 σ  hf; cases hf
  | succ n ih => intro a1 a2 a3 σ  hf; exact vv_Re_sum_6_B D hD rr σ' rc hrc0 hrc1 hrc2 hrc3 hrc4 hrc5 hrc6 (Re_sum_6 rc n) ih a1 a2 a3 σ  hf
set_option maxHeartbeats 16000000 in
set_option maxRecDepth 20000 in
theorem vv_Re_sum_E (D : Nat) (hD : 3 ≤ D + 1) (rr : Int32) (σ' : gx_R) (rc : Nat → Int32 → gx_R → Option (Int32 × gx_R)) (hrc0 : ∀ (a1 : Int32) (σ : gx_R) (r : Int32) (σ1 : gx_R), rc 0 a1 σ = some (r, σ1) → E0 D 86 [.ref 39, .int a1] σ (some (.int r)) σ1) (hrc1 : ∀ (a1 : Int32) (σ : gx_R) (r : Int32) (σ1 : gx_R), rc 1 a1 σ = some (r, σ1) → E0 D 85 [.ref 39, .int a1] σ (some (.int r)) σ1) (hrc2 : ∀ (a1 : Int32) (σ : gx_R) (r : Int32) (σ1 : gx_R), rc 2 a1 σ = some (r, σ1) → E0 D 83 [.ref 39, .int a1] σ (some (.int r)) σ1) (hrc3 : ∀ (a1 : Int32) (σ : gx_R) (r : Int32) (σ1 : gx_R), rc 3 a1 σ = some (r, σ1) → E0 D 84 [.ref 39, .int a1] σ (some (.int r)) σ1) (hrc4 : ∀ (a1 : Int32) (σ : gx_R) (r : Int32) (σ1 : gx_R), rc 4 a1 σ = some (r, σ1) → E0 D 80 [.ref 39, .int a1] σ (some (.int r)) σ1) (hrc5 : ∀ (a1 : Int32) (σ : gx_R) (r : Int32) (σ1 : gx_R), rc 5 a1 σ = some (r, σ1) → E0 D 79 [.ref 39, .int a1] σ (some (.int r)) σ1) (hrc6 : ∀ (a1 : Int32) (σ : gx_R) (r : Int32) (σ1 : gx_R), rc 6 a1 σ = some (r, σ1) → E0 D 78 [.ref 39, .int a1] σ (some (.int r)) σ1) (a1 : Int32) (σ : gx_R) (hf : Re_sum_E rc a1 σ = some (rr, σ')) : gx_Ev lay0 (E0 D) tt_78 (some (.int rr)) σ' 0 [.ref 39, .int a1, .null, .null, .null] [] σ := by
  unfold Re_sum_E at hf
  obtain ⟨r1, σ2, h3, hf⟩ := z_bd_inv hf
  exact gx_go_ 6 [.inr (some (.int r1), σ2)] [E0 D 79 [.ref 39, .int a1] σ (some (.int r1)) σ2] 6 [.ref 39, .int a1, .int r1, .int (0 : Int32), .null] [] σ2 rfl ⟨(hrc5 a1 σ r1 σ2 h3), trivial⟩ (gx_fgt (ls' := [.ref 39, .int a1, .int r1, .int (0 : Int32), .null]) ⟨Or.inr rfl, Or.inr rfl, Or.inr rfl, Or.inr rfl, Or.inl rfl, trivial⟩ (vv_Re_sum_6 D hD rr σ' rc hrc0 hrc1 hrc2 hrc3 hrc4 hrc5 hrc6 z_FU a1 r1 (0 : Int32) σ2 hf))
set_option maxHeartbeats 16000000 in
set_option maxRecDepth 20000 in
theorem ww_Re_rec : ∀ (d D : Nat) (hD : 2 + d ≤ D), (∀ (a1 : Int32) (σ : gx_R) (r : Int32) (σ1 : gx_R), Re_rec d 0 a1 σ = some (r, σ1) → E0 D 86 [.ref 39, .int a1] σ (some (.int r)) σ1) ∧ (∀ (a1 : Int32) (σ : gx_R) (r : Int32) (σ1 : gx_R), Re_rec d 1 a1 σ = some (r, σ1) → E0 D 85 [.ref 39, .int a1] σ (some (.int r)) σ1) ∧ (∀ (a1 : Int32) (σ : gx_R) (r : Int32) (σ1 : gx_R), Re_rec d 2 a1 σ = some (r, σ1) → E0 D 83 [.ref 39, .int a1] σ (some (.int r)) σ1) ∧ (∀ (a1 : Int32) (σ : gx_R) (r : Int32) (σ1 : gx_R), Re_rec d 3 a1 σ = some (r, σ1) → E0 D 84 [.ref 39, .int a1] σ (some (.int r)) σ1) ∧ (∀ (a1 : Int32) (σ : gx_R) (r : Int32) (σ1 : gx_R), Re_rec d 4 a1 σ = some (r, σ1) → E0 D 80 [.ref 39, .int a1] σ (some (.int r)) σ1) ∧ (∀ (a1 : Int32) (σ : gx_R) (r : Int32) (σ1 : gx_R), Re_rec d 5 a1 σ = some (r, σ1) → E0 D 79 [.ref 39, .int a1] σ (some (.int r)) σ1) ∧ (∀ (a1 : Int32) (σ : gx_R) (r : Int32) (σ1 : gx_R), Re_rec d 6 a1 σ = some (r, σ1) → E0 D 78 [.ref 39, .int a1] σ (some (.int r)) σ1) := by
  intro d
  induction d with
  | zero => intro D hD; exact ⟨fun a1 σ r σ1 h => (by cases h), fun a1 σ r σ1 h => (by cases h), fun a1 σ r σ1 h => (by cases h), fun a1 σ r σ1 h => (by cases h), fun a1 σ r σ1 h => (by cases h), fun a1 σ r σ1 h => (by cases h), fun a1 σ r σ1 h => (by cases h)⟩
  | succ d ih =>
    intro D hD
    cases D with
    | zero => omega
    | succ D =>
      obtain ⟨i0, i1, i2, i3, i4, i5, i6⟩ := ih D (by omega)
      exact ⟨fun a1 σ r σ1 h => Or.inl ⟨Nat.le_of_ble_eq_true rfl, vv_Re_ask_E D (by omega) r σ1 (Re_rec d) i0 i1 i2 i3 i4 i5 i6 a1 σ h⟩, fun a1 σ r σ1 h => Or.inl ⟨Nat.le_of_ble_eq_true rfl, vv_Re_both_E D (by omega) r σ1 (Re_rec d) i0 i1 i2 i3 i4 i5 i6 a1 σ h⟩, fun a1 σ r σ1 h => Or.inl ⟨Nat.le_of_ble_eq_true rfl, vv_Re_choice_E D (by omega) r σ1 (Re_rec d) i0 i1 i2 i3 i4 i5 i6 a1 σ h⟩, fun a1 σ r σ1 h => Or.inl ⟨Nat.le_of_ble_eq_true rfl, vv_Re_either_E D (by omega) r σ1 (Re_rec d) i0 i1 i2 i3 i4 i5 i6 a1 σ h⟩, fun a1 σ r σ1 h => Or.inl ⟨Nat.le_of_ble_eq_true rfl, vv_Re_one_E D (by omega) r σ1 (Re_rec d) i0 i1 i2 i3 i4 i5 i6 a1 σ h⟩, fun a1 σ r σ1 h => Or.inl ⟨Nat.le_of_ble_eq_true rfl, vv_Re_product_E D (by omega) r σ1 (Re_rec d) i0 i1 i2 i3 i4 i5 i6 a1 σ h⟩, fun a1 σ r σ1 h => Or.inl ⟨Nat.le_of_ble_eq_true rfl, vv_Re_sum_E D (by omega) r σ1 (Re_rec d) i0 i1 i2 i3 i4 i5 i6 a1 σ h⟩⟩
set_option maxHeartbeats 16000000 in
set_option maxRecDepth 20000 in
theorem ww_Re_ask (D : Nat) (hD : 122 ≤ D) (a1 : Int32) (σ : gx_R) (rr : Int32) (σ' : gx_R) (hf : Re_ask a1 σ = some (rr, σ')) : E0 D 86 [.ref 39, .int a1] σ (some (.int rr)) σ' := (ww_Re_rec 120 D (by omega)).1 a1 σ rr σ' hf
set_option maxHeartbeats 16000000 in
set_option maxRecDepth 20000 in
theorem ww_Re_both (D : Nat) (hD : 122 ≤ D) (a1 : Int32) (σ : gx_R) (rr : Int32) (σ' : gx_R) (hf : Re_both a1 σ = some (rr, σ')) : E0 D 85 [.ref 39, .int a1] σ (some (.int rr)) σ' := (ww_Re_rec 120 D (by omega)).2.1 a1 σ rr σ' hf
set_option maxHeartbeats 16000000 in
set_option maxRecDepth 20000 in
theorem ww_Re_choice (D : Nat) (hD : 122 ≤ D) (a1 : Int32) (σ : gx_R) (rr : Int32) (σ' : gx_R) (hf : Re_choice a1 σ = some (rr, σ')) : E0 D 83 [.ref 39, .int a1] σ (some (.int rr)) σ' := (ww_Re_rec 120 D (by omega)).2.2.1 a1 σ rr σ' hf
set_option maxHeartbeats 16000000 in
set_option maxRecDepth 20000 in
theorem ww_Re_either (D : Nat) (hD : 122 ≤ D) (a1 : Int32) (σ : gx_R) (rr : Int32) (σ' : gx_R) (hf : Re_either a1 σ = some (rr, σ')) : E0 D 84 [.ref 39, .int a1] σ (some (.int rr)) σ' := (ww_Re_rec 120 D (by omega)).2.2.2.1 a1 σ rr σ' hf
set_option maxHeartbeats 16000000 in
set_option maxRecDepth 20000 in
theorem ww_Re_one (D : Nat) (hD : 122 ≤ D) (a1 : Int32) (σ : gx_R) (rr : Int32) (σ' : gx_R) (hf : Re_one a1 σ = some (rr, σ')) : E0 D 80 [.ref 39, .int a1] σ (some (.int rr)) σ' := (ww_Re_rec 120 D (by omega)).2.2.2.2.1 a1 σ rr σ' hf
set_option maxHeartbeats 16000000 in
set_option maxRecDepth 20000 in
theorem ww_Re_product (D : Nat) (hD : 122 ≤ D) (a1 : Int32) (σ : gx_R) (rr : Int32) (σ' : gx_R) (hf : Re_product a1 σ = some (rr, σ')) : E0 D 79 [.ref 39, .int a1] σ (some (.int rr)) σ' := (ww_Re_rec 120 D (by omega)).2.2.2.2.2.1 a1 σ rr σ' hf
set_option maxHeartbeats 16000000 in
set_option maxRecDepth 20000 in
theorem ww_Re_sum (D : Nat) (hD : 122 ≤ D) (a1 : Int32) (σ : gx_R) (rr : Int32) (σ' : gx_R) (hf : Re_sum a1 σ = some (rr, σ')) : E0 D 78 [.ref 39, .int a1] σ (some (.int rr)) σ' := (ww_Re_rec 120 D (by omega)).2.2.2.2.2.2 a1 σ rr σ' hf
set_option maxHeartbeats 16000000 in
set_option maxRecDepth 20000 in
theorem vv_Re_lawOf_E (D : Nat) (hD : 123 ≤ D + 1) (rr : Int32) (σ' : gx_R) (a1 : Int32) (σ : gx_R) (hf : Re_lawOf a1 σ = some (rr, σ')) : gx_Ev lay0 (E0 D) tt_75 (some (.int rr)) σ' 0 [.ref 39, .int a1, .null] [] σ := by
  unfold Re_lawOf at hf
  obtain ⟨h1, hf⟩ := z_ck_inv hf
  obtain ⟨r2, σ3, h4, hf⟩ := z_bd_inv hf
  obtain ⟨⟨⟩, σ6, h7, hf⟩ := z_bd_inv hf
  obtain ⟨h8, hf⟩ := z_ck_inv hf
  obtain ⟨e1, e2⟩ := z_ret hf
  subst e1
  subst e2
  exact gx_end 21 [.inr (some (.int r2), σ3), .inr (none, σ6)] [vp_in a1 4, E0 D 78 [.ref 39, .int (0 : Int32)] (gx_up (gx_up σ 39 9 a1) 48 a1.toNatClampNeg ((gx_up σ 39 9 a1) 43 7)) (some (.int r2)) σ3, E0 D 16 [.ref 43, .int (43 : Int32)] σ3 (none) σ6, r2 &&& 1 = r2] rfl ⟨(z_ix_in h1), (ww_Re_sum D (by omega) (0 : Int32) (gx_up (gx_up σ 39 9 a1) 48 a1.toNatClampNeg ((gx_up σ 39 9 a1) 43 7)) r2 σ3 h4), (ww_Te_put D (by omega) (43 : Int32) σ3 () σ6 h7), (z_bo_in h8), trivial⟩
set_option maxHeartbeats 16000000 in
set_option maxRecDepth 20000 in
theorem ww_Re_lawOf (D : Nat) (hD : 123 ≤ D) (a1 : Int32) (σ : gx_R) (rr : Int32) (σ' : gx_R) (hf : Re_lawOf a1 σ = some (rr, σ')) : E0 D 75 [.ref 39, .int a1] σ (some (.int rr)) σ' := by
  cases D with
  | zero => omega
  | succ D => exact Or.inl ⟨Nat.le_of_ble_eq_true rfl, vv_Re_lawOf_E D hD rr σ' a1 σ hf⟩
set_option maxHeartbeats 16000000 in
set_option maxRecDepth 20000 in
theorem vv_Re_numberOf_40 (D : Nat) (hD : 2 ≤ D + 1) (rr : Int32) (σ' : gx_R) (σ : gx_R) (hf : Re_numberOf_40  σ = some (rr, σ')) : gx_Ev lay0 (E0 D) tt_77 (some (.int rr)) σ' 40 [.ref 39, .null, .null, .null, .null] [] σ := by
  unfold Re_numberOf_40 at hf
  obtain ⟨⟨⟩, σ2, h3, hf⟩ := z_bd_inv hf
  obtain ⟨e1, e2⟩ := z_ret hf
  subst e1
  subst e2
  exact gx_end 4 [.inr (none, σ2)] [E0 D 71 [.ref 39] σ (none) σ2, (1 : Int32) &&& 1 = (1 : Int32)] rfl ⟨(ww_Re_advance D (by omega) σ () σ2 h3), rfl, trivial⟩
set_option maxHeartbeats 16000000 in
set_option maxRecDepth 20000 in
theorem vv_Re_numberOf_22 (D : Nat) (hD : 2 ≤ D + 1) (rr : Int32) (σ' : gx_R) (σ : gx_R) (hf : Re_numberOf_22  σ = some (rr, σ')) : gx_Ev lay0 (E0 D) tt_77 (some (.int rr)) σ' 22 [.ref 39, .null, .null, .null, .null] [] σ := by
  unfold Re_numberOf_22 at hf
  obtain ⟨r1, σ2, h3, hf⟩ := z_bd_inv hf
  obtain ⟨h4, hf⟩ := z_ck_inv hf
  obtain ⟨e1, e2⟩ := z_ret hf
  subst e1
  subst e2
  exact gx_end 4 [.inr (some (.int r1), σ2)] [E0 D 72 [.ref 39, .int (2 : Int32)] σ (some (.int r1)) σ2, r1 &&& 1 = r1] rfl ⟨(ww_Re_refuse D (by omega) (2 : Int32) σ r1 σ2 h3), (z_bo_in h4), trivial⟩
set_option maxHeartbeats 16000000 in
set_option maxRecDepth 20000 in
theorem vv_Re_numberOf_E_45 (D : Nat) (hD : 2 ≤ D + 1) (rr : Int32) (σ' : gx_R) (a2 : Int32) (a3 : Int32) (a4 : Int32) (σ : gx_R) (hf : Re_numberOf 45 a2 a3 a4 σ = some (rr, σ')) : gx_Ev lay0 (E0 D) tt_77 (some (.int rr)) σ' 0 [.ref 39, .ref 45, .int a2, .int a3, .int a4] [] σ := by
  unfold Re_numberOf at hf
  rcases z_if_inv hf with ⟨h1, hf⟩ | ⟨h1, hf⟩
  · obtain ⟨h2, hf⟩ := z_ck_inv hf
    rcases z_if_inv hf with ⟨h3, hf⟩ | ⟨h3, hf⟩
    · exact gx_go_ 11 [.inl 1, .inl 1] [(σ 39 8) = (30 : Int32), vp_in (σ 39 7) 301, (σ 42 ((σ 39 7).toNatClampNeg)) < a3] 22 [.ref 39, .ref 45, .int a2, .int a3, .int a4] [] σ rfl ⟨h1, (z_ix_in h2), h3, trivial⟩ (gx_fgt (ls' := [.ref 39, .null, .null, .null, .null]) ⟨Or.inr rfl, Or.inl rfl, Or.inl rfl, Or.inl rfl, Or.inl rfl, trivial⟩ (vv_Re_numberOf_22 D hD rr σ' σ hf))
    · obtain ⟨h4, hf⟩ := z_ck_inv hf
      rcases z_if_inv hf with ⟨h5, hf⟩ | ⟨h5, hf⟩
      · rcases z_if_inv hf with ⟨h6, hf⟩ | ⟨h6, hf⟩
        · exact gx_go_ 20 [.inl 1, .inl 0, .inl 1, .inl 1] [(σ 39 8) = (30 : Int32), vp_in (σ 39 7) 301, ¬ ((σ 42 ((σ 39 7).toNatClampNeg)) < a3), vp_in (σ 39 7) 301, (σ 42 ((σ 39 7).toNatClampNeg)) ≤ a4, a2 < 0] 40 [.ref 39, .ref 45, .int a2, .int a3, .int a4] [] σ rfl ⟨h1, (z_ix_in h2), h3, (z_ix_in h4), h5, h6, trivial⟩ (gx_fgt (ls' := [.ref 39, .null, .null, .null, .null]) ⟨Or.inr rfl, Or.inl rfl, Or.inl rfl, Or.inl rfl, Or.inl rfl, trivial⟩ (vv_Re_numberOf_40 D hD rr σ' σ hf))
        · rcases z_if_inv hf with ⟨h7, hf⟩ | ⟨h7, hf⟩
          · exact gx_go_ 24 [.inl 1, .inl 0, .inl 1, .inl 0, .inl 1] [(σ 39 8) = (30 : Int32), vp_in (σ 39 7) 301, ¬ ((σ 42 ((σ 39 7).toNatClampNeg)) < a3), vp_in (σ 39 7) 301, (σ 42 ((σ 39 7).toNatClampNeg)) ≤ a4, ¬ (a2 < 0), (nI 24) ≤ a2] 40 [.ref 39, .ref 45, .int a2, .int a3, .int a4] [] σ rfl ⟨h1, (z_ix_in h2), h3, (z_ix_in h4), h5, h6, h7, trivial⟩ (gx_fgt (ls' := [.ref 39, .null, .null, .null, .null]) ⟨Or.inr rfl, Or.inl rfl, Or.inl rfl, Or.inl rfl, Or.inl rfl, trivial⟩ (vv_Re_numberOf_40 D hD rr σ' σ hf))
          · obtain ⟨h8, hf⟩ := z_ck_inv hf
            obtain ⟨h9, hf⟩ := z_ck_inv hf
            exact gx_go_ 32 [.inl 1, .inl 0, .inl 1, .inl 0, .inl 0] [(σ 39 8) = (30 : Int32), vp_in (σ 39 7) 301, ¬ ((σ 42 ((σ 39 7).toNatClampNeg)) < a3), vp_in (σ 39 7) 301, (σ 42 ((σ 39 7).toNatClampNeg)) ≤ a4, ¬ (a2 < 0), ¬ ((nI 24) ≤ a2), vp_in (σ 39 7) 301, vp_in a2 24] 40 [.ref 39, .ref 45, .int a2, .int a3, .int a4] [] (gx_up σ 45 a2.toNatClampNeg (σ 42 ((σ 39 7).toNatClampNeg))) rfl ⟨h1, (z_ix_in h2), h3, (z_ix_in h4), h5, h6, h7, (z_ix_in h8), (z_ix_in h9), trivial⟩ (gx_fgt (ls' := [.ref 39, .null, .null, .null, .null]) ⟨Or.inr rfl, Or.inl rfl, Or.inl rfl, Or.inl rfl, Or.inl rfl, trivial⟩ (vv_Re_numberOf_40 D hD rr σ' (gx_up σ 45 a2.toNatClampNeg (σ 42 ((σ 39 7).toNatClampNeg))) hf))
      · exact gx_go_ 18 [.inl 1, .inl 0, .inl 0] [(σ 39 8) = (30 : Int32), vp_in (σ 39 7) 301, ¬ ((σ 42 ((σ 39 7).toNatClampNeg)) < a3), vp_in (σ 39 7) 301, ¬ ((σ 42 ((σ 39 7).toNatClampNeg)) ≤ a4)] 22 [.ref 39, .ref 45, .int a2, .int a3, .int a4] [] σ rfl ⟨h1, (z_ix_in h2), h3, (z_ix_in h4), h5, trivial⟩ (gx_fgt (ls' := [.ref 39, .null, .null, .null, .null]) ⟨Or.inr rfl, Or.inl rfl, Or.inl rfl, Or.inl rfl, Or.inl rfl, trivial⟩ (vv_Re_numberOf_22 D hD rr σ' σ hf))
  · obtain ⟨r10, σ11, h12, hf⟩ := z_bd_inv hf
    obtain ⟨h13, hf⟩ := z_ck_inv hf
    obtain ⟨e1, e2⟩ := z_ret hf
    subst e1
    subst e2
    exact gx_end 8 [.inl 0, .inr (some (.int r10), σ11)] [¬ ((σ 39 8) = (30 : Int32)), E0 D 72 [.ref 39, .int (1 : Int32)] σ (some (.int r10)) σ11, r10 &&& 1 = r10] rfl ⟨h1, (ww_Re_refuse D (by omega) (1 : Int32) σ r10 σ11 h12), (z_bo_in h13), trivial⟩
set_option maxHeartbeats 16000000 in
set_option maxRecDepth 20000 in
theorem ww_Re_numberOf_45 (D : Nat) (hD : 2 ≤ D) (a2 : Int32) (a3 : Int32) (a4 : Int32) (σ : gx_R) (rr : Int32) (σ' : gx_R) (hf : Re_numberOf 45 a2 a3 a4 σ = some (rr, σ')) : E0 D 77 [.ref 39, .ref 45, .int a2, .int a3, .int a4] σ (some (.int rr)) σ' := by
  cases D with
  | zero => omega
  | succ D => exact Or.inl ⟨Nat.le_of_ble_eq_true rfl, vv_Re_numberOf_E_45 D hD rr σ' a2 a3 a4 σ hf⟩
set_option maxHeartbeats 16000000 in
set_option maxRecDepth 20000 in
theorem vv_Re_numberOf_E_46 (D : Nat) (hD : 2 ≤ D + 1) (rr : Int32) (σ' : gx_R) (a2 : Int32) (a3 : Int32) (a4 : Int32) (σ : gx_R) (hf : Re_numberOf 46 a2 a3 a4 σ = some (rr, σ')) : gx_Ev lay0 (E0 D) tt_77 (some (.int rr)) σ' 0 [.ref 39, .ref 46, .int a2, .int a3, .int a4] [] σ := by
  unfold Re_numberOf at hf
  rcases z_if_inv hf with ⟨h1, hf⟩ | ⟨h1, hf⟩
  · obtain ⟨h2, hf⟩ := z_ck_inv hf
    rcases z_if_inv hf with ⟨h3, hf⟩ | ⟨h3, hf⟩
    · exact gx_go_ 11 [.inl 1, .inl 1] [(σ 39 8) = (30 : Int32), vp_in (σ 39 7) 301, (σ 42 ((σ 39 7).toNatClampNeg)) < a3] 22 [.ref 39, .ref 46, .int a2, .int a3, .int a4] [] σ rfl ⟨h1, (z_ix_in h2), h3, trivial⟩ (gx_fgt (ls' := [.ref 39, .null, .null, .null, .null]) ⟨Or.inr rfl, Or.inl rfl, Or.inl rfl, Or.inl rfl, Or.inl rfl, trivial⟩ (vv_Re_numberOf_22 D hD rr σ' σ hf))
    · obtain ⟨h4, hf⟩ := z_ck_inv hf
      rcases z_if_inv hf with ⟨h5, hf⟩ | ⟨h5, hf⟩
      · rcases z_if_inv hf with ⟨h6, hf⟩ | ⟨h6, hf⟩
        · exact gx_go_ 20 [.inl 1, .inl 0, .inl 1, .inl 1] [(σ 39 8) = (30 : Int32), vp_in (σ 39 7) 301, ¬ ((σ 42 ((σ 39 7).toNatClampNeg)) < a3), vp_in (σ 39 7) 301, (σ 42 ((σ 39 7).toNatClampNeg)) ≤ a4, a2 < 0] 40 [.ref 39, .ref 46, .int a2, .int a3, .int a4] [] σ rfl ⟨h1, (z_ix_in h2), h3, (z_ix_in h4), h5, h6, trivial⟩ (gx_fgt (ls' := [.ref 39, .null, .null, .null, .null]) ⟨Or.inr rfl, Or.inl rfl, Or.inl rfl, Or.inl rfl, Or.inl rfl, trivial⟩ (vv_Re_numberOf_40 D hD rr σ' σ hf))
        · rcases z_if_inv hf with ⟨h7, hf⟩ | ⟨h7, hf⟩
          · exact gx_go_ 24 [.inl 1, .inl 0, .inl 1, .inl 0, .inl 1] [(σ 39 8) = (30 : Int32), vp_in (σ 39 7) 301, ¬ ((σ 42 ((σ 39 7).toNatClampNeg)) < a3), vp_in (σ 39 7) 301, (σ 42 ((σ 39 7).toNatClampNeg)) ≤ a4, ¬ (a2 < 0), (nI 24) ≤ a2] 40 [.ref 39, .ref 46, .int a2, .int a3, .int a4] [] σ rfl ⟨h1, (z_ix_in h2), h3, (z_ix_in h4), h5, h6, h7, trivial⟩ (gx_fgt (ls' := [.ref 39, .null, .null, .null, .null]) ⟨Or.inr rfl, Or.inl rfl, Or.inl rfl, Or.inl rfl, Or.inl rfl, trivial⟩ (vv_Re_numberOf_40 D hD rr σ' σ hf))
          · obtain ⟨h8, hf⟩ := z_ck_inv hf
            obtain ⟨h9, hf⟩ := z_ck_inv hf
            exact gx_go_ 32 [.inl 1, .inl 0, .inl 1, .inl 0, .inl 0] [(σ 39 8) = (30 : Int32), vp_in (σ 39 7) 301, ¬ ((σ 42 ((σ 39 7).toNatClampNeg)) < a3), vp_in (σ 39 7) 301, (σ 42 ((σ 39 7).toNatClampNeg)) ≤ a4, ¬ (a2 < 0), ¬ ((nI 24) ≤ a2), vp_in (σ 39 7) 301, vp_in a2 24] 40 [.ref 39, .ref 46, .int a2, .int a3, .int a4] [] (gx_up σ 46 a2.toNatClampNeg (σ 42 ((σ 39 7).toNatClampNeg))) rfl ⟨h1, (z_ix_in h2), h3, (z_ix_in h4), h5, h6, h7, (z_ix_in h8), (z_ix_in h9), trivial⟩ (gx_fgt (ls' := [.ref 39, .null, .null, .null, .null]) ⟨Or.inr rfl, Or.inl rfl, Or.inl rfl, Or.inl rfl, Or.inl rfl, trivial⟩ (vv_Re_numberOf_40 D hD rr σ' (gx_up σ 46 a2.toNatClampNeg (σ 42 ((σ 39 7).toNatClampNeg))) hf))
      · exact gx_go_ 18 [.inl 1, .inl 0, .inl 0] [(σ 39 8) = (30 : Int32), vp_in (σ 39 7) 301, ¬ ((σ 42 ((σ 39 7).toNatClampNeg)) < a3), vp_in (σ 39 7) 301, ¬ ((σ 42 ((σ 39 7).toNatClampNeg)) ≤ a4)] 22 [.ref 39, .ref 46, .int a2, .int a3, .int a4] [] σ rfl ⟨h1, (z_ix_in h2), h3, (z_ix_in h4), h5, trivial⟩ (gx_fgt (ls' := [.ref 39, .null, .null, .null, .null]) ⟨Or.inr rfl, Or.inl rfl, Or.inl rfl, Or.inl rfl, Or.inl rfl, trivial⟩ (vv_Re_numberOf_22 D hD rr σ' σ hf))
  · obtain ⟨r10, σ11, h12, hf⟩ := z_bd_inv hf
    obtain ⟨h13, hf⟩ := z_ck_inv hf
    obtain ⟨e1, e2⟩ := z_ret hf
    subst e1
    subst e2
    exact gx_end 8 [.inl 0, .inr (some (.int r10), σ11)] [¬ ((σ 39 8) = (30 : Int32)), E0 D 72 [.ref 39, .int (1 : Int32)] σ (some (.int r10)) σ11, r10 &&& 1 = r10] rfl ⟨h1, (ww_Re_refuse D (by omega) (1 : Int32) σ r10 σ11 h12), (z_bo_in h13), trivial⟩
set_option maxHeartbeats 16000000 in
set_option maxRecDepth 20000 in
theorem ww_Re_numberOf_46 (D : Nat) (hD : 2 ≤ D) (a2 : Int32) (a3 : Int32) (a4 : Int32) (σ : gx_R) (rr : Int32) (σ' : gx_R) (hf : Re_numberOf 46 a2 a3 a4 σ = some (rr, σ')) : E0 D 77 [.ref 39, .ref 46, .int a2, .int a3, .int a4] σ (some (.int rr)) σ' := by
  cases D with
  | zero => omega
  | succ D => exact Or.inl ⟨Nat.le_of_ble_eq_true rfl, vv_Re_numberOf_E_46 D hD rr σ' a2 a3 a4 σ hf⟩
set_option maxHeartbeats 16000000 in
set_option maxRecDepth 20000 in
theorem vv_Re_numberOf_E_47 (D : Nat) (hD : 2 ≤ D + 1) (rr : Int32) (σ' : gx_R) (a2 : Int32) (a3 : Int32) (a4 : Int32) (σ : gx_R) (hf : Re_numberOf 47 a2 a3 a4 σ = some (rr, σ')) : gx_Ev lay0 (E0 D) tt_77 (some (.int rr)) σ' 0 [.ref 39, .ref 47, .int a2, .int a3, .int a4] [] σ := by
  unfold Re_numberOf at hf
  rcases z_if_inv hf with ⟨h1, hf⟩ | ⟨h1, hf⟩
  · obtain ⟨h2, hf⟩ := z_ck_inv hf
    rcases z_if_inv hf with ⟨h3, hf⟩ | ⟨h3, hf⟩
    · exact gx_go_ 11 [.inl 1, .inl 1] [(σ 39 8) = (30 : Int32), vp_in (σ 39 7) 301, (σ 42 ((σ 39 7).toNatClampNeg)) < a3] 22 [.ref 39, .ref 47, .int a2, .int a3, .int a4] [] σ rfl ⟨h1, (z_ix_in h2), h3, trivial⟩ (gx_fgt (ls' := [.ref 39, .null, .null, .null, .null]) ⟨Or.inr rfl, Or.inl rfl, Or.inl rfl, Or.inl rfl, Or.inl rfl, trivial⟩ (vv_Re_numberOf_22 D hD rr σ' σ hf))
    · obtain ⟨h4, hf⟩ := z_ck_inv hf
      rcases z_if_inv hf with ⟨h5, hf⟩ | ⟨h5, hf⟩
      · rcases z_if_inv hf with ⟨h6, hf⟩ | ⟨h6, hf⟩
        · exact gx_go_ 20 [.inl 1, .inl 0, .inl 1, .inl 1] [(σ 39 8) = (30 : Int32), vp_in (σ 39 7) 301, ¬ ((σ 42 ((σ 39 7).toNatClampNeg)) < a3), vp_in (σ 39 7) 301, (σ 42 ((σ 39 7).toNatClampNeg)) ≤ a4, a2 < 0] 40 [.ref 39, .ref 47, .int a2, .int a3, .int a4] [] σ rfl ⟨h1, (z_ix_in h2), h3, (z_ix_in h4), h5, h6, trivial⟩ (gx_fgt (ls' := [.ref 39, .null, .null, .null, .null]) ⟨Or.inr rfl, Or.inl rfl, Or.inl rfl, Or.inl rfl, Or.inl rfl, trivial⟩ (vv_Re_numberOf_40 D hD rr σ' σ hf))
        · rcases z_if_inv hf with ⟨h7, hf⟩ | ⟨h7, hf⟩
          · exact gx_go_ 24 [.inl 1, .inl 0, .inl 1, .inl 0, .inl 1] [(σ 39 8) = (30 : Int32), vp_in (σ 39 7) 301, ¬ ((σ 42 ((σ 39 7).toNatClampNeg)) < a3), vp_in (σ 39 7) 301, (σ 42 ((σ 39 7).toNatClampNeg)) ≤ a4, ¬ (a2 < 0), (nI 24) ≤ a2] 40 [.ref 39, .ref 47, .int a2, .int a3, .int a4] [] σ rfl ⟨h1, (z_ix_in h2), h3, (z_ix_in h4), h5, h6, h7, trivial⟩ (gx_fgt (ls' := [.ref 39, .null, .null, .null, .null]) ⟨Or.inr rfl, Or.inl rfl, Or.inl rfl, Or.inl rfl, Or.inl rfl, trivial⟩ (vv_Re_numberOf_40 D hD rr σ' σ hf))
          · obtain ⟨h8, hf⟩ := z_ck_inv hf
            obtain ⟨h9, hf⟩ := z_ck_inv hf
            exact gx_go_ 32 [.inl 1, .inl 0, .inl 1, .inl 0, .inl 0] [(σ 39 8) = (30 : Int32), vp_in (σ 39 7) 301, ¬ ((σ 42 ((σ 39 7).toNatClampNeg)) < a3), vp_in (σ 39 7) 301, (σ 42 ((σ 39 7).toNatClampNeg)) ≤ a4, ¬ (a2 < 0), ¬ ((nI 24) ≤ a2), vp_in (σ 39 7) 301, vp_in a2 24] 40 [.ref 39, .ref 47, .int a2, .int a3, .int a4] [] (gx_up σ 47 a2.toNatClampNeg (σ 42 ((σ 39 7).toNatClampNeg))) rfl ⟨h1, (z_ix_in h2), h3, (z_ix_in h4), h5, h6, h7, (z_ix_in h8), (z_ix_in h9), trivial⟩ (gx_fgt (ls' := [.ref 39, .null, .null, .null, .null]) ⟨Or.inr rfl, Or.inl rfl, Or.inl rfl, Or.inl rfl, Or.inl rfl, trivial⟩ (vv_Re_numberOf_40 D hD rr σ' (gx_up σ 47 a2.toNatClampNeg (σ 42 ((σ 39 7).toNatClampNeg))) hf))
      · exact gx_go_ 18 [.inl 1, .inl 0, .inl 0] [(σ 39 8) = (30 : Int32), vp_in (σ 39 7) 301, ¬ ((σ 42 ((σ 39 7).toNatClampNeg)) < a3), vp_in (σ 39 7) 301, ¬ ((σ 42 ((σ 39 7).toNatClampNeg)) ≤ a4)] 22 [.ref 39, .ref 47, .int a2, .int a3, .int a4] [] σ rfl ⟨h1, (z_ix_in h2), h3, (z_ix_in h4), h5, trivial⟩ (gx_fgt (ls' := [.ref 39, .null, .null, .null, .null]) ⟨Or.inr rfl, Or.inl rfl, Or.inl rfl, Or.inl rfl, Or.inl rfl, trivial⟩ (vv_Re_numberOf_22 D hD rr σ' σ hf))
  · obtain ⟨r10, σ11, h12, hf⟩ := z_bd_inv hf
    obtain ⟨h13, hf⟩ := z_ck_inv hf
    obtain ⟨e1, e2⟩ := z_ret hf
    subst e1
    subst e2
    exact gx_end 8 [.inl 0, .inr (some (.int r10), σ11)] [¬ ((σ 39 8) = (30 : Int32)), E0 D 72 [.ref 39, .int (1 : Int32)] σ (some (.int r10)) σ11, r10 &&& 1 = r10] rfl ⟨h1, (ww_Re_refuse D (by omega) (1 : Int32) σ r10 σ11 h12), (z_bo_in h13), trivial⟩
set_option maxHeartbeats 16000000 in
set_option maxRecDepth 20000 in
theorem ww_Re_numberOf_47 (D : Nat) (hD : 2 ≤ D) (a2 : Int32) (a3 : Int32) (a4 : Int32) (σ : gx_R) (rr : Int32) (σ' : gx_R) (hf : Re_numberOf 47 a2 a3 a4 σ = some (rr, σ')) : E0 D 77 [.ref 39, .ref 47, .int a2, .int a3, .int a4] σ (some (.int rr)) σ' := by
  cases D with
  | zero => omega
  | succ D => exact Or.inl ⟨Nat.le_of_ble_eq_true rfl, vv_Re_numberOf_E_47 D hD rr σ' a2 a3 a4 σ hf⟩
set_option maxHeartbeats 16000000 in
set_option maxRecDepth 20000 in
theorem ww_Re_numberOf (D : Nat) (hD : 2 ≤ D) (b1 : Nat) (a2 : Int32) (a3 : Int32) (a4 : Int32) (σ : gx_R) (rr : Int32) (σ' : gx_R) (hb1 : b1 = 45 ∨ b1 = 46 ∨ b1 = 47) (hf : Re_numberOf b1 a2 a3 a4 σ = some (rr, σ')) : E0 D 77 [.ref 39, .ref b1, .int a2, .int a3, .int a4] σ (some (.int rr)) σ' := by
  rcases hb1 with rfl | rfl | rfl
  · exact ww_Re_numberOf_45 D hD a2 a3 a4 σ rr σ' hf
  · exact ww_Re_numberOf_46 D hD a2 a3 a4 σ rr σ' hf
  · exact ww_Re_numberOf_47 D hD a2 a3 a4 σ rr σ' hf
set_option maxHeartbeats 16000000 in
set_option maxRecDepth 20000 in
theorem vv_Re_deed_17 (D : Nat) (hD : 3 ≤ D + 1) (rr : Int32) (σ' : gx_R) (a1 : Int32) (a2 : Int32) (s2 : Int32) (s3 : Int32) (s4 : Int32) (σ : gx_R) (hf : Re_deed_17 a1 a2 s2 s3 s4 σ = some (rr, σ')) : gx_Ev lay0 (E0 D) tt_76 (some (.int rr)) σ' 17 [.ref 39, .int a1, .int a2] [.int s4, .int s3, .int s2, .ref 45, .ref 39] σ := by
  unfold Re_deed_17 at hf
  obtain ⟨r1, σ2, h3, hf⟩ := z_bd_inv hf
  rcases z_if_inv hf with ⟨h4, hf⟩ | ⟨h4, hf⟩
  · obtain ⟨e1, e2⟩ := z_ret hf
    subst e1
    subst e2
    exact gx_end 4 [.inr (some (.int r1), σ2), .inl 0] [E0 D 77 [.ref 39, .ref 45, .int s2, .int s3, .int s4] σ (some (.int r1)) σ2, ¬ ¬ (r1 = 0), (0 : Int32) &&& 1 = (0 : Int32)] rfl ⟨(ww_Re_numberOf D (by omega) 45 s2 s3 s4 σ r1 σ2 (Or.inl rfl) h3), (fun q => q h4), rfl, trivial⟩
  · rcases z_if_inv hf with ⟨h5, hf⟩ | ⟨h5, hf⟩
    · obtain ⟨r6, σ7, h8, hf⟩ := z_bd_inv hf
      rcases z_if_inv hf with ⟨h9, hf⟩ | ⟨h9, hf⟩
      · obtain ⟨e1, e2⟩ := z_ret hf
        subst e1
        subst e2
        exact gx_end 10 [.inr (some (.int r1), σ2), .inl 1, .inl 1, .inr (some (.int r6), σ7), .inl 1] [E0 D 77 [.ref 39, .ref 45, .int s2, .int s3, .int s4] σ (some (.int r1)) σ2, ¬ (r1 = 0), a1.toInt = 4 + (0 : Nat), E0 D 73 [.ref 39, .int (10 : Int32)] σ2 (some (.int r6)) σ7, r6 = 0, (0 : Int32) &&& 1 = (0 : Int32)] rfl ⟨(ww_Re_numberOf D (by omega) 45 s2 s3 s4 σ r1 σ2 (Or.inl rfl) h3), h4, (z_sw_in h5 (by decide)), (ww_Re_take D (by omega) (10 : Int32) σ2 r6 σ7 h8), h9, rfl, trivial⟩
      · obtain ⟨r10, σ11, h12, hf⟩ := z_bd_inv hf
        rcases z_if_inv hf with ⟨h13, hf⟩ | ⟨h13, hf⟩
        · obtain ⟨e1, e2⟩ := z_ret hf
          subst e1
          subst e2
          exact gx_end 19 [.inr (some (.int r1), σ2), .inl 1, .inl 1, .inr (some (.int r6), σ7), .inl 0, .inr (some (.int r10), σ11), .inl 1] [E0 D 77 [.ref 39, .ref 45, .int s2, .int s3, .int s4] σ (some (.int r1)) σ2, ¬ (r1 = 0), a1.toInt = 4 + (0 : Nat), E0 D 73 [.ref 39, .int (10 : Int32)] σ2 (some (.int r6)) σ7, ¬ (r6 = 0), E0 D 77 [.ref 39, .ref 46, .int a2, .int (0 : Int32), .int (5 : Int32)] σ7 (some (.int r10)) σ11, r10 = 0, (0 : Int32) &&& 1 = (0 : Int32)] rfl ⟨(ww_Re_numberOf D (by omega) 45 s2 s3 s4 σ r1 σ2 (Or.inl rfl) h3), h4, (z_sw_in h5 (by decide)), (ww_Re_take D (by omega) (10 : Int32) σ2 r6 σ7 h8), h9, (ww_Re_numberOf D (by omega) 46 a2 (0 : Int32) (5 : Int32) σ7 r10 σ11 (Or.inr (Or.inl rfl)) h12), h13, rfl, trivial⟩
        · obtain ⟨e1, e2⟩ := z_ret hf
          subst e1
          subst e2
          exact gx_end 20 [.inr (some (.int r1), σ2), .inl 1, .inl 1, .inr (some (.int r6), σ7), .inl 0, .inr (some (.int r10), σ11), .inl 0] [E0 D 77 [.ref 39, .ref 45, .int s2, .int s3, .int s4] σ (some (.int r1)) σ2, ¬ (r1 = 0), a1.toInt = 4 + (0 : Nat), E0 D 73 [.ref 39, .int (10 : Int32)] σ2 (some (.int r6)) σ7, ¬ (r6 = 0), E0 D 77 [.ref 39, .ref 46, .int a2, .int (0 : Int32), .int (5 : Int32)] σ7 (some (.int r10)) σ11, ¬ (r10 = 0), (1 : Int32) &&& 1 = (1 : Int32)] rfl ⟨(ww_Re_numberOf D (by omega) 45 s2 s3 s4 σ r1 σ2 (Or.inl rfl) h3), h4, (z_sw_in h5 (by decide)), (ww_Re_take D (by omega) (10 : Int32) σ2 r6 σ7 h8), h9, (ww_Re_numberOf D (by omega) 46 a2 (0 : Int32) (5 : Int32) σ7 r10 σ11 (Or.inr (Or.inl rfl)) h12), h13, rfl, trivial⟩
    · skip
      rcases z_if_inv hf with ⟨h14, hf⟩ | ⟨h14, hf⟩
      · obtain ⟨r15, σ16, h17, hf⟩ := z_bd_inv hf
        rcases z_if_inv hf with ⟨h18, hf⟩ | ⟨h18, hf⟩
        · obtain ⟨e1, e2⟩ := z_ret hf
          subst e1
          subst e2
          exact gx_end 10 [.inr (some (.int r1), σ2), .inl 1, .inl 2, .inr (some (.int r15), σ16), .inl 1] [E0 D 77 [.ref 39, .ref 45, .int s2, .int s3, .int s4] σ (some (.int r1)) σ2, ¬ (r1 = 0), a1.toInt = 4 + (1 : Nat), E0 D 73 [.ref 39, .int (11 : Int32)] σ2 (some (.int r15)) σ16, r15 = 0, (0 : Int32) &&& 1 = (0 : Int32)] rfl ⟨(ww_Re_numberOf D (by omega) 45 s2 s3 s4 σ r1 σ2 (Or.inl rfl) h3), h4, (z_sw_in h14 (by decide)), (ww_Re_take D (by omega) (11 : Int32) σ2 r15 σ16 h17), h18, rfl, trivial⟩
        · obtain ⟨r19, σ20, h21, hf⟩ := z_bd_inv hf
          rcases z_if_inv hf with ⟨h22, hf⟩ | ⟨h22, hf⟩
          · obtain ⟨e1, e2⟩ := z_ret hf
            subst e1
            subst e2
            exact gx_end 19 [.inr (some (.int r1), σ2), .inl 1, .inl 2, .inr (some (.int r15), σ16), .inl 0, .inr (some (.int r19), σ20), .inl 1] [E0 D 77 [.ref 39, .ref 45, .int s2, .int s3, .int s4] σ (some (.int r1)) σ2, ¬ (r1 = 0), a1.toInt = 4 + (1 : Nat), E0 D 73 [.ref 39, .int (11 : Int32)] σ2 (some (.int r15)) σ16, ¬ (r15 = 0), E0 D 77 [.ref 39, .ref 46, .int a2, .int (0 : Int32), .int (7 : Int32)] σ16 (some (.int r19)) σ20, r19 = 0, (0 : Int32) &&& 1 = (0 : Int32)] rfl ⟨(ww_Re_numberOf D (by omega) 45 s2 s3 s4 σ r1 σ2 (Or.inl rfl) h3), h4, (z_sw_in h14 (by decide)), (ww_Re_take D (by omega) (11 : Int32) σ2 r15 σ16 h17), h18, (ww_Re_numberOf D (by omega) 46 a2 (0 : Int32) (7 : Int32) σ16 r19 σ20 (Or.inr (Or.inl rfl)) h21), h22, rfl, trivial⟩
          · obtain ⟨e1, e2⟩ := z_ret hf
            subst e1
            subst e2
            exact gx_end 20 [.inr (some (.int r1), σ2), .inl 1, .inl 2, .inr (some (.int r15), σ16), .inl 0, .inr (some (.int r19), σ20), .inl 0] [E0 D 77 [.ref 39, .ref 45, .int s2, .int s3, .int s4] σ (some (.int r1)) σ2, ¬ (r1 = 0), a1.toInt = 4 + (1 : Nat), E0 D 73 [.ref 39, .int (11 : Int32)] σ2 (some (.int r15)) σ16, ¬ (r15 = 0), E0 D 77 [.ref 39, .ref 46, .int a2, .int (0 : Int32), .int (7 : Int32)] σ16 (some (.int r19)) σ20, ¬ (r19 = 0), (1 : Int32) &&& 1 = (1 : Int32)] rfl ⟨(ww_Re_numberOf D (by omega) 45 s2 s3 s4 σ r1 σ2 (Or.inl rfl) h3), h4, (z_sw_in h14 (by decide)), (ww_Re_take D (by omega) (11 : Int32) σ2 r15 σ16 h17), h18, (ww_Re_numberOf D (by omega) 46 a2 (0 : Int32) (7 : Int32) σ16 r19 σ20 (Or.inr (Or.inl rfl)) h21), h22, rfl, trivial⟩
      · skip
        rcases z_if_inv hf with ⟨h23, hf⟩ | ⟨h23, hf⟩
        · obtain ⟨r24, σ25, h26, hf⟩ := z_bd_inv hf
          rcases z_if_inv hf with ⟨h27, hf⟩ | ⟨h27, hf⟩
          · obtain ⟨e1, e2⟩ := z_ret hf
            subst e1
            subst e2
            exact gx_end 10 [.inr (some (.int r1), σ2), .inl 1, .inl 5, .inr (some (.int r24), σ25), .inl 1] [E0 D 77 [.ref 39, .ref 45, .int s2, .int s3, .int s4] σ (some (.int r1)) σ2, ¬ (r1 = 0), a1.toInt = 4 + (4 : Nat), E0 D 73 [.ref 39, .int (12 : Int32)] σ2 (some (.int r24)) σ25, r24 = 0, (0 : Int32) &&& 1 = (0 : Int32)] rfl ⟨(ww_Re_numberOf D (by omega) 45 s2 s3 s4 σ r1 σ2 (Or.inl rfl) h3), h4, (z_sw_in h23 (by decide)), (ww_Re_take D (by omega) (12 : Int32) σ2 r24 σ25 h26), h27, rfl, trivial⟩
          · obtain ⟨r28, σ29, h30, hf⟩ := z_bd_inv hf
            rcases z_if_inv hf with ⟨h31, hf⟩ | ⟨h31, hf⟩
            · obtain ⟨e1, e2⟩ := z_ret hf
              subst e1
              subst e2
              exact gx_end 19 [.inr (some (.int r1), σ2), .inl 1, .inl 5, .inr (some (.int r24), σ25), .inl 0, .inr (some (.int r28), σ29), .inl 1] [E0 D 77 [.ref 39, .ref 45, .int s2, .int s3, .int s4] σ (some (.int r1)) σ2, ¬ (r1 = 0), a1.toInt = 4 + (4 : Nat), E0 D 73 [.ref 39, .int (12 : Int32)] σ2 (some (.int r24)) σ25, ¬ (r24 = 0), E0 D 77 [.ref 39, .ref 46, .int a2, .int (0 : Int32), .int (7 : Int32)] σ25 (some (.int r28)) σ29, r28 = 0, (0 : Int32) &&& 1 = (0 : Int32)] rfl ⟨(ww_Re_numberOf D (by omega) 45 s2 s3 s4 σ r1 σ2 (Or.inl rfl) h3), h4, (z_sw_in h23 (by decide)), (ww_Re_take D (by omega) (12 : Int32) σ2 r24 σ25 h26), h27, (ww_Re_numberOf D (by omega) 46 a2 (0 : Int32) (7 : Int32) σ25 r28 σ29 (Or.inr (Or.inl rfl)) h30), h31, rfl, trivial⟩
            · obtain ⟨r32, σ33, h34, hf⟩ := z_bd_inv hf
              rcases z_if_inv hf with ⟨h35, hf⟩ | ⟨h35, hf⟩
              · obtain ⟨e1, e2⟩ := z_ret hf
                subst e1
                subst e2
                exact gx_end 23 [.inr (some (.int r1), σ2), .inl 1, .inl 5, .inr (some (.int r24), σ25), .inl 0, .inr (some (.int r28), σ29), .inl 0, .inr (some (.int r32), σ33), .inl 1] [E0 D 77 [.ref 39, .ref 45, .int s2, .int s3, .int s4] σ (some (.int r1)) σ2, ¬ (r1 = 0), a1.toInt = 4 + (4 : Nat), E0 D 73 [.ref 39, .int (12 : Int32)] σ2 (some (.int r24)) σ25, ¬ (r24 = 0), E0 D 77 [.ref 39, .ref 46, .int a2, .int (0 : Int32), .int (7 : Int32)] σ25 (some (.int r28)) σ29, ¬ (r28 = 0), E0 D 73 [.ref 39, .int (13 : Int32)] σ29 (some (.int r32)) σ33, r32 = 0, (0 : Int32) &&& 1 = (0 : Int32)] rfl ⟨(ww_Re_numberOf D (by omega) 45 s2 s3 s4 σ r1 σ2 (Or.inl rfl) h3), h4, (z_sw_in h23 (by decide)), (ww_Re_take D (by omega) (12 : Int32) σ2 r24 σ25 h26), h27, (ww_Re_numberOf D (by omega) 46 a2 (0 : Int32) (7 : Int32) σ25 r28 σ29 (Or.inr (Or.inl rfl)) h30), h31, (ww_Re_take D (by omega) (13 : Int32) σ29 r32 σ33 h34), h35, rfl, trivial⟩
              · obtain ⟨r36, σ37, h38, hf⟩ := z_bd_inv hf
                rcases z_if_inv hf with ⟨h39, hf⟩ | ⟨h39, hf⟩
                · obtain ⟨e1, e2⟩ := z_ret hf
                  subst e1
                  subst e2
                  exact gx_end 32 [.inr (some (.int r1), σ2), .inl 1, .inl 5, .inr (some (.int r24), σ25), .inl 0, .inr (some (.int r28), σ29), .inl 0, .inr (some (.int r32), σ33), .inl 0, .inr (some (.int r36), σ37), .inl 1] [E0 D 77 [.ref 39, .ref 45, .int s2, .int s3, .int s4] σ (some (.int r1)) σ2, ¬ (r1 = 0), a1.toInt = 4 + (4 : Nat), E0 D 73 [.ref 39, .int (12 : Int32)] σ2 (some (.int r24)) σ25, ¬ (r24 = 0), E0 D 77 [.ref 39, .ref 46, .int a2, .int (0 : Int32), .int (7 : Int32)] σ25 (some (.int r28)) σ29, ¬ (r28 = 0), E0 D 73 [.ref 39, .int (13 : Int32)] σ29 (some (.int r32)) σ33, ¬ (r32 = 0), E0 D 77 [.ref 39, .ref 47, .int a2, .int (1 : Int32), .int (99 : Int32)] σ33 (some (.int r36)) σ37, r36 = 0, (0 : Int32) &&& 1 = (0 : Int32)] rfl ⟨(ww_Re_numberOf D (by omega) 45 s2 s3 s4 σ r1 σ2 (Or.inl rfl) h3), h4, (z_sw_in h23 (by decide)), (ww_Re_take D (by omega) (12 : Int32) σ2 r24 σ25 h26), h27, (ww_Re_numberOf D (by omega) 46 a2 (0 : Int32) (7 : Int32) σ25 r28 σ29 (Or.inr (Or.inl rfl)) h30), h31, (ww_Re_take D (by omega) (13 : Int32) σ29 r32 σ33 h34), h35, (ww_Re_numberOf D (by omega) 47 a2 (1 : Int32) (99 : Int32) σ33 r36 σ37 (Or.inr (Or.inr rfl)) h38), h39, rfl, trivial⟩
                · obtain ⟨e1, e2⟩ := z_ret hf
                  subst e1
                  subst e2
                  exact gx_end 33 [.inr (some (.int r1), σ2), .inl 1, .inl 5, .inr (some (.int r24), σ25), .inl 0, .inr (some (.int r28), σ29), .inl 0, .inr (some (.int r32), σ33), .inl 0, .inr (some (.int r36), σ37), .inl 0] [E0 D 77 [.ref 39, .ref 45, .int s2, .int s3, .int s4] σ (some (.int r1)) σ2, ¬ (r1 = 0), a1.toInt = 4 + (4 : Nat), E0 D 73 [.ref 39, .int (12 : Int32)] σ2 (some (.int r24)) σ25, ¬ (r24 = 0), E0 D 77 [.ref 39, .ref 46, .int a2, .int (0 : Int32), .int (7 : Int32)] σ25 (some (.int r28)) σ29, ¬ (r28 = 0), E0 D 73 [.ref 39, .int (13 : Int32)] σ29 (some (.int r32)) σ33, ¬ (r32 = 0), E0 D 77 [.ref 39, .ref 47, .int a2, .int (1 : Int32), .int (99 : Int32)] σ33 (some (.int r36)) σ37, ¬ (r36 = 0), (1 : Int32) &&& 1 = (1 : Int32)] rfl ⟨(ww_Re_numberOf D (by omega) 45 s2 s3 s4 σ r1 σ2 (Or.inl rfl) h3), h4, (z_sw_in h23 (by decide)), (ww_Re_take D (by omega) (12 : Int32) σ2 r24 σ25 h26), h27, (ww_Re_numberOf D (by omega) 46 a2 (0 : Int32) (7 : Int32) σ25 r28 σ29 (Or.inr (Or.inl rfl)) h30), h31, (ww_Re_take D (by omega) (13 : Int32) σ29 r32 σ33 h34), h35, (ww_Re_numberOf D (by omega) 47 a2 (1 : Int32) (99 : Int32) σ33 r36 σ37 (Or.inr (Or.inr rfl)) h38), h39, rfl, trivial⟩
        · skip
          refine gx_go_ 3 [.inr (some (.int r1), σ2), .inl 1] [E0 D 77 [.ref 39, .ref 45, .int s2, .int s3, .int s4] σ (some (.int r1)) σ2, ¬ (r1 = 0)] 22 [.ref 39, .int a1, .int a2] [.int a1] σ2 rfl ⟨(ww_Re_numberOf D (by omega) 45 s2 s3 s4 σ r1 σ2 (Or.inl rfl) h3), h4, trivial⟩ ?_
          refine gx_sw (td := 87) (tt := [23, 40, 87, 87, 57]) (lo := 4) rfl rfl ?_
          rw [gx_swt_df (td := 87) (tt := [23, 40, 87, 87, 57]) (lo := 4) ⟨Or.inr (z_sw_ne h5 (by decide)), Or.inr (z_sw_ne h14 (by decide)), Or.inl rfl, Or.inl rfl, Or.inr (z_sw_ne h23 (by decide)), trivial⟩]
          obtain ⟨e1, e2⟩ := z_ret hf
          subst e1
          subst e2
          exact gx_end 2 [] [(1 : Int32) &&& 1 = (1 : Int32)] rfl ⟨rfl, trivial⟩
set_option maxHeartbeats 16000000 in
set_option maxRecDepth 20000 in
theorem vv_Re_deed_11 (D : Nat) (hD : 3 ≤ D + 1) (rr : Int32) (σ' : gx_R) (a1 : Int32) (a2 : Int32) (s2 : Int32) (s3 : Int32) (σ : gx_R) (hf : Re_deed_11 a1 a2 s2 s3 σ = some (rr, σ')) : gx_Ev lay0 (E0 D) tt_76 (some (.int rr)) σ' 11 [.ref 39, .int a1, .int a2] [.int s3, .int s2, .ref 45, .ref 39] σ := by
  unfold Re_deed_11 at hf
  rcases z_if_inv hf with ⟨h1, hf⟩ | ⟨h1, hf⟩
  · exact gx_go_ 5 [.inl 0] [¬ ¬ (a1 = (9 : Int32))] 17 [.ref 39, .int a1, .int a2] [.int (60 : Int32), .int s3, .int s2, .ref 45, .ref 39] σ rfl ⟨(fun q => q h1), trivial⟩ (gx_fgt (ls' := [.ref 39, .int a1, .int a2]) ⟨Or.inr rfl, Or.inr rfl, Or.inr rfl, trivial⟩ (vv_Re_deed_17 D hD rr σ' a1 a2 s2 s3 (60 : Int32) σ hf))
  · exact gx_go_ 4 [.inl 1] [¬ (a1 = (9 : Int32))] 17 [.ref 39, .int a1, .int a2] [.int (7 : Int32), .int s3, .int s2, .ref 45, .ref 39] σ rfl ⟨h1, trivial⟩ (gx_fgt (ls' := [.ref 39, .int a1, .int a2]) ⟨Or.inr rfl, Or.inr rfl, Or.inr rfl, trivial⟩ (vv_Re_deed_17 D hD rr σ' a1 a2 s2 s3 (7 : Int32) σ hf))
set_option maxHeartbeats 16000000 in
set_option maxRecDepth 20000 in
theorem vv_Re_deed_E (D : Nat) (hD : 3 ≤ D + 1) (rr : Int32) (σ' : gx_R) (a1 : Int32) (a2 : Int32) (σ : gx_R) (hf : Re_deed a1 a2 σ = some (rr, σ')) : gx_Ev lay0 (E0 D) tt_76 (some (.int rr)) σ' 0 [.ref 39, .int a1, .int a2] [] σ := by
  unfold Re_deed at hf
  rcases z_if_inv hf with ⟨h1, hf⟩ | ⟨h1, hf⟩
  · exact gx_go_ 10 [.inl 0] [¬ ¬ (a1 = (9 : Int32))] 11 [.ref 39, .int a1, .int a2] [.int (1 : Int32), .int a2, .ref 45, .ref 39] σ rfl ⟨(fun q => q h1), trivial⟩ (gx_fgt (ls' := [.ref 39, .int a1, .int a2]) ⟨Or.inr rfl, Or.inr rfl, Or.inr rfl, trivial⟩ (vv_Re_deed_11 D hD rr σ' a1 a2 a2 (1 : Int32) σ hf))
  · exact gx_go_ 9 [.inl 1] [¬ (a1 = (9 : Int32))] 11 [.ref 39, .int a1, .int a2] [.int (0 : Int32), .int a2, .ref 45, .ref 39] σ rfl ⟨h1, trivial⟩ (gx_fgt (ls' := [.ref 39, .int a1, .int a2]) ⟨Or.inr rfl, Or.inr rfl, Or.inr rfl, trivial⟩ (vv_Re_deed_11 D hD rr σ' a1 a2 a2 (0 : Int32) σ hf))
set_option maxHeartbeats 16000000 in
set_option maxRecDepth 20000 in
theorem ww_Re_deed (D : Nat) (hD : 3 ≤ D) (a1 : Int32) (a2 : Int32) (σ : gx_R) (rr : Int32) (σ' : gx_R) (hf : Re_deed a1 a2 σ = some (rr, σ')) : E0 D 76 [.ref 39, .int a1, .int a2] σ (some (.int rr)) σ' := by
  cases D with
  | zero => omega
  | succ D => exact Or.inl ⟨Nat.le_of_ble_eq_true rfl, vv_Re_deed_E D hD rr σ' a1 a2 σ hf⟩
set_option maxHeartbeats 16000000 in
set_option maxRecDepth 20000 in
theorem vv_Re_clause_60 (D : Nat) (hD : 124 ≤ D + 1) (rr : Int32) (σ' : gx_R) (s0 : Int32) (σ : gx_R) (hf : Re_clause_60 s0 σ = some (rr, σ')) : gx_Ev lay0 (E0 D) tt_74 (some (.int rr)) σ' 60 [.ref 39, .null, .null, .null] [.int s0] σ := by
  unfold Re_clause_60 at hf
  rcases z_if_inv hf with ⟨h1, hf⟩ | ⟨h1, hf⟩
  · obtain ⟨e1, e2⟩ := z_ret hf
    subst e1
    subst e2
    exact gx_end 5 [.inl 1] [s0 = 0, (0 : Int32) &&& 1 = (0 : Int32)] rfl ⟨h1, rfl, trivial⟩
  · obtain ⟨r2, σ3, h4, hf⟩ := z_bd_inv hf
    rcases z_if_inv hf with ⟨h5, hf⟩ | ⟨h5, hf⟩
    · obtain ⟨e1, e2⟩ := z_ret hf
      subst e1
      subst e2
      exact gx_end 9 [.inl 0, .inr (some (.int r2), σ3), .inl 1] [¬ (s0 = 0), E0 D 73 [.ref 39, .int (43 : Int32)] σ (some (.int r2)) σ3, r2 = 0, (0 : Int32) &&& 1 = (0 : Int32)] rfl ⟨h1, (ww_Re_take D (by omega) (43 : Int32) σ r2 σ3 h4), h5, rfl, trivial⟩
    · obtain ⟨e1, e2⟩ := z_ret hf
      subst e1
      subst e2
      exact gx_end 10 [.inl 0, .inr (some (.int r2), σ3), .inl 0] [¬ (s0 = 0), E0 D 73 [.ref 39, .int (43 : Int32)] σ (some (.int r2)) σ3, ¬ (r2 = 0), (1 : Int32) &&& 1 = (1 : Int32)] rfl ⟨h1, (ww_Re_take D (by omega) (43 : Int32) σ r2 σ3 h4), h5, rfl, trivial⟩
set_option maxHeartbeats 16000000 in
set_option maxRecDepth 20000 in
theorem vv_Re_clause_28 (D : Nat) (hD : 124 ≤ D + 1) (rr : Int32) (σ' : gx_R) (a1 : Int32) (a2 : Int32) (σ : gx_R) (hf : Re_clause_28 a1 a2 σ = some (rr, σ')) : gx_Ev lay0 (E0 D) tt_74 (some (.int rr)) σ' 28 [.ref 39, .int a1, .int a2, .null] [] σ := by
  unfold Re_clause_28 at hf
  rcases z_if_inv hf with ⟨h1, hf⟩ | ⟨h1, hf⟩
  · obtain ⟨h2, hf⟩ := z_ck_inv hf
    obtain ⟨⟨⟩, σ4, h5, hf⟩ := z_bd_inv hf
    rcases z_if_inv hf with ⟨h6, hf⟩ | ⟨h6, hf⟩
    · obtain ⟨r7, σ8, h9, hf⟩ := z_bd_inv hf
      exact gx_go_ 24 [.inl 1, .inr (none, σ4), .inl 1, .inr (some (.int r7), σ8)] [a2 < (24 : Int32), vp_in a2 24, E0 D 71 [.ref 39] (gx_up (gx_up σ 43 4 (a2 + (1 : Int32))) 44 a2.toNatClampNeg a1) (none) σ4, (4 : Int32) ≤ a1, E0 D 76 [.ref 39, .int a1, .int a2] σ4 (some (.int r7)) σ8] 60 [.ref 39, .int a1, .int a2, .null] [.int r7] σ8 rfl ⟨h1, (z_ix_in h2), (ww_Re_advance D (by omega) (gx_up (gx_up σ 43 4 (a2 + (1 : Int32))) 44 a2.toNatClampNeg a1) () σ4 h5), h6, (ww_Re_deed D (by omega) a1 a2 σ4 r7 σ8 h9), trivial⟩ (gx_fgt (ls' := [.ref 39, .null, .null, .null]) ⟨Or.inr rfl, Or.inl rfl, Or.inl rfl, Or.inl rfl, trivial⟩ (vv_Re_clause_60 D hD rr σ' r7 σ8 hf))
    · obtain ⟨r10, σ11, h12, hf⟩ := z_bd_inv hf
      exact gx_go_ 24 [.inl 1, .inr (none, σ4), .inl 0, .inr (some (.int r10), σ11)] [a2 < (24 : Int32), vp_in a2 24, E0 D 71 [.ref 39] (gx_up (gx_up σ 43 4 (a2 + (1 : Int32))) 44 a2.toNatClampNeg a1) (none) σ4, ¬ ((4 : Int32) ≤ a1), E0 D 75 [.ref 39, .int a1] σ4 (some (.int r10)) σ11] 60 [.ref 39, .int a1, .int a2, .null] [.int r10] σ11 rfl ⟨h1, (z_ix_in h2), (ww_Re_advance D (by omega) (gx_up (gx_up σ 43 4 (a2 + (1 : Int32))) 44 a2.toNatClampNeg a1) () σ4 h5), h6, (ww_Re_lawOf D (by omega) a1 σ4 r10 σ11 h12), trivial⟩ (gx_fgt (ls' := [.ref 39, .null, .null, .null]) ⟨Or.inr rfl, Or.inl rfl, Or.inl rfl, Or.inl rfl, trivial⟩ (vv_Re_clause_60 D hD rr σ' r10 σ11 hf))
  · obtain ⟨r13, σ14, h15, hf⟩ := z_bd_inv hf
    obtain ⟨h16, hf⟩ := z_ck_inv hf
    obtain ⟨e1, e2⟩ := z_ret hf
    subst e1
    subst e2
    exact gx_end 7 [.inl 0, .inr (some (.int r13), σ14)] [¬ (a2 < (24 : Int32)), E0 D 72 [.ref 39, .int (6 : Int32)] σ (some (.int r13)) σ14, r13 &&& 1 = r13] rfl ⟨h1, (ww_Re_refuse D (by omega) (6 : Int32) σ r13 σ14 h15), (z_bo_in h16), trivial⟩
set_option maxHeartbeats 16000000 in
set_option maxRecDepth 20000 in
theorem vv_Re_clause_E (D : Nat) (hD : 124 ≤ D + 1) (rr : Int32) (σ' : gx_R) (σ : gx_R) (hf : Re_clause  σ = some (rr, σ')) : gx_Ev lay0 (E0 D) tt_74 (some (.int rr)) σ' 0 [.ref 39, .null, .null, .null] [] σ := by
  unfold Re_clause at hf
  rcases z_if_inv hf with ⟨h1, hf⟩ | ⟨h1, hf⟩
  · rcases z_if_inv hf with ⟨h2, hf⟩ | ⟨h2, hf⟩
    · exact gx_go_ 13 [.inl 1, .inl 1] [(σ 39 8) ≤ (9 : Int32), (4 : Int32) ≤ (σ 39 8)] 28 [.ref 39, .int (σ 39 8), .int (σ 43 4), .null] [] σ rfl ⟨h1, h2, trivial⟩ (gx_fgt (ls' := [.ref 39, .int (σ 39 8), .int (σ 43 4), .null]) ⟨Or.inr rfl, Or.inr rfl, Or.inr rfl, Or.inl rfl, trivial⟩ (vv_Re_clause_28 D hD rr σ' (σ 39 8) (σ 43 4) σ hf))
    · obtain ⟨h3, hf⟩ := z_ck_inv hf
      rcases z_if_inv hf with ⟨h4, hf⟩ | ⟨h4, hf⟩
      · exact gx_go_ 20 [.inl 1, .inl 0, .inl 1] [(σ 39 8) ≤ (9 : Int32), ¬ ((4 : Int32) ≤ (σ 39 8)), vp_in (σ 39 8) 4, (σ 48 ((σ 39 8).toNatClampNeg)) = (-1 : Int32)] 28 [.ref 39, .int (σ 39 8), .int (σ 43 4), .null] [] σ rfl ⟨h1, h2, (z_ix_in h3), h4, trivial⟩ (gx_fgt (ls' := [.ref 39, .int (σ 39 8), .int (σ 43 4), .null]) ⟨Or.inr rfl, Or.inr rfl, Or.inr rfl, Or.inl rfl, trivial⟩ (vv_Re_clause_28 D hD rr σ' (σ 39 8) (σ 43 4) σ hf))
      · obtain ⟨r5, σ6, h7, hf⟩ := z_bd_inv hf
        obtain ⟨h8, hf⟩ := z_ck_inv hf
        obtain ⟨e1, e2⟩ := z_ret hf
        subst e1
        subst e2
        exact gx_end 24 [.inl 1, .inl 0, .inl 0, .inr (some (.int r5), σ6)] [(σ 39 8) ≤ (9 : Int32), ¬ ((4 : Int32) ≤ (σ 39 8)), vp_in (σ 39 8) 4, ¬ ((σ 48 ((σ 39 8).toNatClampNeg)) = (-1 : Int32)), E0 D 72 [.ref 39, .int (4 : Int32)] σ (some (.int r5)) σ6, r5 &&& 1 = r5] rfl ⟨h1, h2, (z_ix_in h3), h4, (ww_Re_refuse D (by omega) (4 : Int32) σ r5 σ6 h7), (z_bo_in h8), trivial⟩
  · obtain ⟨r9, σ10, h11, hf⟩ := z_bd_inv hf
    obtain ⟨h12, hf⟩ := z_ck_inv hf
    obtain ⟨e1, e2⟩ := z_ret hf
    subst e1
    subst e2
    exact gx_end 14 [.inl 0, .inr (some (.int r9), σ10)] [¬ ((σ 39 8) ≤ (9 : Int32)), E0 D 72 [.ref 39, .int (1 : Int32)] σ (some (.int r9)) σ10, r9 &&& 1 = r9] rfl ⟨h1, (ww_Re_refuse D (by omega) (1 : Int32) σ r9 σ10 h11), (z_bo_in h12), trivial⟩
set_option maxHeartbeats 16000000 in
set_option maxRecDepth 20000 in
theorem ww_Re_clause (D : Nat) (hD : 124 ≤ D) (σ : gx_R) (rr : Int32) (σ' : gx_R) (hf : Re_clause  σ = some (rr, σ')) : E0 D 74 [.ref 39] σ (some (.int rr)) σ' := by
  cases D with
  | zero => omega
  | succ D => exact Or.inl ⟨Nat.le_of_ble_eq_true rfl, vv_Re_clause_E D hD rr σ' σ hf⟩
set_option maxHeartbeats 16000000 in
set_option maxRecDepth 20000 in
theorem vv_Re_read_29_B (D : Nat) (hD : 125 ≤ D + 1) (rr : Int32) (σ' : gx_R) (K29 : Int32 → gx_R → Option (Int32 × gx_R)) (hK29 : ∀ (a2 : Int32) (σ : gx_R), K29 a2 σ = some (rr, σ') → gx_Ev lay0 (E0 D) tt_70 (some (.int rr)) σ' 29 [.ref 39, .null, .int a2] [] σ) (a2 : Int32) (σ : gx_R) (hf : Re_read_29_B K29 a2 σ = some (rr, σ')) : gx_Ev lay0 (E0 D) tt_70 (some (.int rr)) σ' 29 [.ref 39, .null, .int a2] [] σ := by
  unfold Re_read_29_B at hf
  rcases z_if_inv hf with ⟨h1, hf⟩ | ⟨h1, hf⟩
  · obtain ⟨e1, e2⟩ := z_ret hf
    subst e1
    subst e2
    exact gx_end 5 [.inl 1] [(300 : Int32) < a2, (1 : Int32) &&& 1 = (1 : Int32)] rfl ⟨h1, rfl, trivial⟩
  · rcases z_if_inv hf with ⟨h2, hf⟩ | ⟨h2, hf⟩
    · obtain ⟨e1, e2⟩ := z_ret hf
      subst e1
      subst e2
      exact gx_end 9 [.inl 0, .inl 1] [¬ ((300 : Int32) < a2), (σ 39 8) = (44 : Int32), (1 : Int32) &&& 1 = (1 : Int32)] rfl ⟨h1, h2, rfl, trivial⟩
    · obtain ⟨r3, σ4, h5, hf⟩ := z_bd_inv hf
      rcases z_if_inv hf with ⟨h6, hf⟩ | ⟨h6, hf⟩
      · obtain ⟨e1, e2⟩ := z_ret hf
        subst e1
        subst e2
        exact gx_end 12 [.inl 0, .inl 0, .inr (some (.int r3), σ4), .inl 0] [¬ ((300 : Int32) < a2), ¬ ((σ 39 8) = (44 : Int32)), E0 D 74 [.ref 39] σ (some (.int r3)) σ4, ¬ ¬ (r3 = 0), (0 : Int32) &&& 1 = (0 : Int32)] rfl ⟨h1, h2, (ww_Re_clause D (by omega) σ r3 σ4 h5), (fun q => q h6), rfl, trivial⟩
      · exact gx_go_ 12 [.inl 0, .inl 0, .inr (some (.int r3), σ4), .inl 1] [¬ ((300 : Int32) < a2), ¬ ((σ 39 8) = (44 : Int32)), E0 D 74 [.ref 39] σ (some (.int r3)) σ4, ¬ (r3 = 0)] 29 [.ref 39, .null, .int (a2 + 1)] [] σ4 rfl ⟨h1, h2, (ww_Re_clause D (by omega) σ r3 σ4 h5), h6, trivial⟩ (gx_fgt (ls' := [.ref 39, .null, .int (a2 + 1)]) ⟨Or.inr rfl, Or.inl rfl, Or.inr rfl, trivial⟩ (hK29 (a2 + 1) σ4 hf))
set_option maxHeartbeats 16000000 in
set_option maxRecDepth 20000 in
theorem vv_Re_read_29 (D : Nat) (hD : 125 ≤ D + 1) (rr : Int32) (σ' : gx_R) : ∀ (n : Nat) (a2 : Int32) (σ : gx_R), Re_read_29 n a2 σ = some (rr, σ') → gx_Ev lay0 (E0 D) tt_70 (some (.int rr)) σ' 29 [.ref 39, .null, .int a2] [] σ := by
  intro n
  induction n with
  | zero => intro a2 σ  hf; cases hf
  | succ n ih => intro a2 σ  hf; exact vv_Re_read_29_B D hD rr σ'  (Re_read_29 n) ih a2 σ  hf
set_option maxHeartbeats 16000000 in
set_option maxRecDepth 20000 in
theorem vv_Re_read_E (D : Nat) (hD : 125 ≤ D + 1) (rr : Int32) (σ' : gx_R) (a1 : Int32) (σ : gx_R) (hf : Re_read a1 σ = some (rr, σ')) : gx_Ev lay0 (E0 D) tt_70 (some (.int rr)) σ' 0 [.ref 39, .int a1, .null] [] σ := by
  unfold Re_read at hf
  obtain ⟨⟨⟩, σ2, h3, hf⟩ := z_bd_inv hf
  obtain ⟨⟨⟩, σ5, h6, hf⟩ := z_bd_inv hf
  exact gx_go_ 29 [.inr (none, σ2), .inr (none, σ5)] [E0 D 90 [.ref 39] (gx_up σ 39 1 (if (nI 300) < a1 then (nI 300) else a1)) (none) σ2, E0 D 15 [.ref 43] (gx_up (gx_up σ2 39 11 (0 : Int32)) 39 12 (-1 : Int32)) (none) σ5, vp_in (0 : Int32) 301] 29 [.ref 39, .int a1, .int (0 : Int32)] [] (gx_up (gx_up σ5 39 7 (0 : Int32)) 39 8 ((gx_up σ5 39 7 (0 : Int32)) 40 ((0 : Int32).toNatClampNeg))) rfl ⟨(ww_Re_split D (by omega) (gx_up σ 39 1 (if (nI 300) < a1 then (nI 300) else a1)) () σ2 h3), (ww_Te_clear D (by omega) (gx_up (gx_up σ2 39 11 (0 : Int32)) 39 12 (-1 : Int32)) () σ5 h6), (z_ix_in rfl), trivial⟩ (gx_fgt (ls' := [.ref 39, .null, .int (0 : Int32)]) ⟨Or.inr rfl, Or.inl rfl, Or.inr rfl, trivial⟩ (vv_Re_read_29 D hD rr σ' z_FU (0 : Int32) (gx_up (gx_up σ5 39 7 (0 : Int32)) 39 8 ((gx_up σ5 39 7 (0 : Int32)) 40 ((0 : Int32).toNatClampNeg))) hf))
set_option maxHeartbeats 16000000 in
set_option maxRecDepth 20000 in
theorem ww_Re_read (D : Nat) (hD : 125 ≤ D) (a1 : Int32) (σ : gx_R) (rr : Int32) (σ' : gx_R) (hf : Re_read a1 σ = some (rr, σ')) : E0 D 70 [.ref 39, .int a1] σ (some (.int rr)) σ' := by
  cases D with
  | zero => omega
  | succ D => exact Or.inl ⟨Nat.le_of_ble_eq_true rfl, vv_Re_read_E D hD rr σ' a1 σ hf⟩
set_option maxHeartbeats 16000000 in
set_option maxRecDepth 20000 in
theorem vv_Sf_person_16 (D : Nat) (hD : 1 ≤ D + 1) (rr : Int32) (σ' : gx_R) (K17 : Int32 → Int32 → Int32 → gx_R → Option (Int32 × gx_R)) (hK17 : ∀ (a1 : Int32) (a2 : Int32) (s0 : Int32) (σ : gx_R), K17 a1 a2 s0 σ = some (rr, σ') → gx_Ev lay0 (E0 D) tt_95 (some (.int rr)) σ' 17 [.null, .int a1, .int a2, .ref 2, .null] [.int s0] σ) (a1 : Int32) (a2 : Int32) (σ : gx_R) (hf : Sf_person_16 K17 a1 a2 σ = some (rr, σ')) : gx_Ev lay0 (E0 D) tt_95 (some (.int rr)) σ' 16 [.null, .int a1, .int a2, .ref 2, .null] [] σ := by
  unfold Sf_person_16 at hf
  exact gx_go_ 1 [] [] 17 [.null, .int a1, .int a2, .ref 2, .null] [.int (0 : Int32)] σ rfl trivial (gx_fgt (ls' := [.null, .int a1, .int a2, .ref 2, .null]) ⟨Or.inl rfl, Or.inr rfl, Or.inr rfl, Or.inr rfl, Or.inl rfl, trivial⟩ (hK17 a1 a2 (0 : Int32) σ hf))
set_option maxHeartbeats 16000000 in
set_option maxRecDepth 20000 in
theorem vv_Sf_person_17 (D : Nat) (hD : 1 ≤ D + 1) (rr : Int32) (σ' : gx_R) (a1 : Int32) (a2 : Int32) (s0 : Int32) (σ : gx_R) (hf : Sf_person_17 a1 a2 s0 σ = some (rr, σ')) : gx_Ev lay0 (E0 D) tt_95 (some (.int rr)) σ' 17 [.null, .int a1, .int a2, .ref 2, .null] [.int s0] σ := by
  unfold Sf_person_17 at hf
  rcases z_if_inv hf with ⟨h1, hf⟩ | ⟨h1, hf⟩
  · obtain ⟨e1, e2⟩ := z_ret hf
    subst e1
    subst e2
    exact gx_end 5 [.inl 1] [s0 = 0] rfl ⟨h1, trivial⟩
  · rcases z_if_inv hf with ⟨h2, hf⟩ | ⟨h2, hf⟩
    · obtain ⟨h3, hf⟩ := z_ck_inv hf
      obtain ⟨h4, hf⟩ := z_ck_inv hf
      obtain ⟨e1, e2⟩ := z_ret hf
      subst e1
      subst e2
      exact gx_end 30 [.inl 0, .inl 1] [¬ (s0 = 0), (σ 2 0) < (8 : Int32), vp_in (σ 2 0) 8, vp_in ((gx_up σ 3 (σ 2 0).toNatClampNeg a1) 2 0) 8] rfl ⟨h1, h2, (z_ix_in h3), (z_ix_in h4), trivial⟩
    · obtain ⟨e1, e2⟩ := z_ret hf
      subst e1
      subst e2
      exact gx_end 9 [.inl 0, .inl 0] [¬ (s0 = 0), ¬ ((σ 2 0) < (8 : Int32))] rfl ⟨h1, h2, trivial⟩
set_option maxHeartbeats 16000000 in
set_option maxRecDepth 20000 in
theorem vv_Sf_person_E (D : Nat) (hD : 1 ≤ D + 1) (rr : Int32) (σ' : gx_R) (a1 : Int32) (a2 : Int32) (σ : gx_R) (hf : Sf_person a1 a2 σ = some (rr, σ')) : gx_Ev lay0 (E0 D) tt_95 (some (.int rr)) σ' 0 [.ref 0, .int a1, .int a2, .null, .null] [] σ := by
  unfold Sf_person at hf
  rcases z_if_inv hf with ⟨h1, hf⟩ | ⟨h1, hf⟩
  · exact gx_go_ 6 [.inl 1] [a1 < 0] 16 [.ref 0, .int a1, .int a2, .ref 2, .null] [] σ rfl ⟨h1, trivial⟩ (gx_fgt (ls' := [.null, .int a1, .int a2, .ref 2, .null]) ⟨Or.inl rfl, Or.inr rfl, Or.inr rfl, Or.inr rfl, Or.inl rfl, trivial⟩ (vv_Sf_person_16 D hD rr σ' (Sf_person_17) (vv_Sf_person_17 D hD rr σ') a1 a2 σ hf))
  · rcases z_if_inv hf with ⟨h2, hf⟩ | ⟨h2, hf⟩
    · exact gx_go_ 9 [.inl 0, .inl 1] [¬ (a1 < 0), (9 : Int32) < a1] 16 [.ref 0, .int a1, .int a2, .ref 2, .null] [] σ rfl ⟨h1, h2, trivial⟩ (gx_fgt (ls' := [.null, .int a1, .int a2, .ref 2, .null]) ⟨Or.inl rfl, Or.inr rfl, Or.inr rfl, Or.inr rfl, Or.inl rfl, trivial⟩ (vv_Sf_person_16 D hD rr σ' (Sf_person_17) (vv_Sf_person_17 D hD rr σ') a1 a2 σ hf))
    · rcases z_if_inv hf with ⟨h3, hf⟩ | ⟨h3, hf⟩
      · exact gx_go_ 11 [.inl 0, .inl 0, .inl 1] [¬ (a1 < 0), ¬ ((9 : Int32) < a1), a2 < 0] 16 [.ref 0, .int a1, .int a2, .ref 2, .null] [] σ rfl ⟨h1, h2, h3, trivial⟩ (gx_fgt (ls' := [.null, .int a1, .int a2, .ref 2, .null]) ⟨Or.inl rfl, Or.inr rfl, Or.inr rfl, Or.inr rfl, Or.inl rfl, trivial⟩ (vv_Sf_person_16 D hD rr σ' (Sf_person_17) (vv_Sf_person_17 D hD rr σ') a1 a2 σ hf))
      · rcases z_if_inv hf with ⟨h4, hf⟩ | ⟨h4, hf⟩
        · exact gx_go_ 14 [.inl 0, .inl 0, .inl 0, .inl 1] [¬ (a1 < 0), ¬ ((9 : Int32) < a1), ¬ (a2 < 0), (9 : Int32) < a2] 16 [.ref 0, .int a1, .int a2, .ref 2, .null] [] σ rfl ⟨h1, h2, h3, h4, trivial⟩ (gx_fgt (ls' := [.null, .int a1, .int a2, .ref 2, .null]) ⟨Or.inl rfl, Or.inr rfl, Or.inr rfl, Or.inr rfl, Or.inl rfl, trivial⟩ (vv_Sf_person_16 D hD rr σ' (Sf_person_17) (vv_Sf_person_17 D hD rr σ') a1 a2 σ hf))
        · exact gx_go_ 16 [.inl 0, .inl 0, .inl 0, .inl 0] [¬ (a1 < 0), ¬ ((9 : Int32) < a1), ¬ (a2 < 0), ¬ ((9 : Int32) < a2)] 17 [.ref 0, .int a1, .int a2, .ref 2, .null] [.int (1 : Int32)] σ rfl ⟨h1, h2, h3, h4, trivial⟩ (gx_fgt (ls' := [.null, .int a1, .int a2, .ref 2, .null]) ⟨Or.inl rfl, Or.inr rfl, Or.inr rfl, Or.inr rfl, Or.inl rfl, trivial⟩ (vv_Sf_person_17 D hD rr σ' a1 a2 (1 : Int32) σ hf))
set_option maxHeartbeats 16000000 in
set_option maxRecDepth 20000 in
theorem ww_Sf_person (D : Nat) (hD : 1 ≤ D) (a1 : Int32) (a2 : Int32) (σ : gx_R) (rr : Int32) (σ' : gx_R) (hf : Sf_person a1 a2 σ = some (rr, σ')) : E0 D 95 [.ref 0, .int a1, .int a2] σ (some (.int rr)) σ' := by
  cases D with
  | zero => omega
  | succ D => exact Or.inl ⟨Nat.le_of_ble_eq_true rfl, vv_Sf_person_E D hD rr σ' a1 a2 σ hf⟩
set_option maxHeartbeats 16000000 in
set_option maxRecDepth 20000 in
theorem vv_Sf_work_17 (D : Nat) (hD : 1 ≤ D + 1) (rr : Int32) (σ' : gx_R) (K18 : Int32 → Int32 → Int32 → gx_R → Option (Int32 × gx_R)) (hK18 : ∀ (a1 : Int32) (a2 : Int32) (s0 : Int32) (σ : gx_R), K18 a1 a2 s0 σ = some (rr, σ') → gx_Ev lay0 (E0 D) tt_96 (some (.int rr)) σ' 18 [.null, .int a1, .int a2, .ref 2, .null] [.int s0] σ) (a1 : Int32) (a2 : Int32) (σ : gx_R) (hf : Sf_work_17 K18 a1 a2 σ = some (rr, σ')) : gx_Ev lay0 (E0 D) tt_96 (some (.int rr)) σ' 17 [.null, .int a1, .int a2, .ref 2, .null] [] σ := by
  unfold Sf_work_17 at hf
  exact gx_go_ 1 [] [] 18 [.null, .int a1, .int a2, .ref 2, .null] [.int (0 : Int32)] σ rfl trivial (gx_fgt (ls' := [.null, .int a1, .int a2, .ref 2, .null]) ⟨Or.inl rfl, Or.inr rfl, Or.inr rfl, Or.inr rfl, Or.inl rfl, trivial⟩ (hK18 a1 a2 (0 : Int32) σ hf))
set_option maxHeartbeats 16000000 in
set_option maxRecDepth 20000 in
theorem vv_Sf_work_18 (D : Nat) (hD : 1 ≤ D + 1) (rr : Int32) (σ' : gx_R) (a1 : Int32) (a2 : Int32) (s0 : Int32) (σ : gx_R) (hf : Sf_work_18 a1 a2 s0 σ = some (rr, σ')) : gx_Ev lay0 (E0 D) tt_96 (some (.int rr)) σ' 18 [.null, .int a1, .int a2, .ref 2, .null] [.int s0] σ := by
  unfold Sf_work_18 at hf
  rcases z_if_inv hf with ⟨h1, hf⟩ | ⟨h1, hf⟩
  · obtain ⟨e1, e2⟩ := z_ret hf
    subst e1
    subst e2
    exact gx_end 5 [.inl 1] [s0 = 0] rfl ⟨h1, trivial⟩
  · rcases z_if_inv hf with ⟨h2, hf⟩ | ⟨h2, hf⟩
    · obtain ⟨h3, hf⟩ := z_ck_inv hf
      obtain ⟨h4, hf⟩ := z_ck_inv hf
      obtain ⟨e1, e2⟩ := z_ret hf
      subst e1
      subst e2
      exact gx_end 30 [.inl 0, .inl 1] [¬ (s0 = 0), (σ 2 1) < (6 : Int32), vp_in (σ 2 1) 6, vp_in ((gx_up σ 7 (σ 2 1).toNatClampNeg a1) 2 1) 6] rfl ⟨h1, h2, (z_ix_in h3), (z_ix_in h4), trivial⟩
    · obtain ⟨e1, e2⟩ := z_ret hf
      subst e1
      subst e2
      exact gx_end 9 [.inl 0, .inl 0] [¬ (s0 = 0), ¬ ((σ 2 1) < (6 : Int32))] rfl ⟨h1, h2, trivial⟩
set_option maxHeartbeats 16000000 in
set_option maxRecDepth 20000 in
theorem vv_Sf_work_E (D : Nat) (hD : 1 ≤ D + 1) (rr : Int32) (σ' : gx_R) (a1 : Int32) (a2 : Int32) (σ : gx_R) (hf : Sf_work a1 a2 σ = some (rr, σ')) : gx_Ev lay0 (E0 D) tt_96 (some (.int rr)) σ' 0 [.ref 0, .int a1, .int a2, .null, .null] [] σ := by
  unfold Sf_work at hf
  rcases z_if_inv hf with ⟨h1, hf⟩ | ⟨h1, hf⟩
  · exact gx_go_ 7 [.inl 1] [a1 < (1 : Int32)] 17 [.ref 0, .int a1, .int a2, .ref 2, .null] [] σ rfl ⟨h1, trivial⟩ (gx_fgt (ls' := [.null, .int a1, .int a2, .ref 2, .null]) ⟨Or.inl rfl, Or.inr rfl, Or.inr rfl, Or.inr rfl, Or.inl rfl, trivial⟩ (vv_Sf_work_17 D hD rr σ' (Sf_work_18) (vv_Sf_work_18 D hD rr σ') a1 a2 σ hf))
  · rcases z_if_inv hf with ⟨h2, hf⟩ | ⟨h2, hf⟩
    · exact gx_go_ 10 [.inl 0, .inl 1] [¬ (a1 < (1 : Int32)), (99 : Int32) < a1] 17 [.ref 0, .int a1, .int a2, .ref 2, .null] [] σ rfl ⟨h1, h2, trivial⟩ (gx_fgt (ls' := [.null, .int a1, .int a2, .ref 2, .null]) ⟨Or.inl rfl, Or.inr rfl, Or.inr rfl, Or.inr rfl, Or.inl rfl, trivial⟩ (vv_Sf_work_17 D hD rr σ' (Sf_work_18) (vv_Sf_work_18 D hD rr σ') a1 a2 σ hf))
    · rcases z_if_inv hf with ⟨h3, hf⟩ | ⟨h3, hf⟩
      · exact gx_go_ 12 [.inl 0, .inl 0, .inl 1] [¬ (a1 < (1 : Int32)), ¬ ((99 : Int32) < a1), a2 < 0] 17 [.ref 0, .int a1, .int a2, .ref 2, .null] [] σ rfl ⟨h1, h2, h3, trivial⟩ (gx_fgt (ls' := [.null, .int a1, .int a2, .ref 2, .null]) ⟨Or.inl rfl, Or.inr rfl, Or.inr rfl, Or.inr rfl, Or.inl rfl, trivial⟩ (vv_Sf_work_17 D hD rr σ' (Sf_work_18) (vv_Sf_work_18 D hD rr σ') a1 a2 σ hf))
      · rcases z_if_inv hf with ⟨h4, hf⟩ | ⟨h4, hf⟩
        · exact gx_go_ 15 [.inl 0, .inl 0, .inl 0, .inl 1] [¬ (a1 < (1 : Int32)), ¬ ((99 : Int32) < a1), ¬ (a2 < 0), (9 : Int32) < a2] 17 [.ref 0, .int a1, .int a2, .ref 2, .null] [] σ rfl ⟨h1, h2, h3, h4, trivial⟩ (gx_fgt (ls' := [.null, .int a1, .int a2, .ref 2, .null]) ⟨Or.inl rfl, Or.inr rfl, Or.inr rfl, Or.inr rfl, Or.inl rfl, trivial⟩ (vv_Sf_work_17 D hD rr σ' (Sf_work_18) (vv_Sf_work_18 D hD rr σ') a1 a2 σ hf))
        · exact gx_go_ 17 [.inl 0, .inl 0, .inl 0, .inl 0] [¬ (a1 < (1 : Int32)), ¬ ((99 : Int32) < a1), ¬ (a2 < 0), ¬ ((9 : Int32) < a2)] 18 [.ref 0, .int a1, .int a2, .ref 2, .null] [.int (1 : Int32)] σ rfl ⟨h1, h2, h3, h4, trivial⟩ (gx_fgt (ls' := [.null, .int a1, .int a2, .ref 2, .null]) ⟨Or.inl rfl, Or.inr rfl, Or.inr rfl, Or.inr rfl, Or.inl rfl, trivial⟩ (vv_Sf_work_18 D hD rr σ' a1 a2 (1 : Int32) σ hf))
set_option maxHeartbeats 16000000 in
set_option maxRecDepth 20000 in
theorem ww_Sf_work (D : Nat) (hD : 1 ≤ D) (a1 : Int32) (a2 : Int32) (σ : gx_R) (rr : Int32) (σ' : gx_R) (hf : Sf_work a1 a2 σ = some (rr, σ')) : E0 D 96 [.ref 0, .int a1, .int a2] σ (some (.int rr)) σ' := by
  cases D with
  | zero => omega
  | succ D => exact Or.inl ⟨Nat.le_of_ble_eq_true rfl, vv_Sf_work_E D hD rr σ' a1 a2 σ hf⟩
set_option maxHeartbeats 16000000 in
set_option maxRecDepth 20000 in
theorem vv_Sf_may_E (D : Nat) (hD : 3 ≤ D + 1) (rr : Int32) (σ' : gx_R) (a1 : Int32) (a2 : Int32) (σ : gx_R) (hf : Sf_may a1 a2 σ = some (rr, σ')) : gx_Ev lay0 (E0 D) tt_97 (some (.int rr)) σ' 0 [.ref 0, .int a1, .int a2, .null] [] σ := by
  unfold Sf_may at hf
  obtain ⟨r1, σ2, h3, hf⟩ := z_bd_inv hf
  rcases z_if_inv hf with ⟨h4, hf⟩ | ⟨h4, hf⟩
  · obtain ⟨e1, e2⟩ := z_ret hf
    subst e1
    subst e2
    exact gx_end 11 [.inr (some (.int r1), σ2), .inl 1] [E0 D 3 [.ref 2, .int a1, .int a2] σ (some (.int r1)) σ2, r1 = 0, (0 : Int32) &&& 1 = (0 : Int32)] rfl ⟨(ww_Fo_areUnlike D (by omega) a1 a2 σ r1 σ2 h3), h4, rfl, trivial⟩
  · obtain ⟨h5, hf⟩ := z_ck_inv hf
    rcases z_if_inv hf with ⟨h6, hf⟩ | ⟨h6, hf⟩
    · obtain ⟨e1, e2⟩ := z_ret hf
      subst e1
      subst e2
      exact gx_end 21 [.inr (some (.int r1), σ2), .inl 0, .inl 0] [E0 D 3 [.ref 2, .int a1, .int a2] σ (some (.int r1)) σ2, ¬ (r1 = 0), vp_in a1 8, ¬ ¬ ((((σ2 5 a1.toNatClampNeg) >>> (a2 &&& 31)) &&& (1 : Int32)) = (1 : Int32)), (0 : Int32) &&& 1 = (0 : Int32)] rfl ⟨(ww_Fo_areUnlike D (by omega) a1 a2 σ r1 σ2 h3), h4, (z_ix_in h5), (fun q => q h6), rfl, trivial⟩
    · obtain ⟨h7, hf⟩ := z_ck_inv hf
      obtain ⟨h8, hf⟩ := z_ck_inv hf
      obtain ⟨e1, e2⟩ := z_ret hf
      subst e1
      subst e2
      exact gx_end 31 [.inr (some (.int r1), σ2), .inl 0, .inl 1] [E0 D 3 [.ref 2, .int a1, .int a2] σ (some (.int r1)) σ2, ¬ (r1 = 0), vp_in a1 8, ¬ ((((σ2 5 a1.toNatClampNeg) >>> (a2 &&& 31)) &&& (1 : Int32)) = (1 : Int32)), vp_in a1 8, vp_in a1 8, (1 : Int32) &&& 1 = (1 : Int32)] rfl ⟨(ww_Fo_areUnlike D (by omega) a1 a2 σ r1 σ2 h3), h4, (z_ix_in h5), h6, (z_ix_in h7), (z_ix_in h8), rfl, trivial⟩
set_option maxHeartbeats 16000000 in
set_option maxRecDepth 20000 in
theorem ww_Sf_may (D : Nat) (hD : 3 ≤ D) (a1 : Int32) (a2 : Int32) (σ : gx_R) (rr : Int32) (σ' : gx_R) (hf : Sf_may a1 a2 σ = some (rr, σ')) : E0 D 97 [.ref 0, .int a1, .int a2] σ (some (.int rr)) σ' := by
  cases D with
  | zero => omega
  | succ D => exact Or.inl ⟨Nat.le_of_ble_eq_true rfl, vv_Sf_may_E D hD rr σ' a1 a2 σ hf⟩
set_option maxHeartbeats 16000000 in
set_option maxRecDepth 20000 in
theorem vv_Sf_hears_E (D : Nat) (hD : 3 ≤ D + 1) (rr : Int32) (σ' : gx_R) (a1 : Int32) (a2 : Int32) (σ : gx_R) (hf : Sf_hears a1 a2 σ = some (rr, σ')) : gx_Ev lay0 (E0 D) tt_98 (some (.int rr)) σ' 0 [.ref 0, .int a1, .int a2, .null] [] σ := by
  unfold Sf_hears at hf
  obtain ⟨r1, σ2, h3, hf⟩ := z_bd_inv hf
  rcases z_if_inv hf with ⟨h4, hf⟩ | ⟨h4, hf⟩
  · obtain ⟨e1, e2⟩ := z_ret hf
    subst e1
    subst e2
    exact gx_end 11 [.inr (some (.int r1), σ2), .inl 1] [E0 D 3 [.ref 2, .int a1, .int a2] σ (some (.int r1)) σ2, r1 = 0, (0 : Int32) &&& 1 = (0 : Int32)] rfl ⟨(ww_Fo_areUnlike D (by omega) a1 a2 σ r1 σ2 h3), h4, rfl, trivial⟩
  · obtain ⟨h5, hf⟩ := z_ck_inv hf
    rcases z_if_inv hf with ⟨h6, hf⟩ | ⟨h6, hf⟩
    · obtain ⟨e1, e2⟩ := z_ret hf
      subst e1
      subst e2
      exact gx_end 21 [.inr (some (.int r1), σ2), .inl 0, .inl 0] [E0 D 3 [.ref 2, .int a1, .int a2] σ (some (.int r1)) σ2, ¬ (r1 = 0), vp_in a1 8, ¬ ¬ ((((σ2 6 a1.toNatClampNeg) >>> (a2 &&& 31)) &&& (1 : Int32)) = (1 : Int32)), (0 : Int32) &&& 1 = (0 : Int32)] rfl ⟨(ww_Fo_areUnlike D (by omega) a1 a2 σ r1 σ2 h3), h4, (z_ix_in h5), (fun q => q h6), rfl, trivial⟩
    · obtain ⟨h7, hf⟩ := z_ck_inv hf
      obtain ⟨h8, hf⟩ := z_ck_inv hf
      obtain ⟨h9, hf⟩ := z_ck_inv hf
      obtain ⟨h10, hf⟩ := z_ck_inv hf
      obtain ⟨e1, e2⟩ := z_ret hf
      subst e1
      subst e2
      exact gx_end 41 [.inr (some (.int r1), σ2), .inl 0, .inl 1] [E0 D 3 [.ref 2, .int a1, .int a2] σ (some (.int r1)) σ2, ¬ (r1 = 0), vp_in a1 8, ¬ ((((σ2 6 a1.toNatClampNeg) >>> (a2 &&& 31)) &&& (1 : Int32)) = (1 : Int32)), vp_in a1 8, vp_in a1 8, vp_in a2 8, vp_in a2 8, (1 : Int32) &&& 1 = (1 : Int32)] rfl ⟨(ww_Fo_areUnlike D (by omega) a1 a2 σ r1 σ2 h3), h4, (z_ix_in h5), h6, (z_ix_in h7), (z_ix_in h8), (z_ix_in h9), (z_ix_in h10), rfl, trivial⟩
set_option maxHeartbeats 16000000 in
set_option maxRecDepth 20000 in
theorem ww_Sf_hears (D : Nat) (hD : 3 ≤ D) (a1 : Int32) (a2 : Int32) (σ : gx_R) (rr : Int32) (σ' : gx_R) (hf : Sf_hears a1 a2 σ = some (rr, σ')) : E0 D 98 [.ref 0, .int a1, .int a2] σ (some (.int rr)) σ' := by
  cases D with
  | zero => omega
  | succ D => exact Or.inl ⟨Nat.le_of_ble_eq_true rfl, vv_Sf_hears_E D hD rr σ' a1 a2 σ hf⟩
set_option maxHeartbeats 16000000 in
set_option maxRecDepth 20000 in
theorem vv_Sf_isDoing_E (D : Nat) (hD : 2 ≤ D + 1) (rr : Int32) (σ' : gx_R) (a1 : Int32) (a2 : Int32) (σ : gx_R) (hf : Sf_isDoing a1 a2 σ = some (rr, σ')) : gx_Ev lay0 (E0 D) tt_135 (some (.int rr)) σ' 0 [.ref 0, .int a1, .int a2] [] σ := by
  unfold Sf_isDoing at hf
  obtain ⟨r1, σ2, h3, hf⟩ := z_bd_inv hf
  rcases z_if_inv hf with ⟨h4, hf⟩ | ⟨h4, hf⟩
  · obtain ⟨e1, e2⟩ := z_ret hf
    subst e1
    subst e2
    exact gx_end 8 [.inr (some (.int r1), σ2), .inl 1] [E0 D 1 [.ref 2, .int a1] σ (some (.int r1)) σ2, r1 = 0, (0 : Int32) &&& 1 = (0 : Int32)] rfl ⟨(ww_Fo_isPerson D (by omega) a1 σ r1 σ2 h3), h4, rfl, trivial⟩
  · obtain ⟨h5, hf⟩ := z_ck_inv hf
    rcases z_if_inv hf with ⟨h6, hf⟩ | ⟨h6, hf⟩
    · obtain ⟨e1, e2⟩ := z_ret hf
      subst e1
      subst e2
      exact gx_end 17 [.inr (some (.int r1), σ2), .inl 0, .inl 0] [E0 D 1 [.ref 2, .int a1] σ (some (.int r1)) σ2, ¬ (r1 = 0), vp_in a1 8, ¬ ¬ ((σ2 10 a1.toNatClampNeg) = a2), (1 : Int32) &&& 1 = (1 : Int32)] rfl ⟨(ww_Fo_isPerson D (by omega) a1 σ r1 σ2 h3), h4, (z_ix_in h5), (fun q => q h6), rfl, trivial⟩
    · obtain ⟨e1, e2⟩ := z_ret hf
      subst e1
      subst e2
      exact gx_end 16 [.inr (some (.int r1), σ2), .inl 0, .inl 1] [E0 D 1 [.ref 2, .int a1] σ (some (.int r1)) σ2, ¬ (r1 = 0), vp_in a1 8, ¬ ((σ2 10 a1.toNatClampNeg) = a2), (0 : Int32) &&& 1 = (0 : Int32)] rfl ⟨(ww_Fo_isPerson D (by omega) a1 σ r1 σ2 h3), h4, (z_ix_in h5), h6, rfl, trivial⟩
set_option maxHeartbeats 16000000 in
set_option maxRecDepth 20000 in
theorem ww_Sf_isDoing (D : Nat) (hD : 2 ≤ D) (a1 : Int32) (a2 : Int32) (σ : gx_R) (rr : Int32) (σ' : gx_R) (hf : Sf_isDoing a1 a2 σ = some (rr, σ')) : E0 D 135 [.ref 0, .int a1, .int a2] σ (some (.int rr)) σ' := by
  cases D with
  | zero => omega
  | succ D => exact Or.inl ⟨Nat.le_of_ble_eq_true rfl, vv_Sf_isDoing_E D hD rr σ' a1 a2 σ hf⟩
set_option maxHeartbeats 16000000 in
set_option maxRecDepth 20000 in
theorem vv_Sf_wake_E (D : Nat) (hD : 3 ≤ D + 1) (rr : Int32) (σ' : gx_R) (a1 : Int32) (a2 : Int32) (σ : gx_R) (hf : Sf_wake a1 a2 σ = some (rr, σ')) : gx_Ev lay0 (E0 D) tt_99 (some (.int rr)) σ' 0 [.ref 0, .int a1, .int a2] [] σ := by
  unfold Sf_wake at hf
  obtain ⟨r1, σ2, h3, hf⟩ := z_bd_inv hf
  rcases z_if_inv hf with ⟨h4, hf⟩ | ⟨h4, hf⟩
  · obtain ⟨e1, e2⟩ := z_ret hf
    subst e1
    subst e2
    exact gx_end 7 [.inr (some (.int r1), σ2), .inl 1] [E0 D 135 [.ref 0, .int a1, .int (0 : Int32)] σ (some (.int r1)) σ2, r1 = 0, (0 : Int32) &&& 1 = (0 : Int32)] rfl ⟨(ww_Sf_isDoing D (by omega) a1 (0 : Int32) σ r1 σ2 h3), h4, rfl, trivial⟩
  · obtain ⟨r5, σ6, h7, hf⟩ := z_bd_inv hf
    rcases z_if_inv hf with ⟨h8, hf⟩ | ⟨h8, hf⟩
    · obtain ⟨e1, e2⟩ := z_ret hf
      subst e1
      subst e2
      exact gx_end 13 [.inr (some (.int r1), σ2), .inl 0, .inr (some (.int r5), σ6), .inl 0] [E0 D 135 [.ref 0, .int a1, .int (0 : Int32)] σ (some (.int r1)) σ2, ¬ (r1 = 0), E0 D 2 [.ref 2, .int a2] σ2 (some (.int r5)) σ6, ¬ ¬ (r5 = 0), (0 : Int32) &&& 1 = (0 : Int32)] rfl ⟨(ww_Sf_isDoing D (by omega) a1 (0 : Int32) σ r1 σ2 h3), h4, (ww_Fo_isWork D (by omega) a2 σ2 r5 σ6 h7), (fun q => q h8), rfl, trivial⟩
    · obtain ⟨⟨⟩, σ10, h11, hf⟩ := z_bd_inv hf
      obtain ⟨⟨⟩, σ13, h14, hf⟩ := z_bd_inv hf
      obtain ⟨e1, e2⟩ := z_ret hf
      subst e1
      subst e2
      exact gx_end 27 [.inr (some (.int r1), σ2), .inl 0, .inr (some (.int r5), σ6), .inl 1, .inr (none, σ10), .inr (none, σ13)] [E0 D 135 [.ref 0, .int a1, .int (0 : Int32)] σ (some (.int r1)) σ2, ¬ (r1 = 0), E0 D 2 [.ref 2, .int a2] σ2 (some (.int r5)) σ6, ¬ (r5 = 0), E0 D 19 [.ref 16, .ref 9] σ6 (none) σ10, E0 D 9 [.ref 9, .int a1, .int (1 : Int32), .int a2] σ10 (none) σ13, (1 : Int32) &&& 1 = (1 : Int32)] rfl ⟨(ww_Sf_isDoing D (by omega) a1 (0 : Int32) σ r1 σ2 h3), h4, (ww_Fo_isWork D (by omega) a2 σ2 r5 σ6 h7), h8, (ww_St_push D (by omega) σ6 () σ10 h11), (ww_Ni_begin D (by omega) 9 a1 (1 : Int32) a2 σ10 () σ13 (Or.inl rfl) h14), rfl, trivial⟩
set_option maxHeartbeats 16000000 in
set_option maxRecDepth 20000 in
theorem ww_Sf_wake (D : Nat) (hD : 3 ≤ D) (a1 : Int32) (a2 : Int32) (σ : gx_R) (rr : Int32) (σ' : gx_R) (hf : Sf_wake a1 a2 σ = some (rr, σ')) : E0 D 99 [.ref 0, .int a1, .int a2] σ (some (.int rr)) σ' := by
  cases D with
  | zero => omega
  | succ D => exact Or.inl ⟨Nat.le_of_ble_eq_true rfl, vv_Sf_wake_E D hD rr σ' a1 a2 σ hf⟩
set_option maxHeartbeats 16000000 in
set_option maxRecDepth 20000 in
theorem vv_Sf_sleep_E (D : Nat) (hD : 3 ≤ D + 1) (rr : Int32) (σ' : gx_R) (a1 : Int32) (a2 : Int32) (σ : gx_R) (hf : Sf_sleep a1 a2 σ = some (rr, σ')) : gx_Ev lay0 (E0 D) tt_100 (some (.int rr)) σ' 0 [.ref 0, .int a1, .int a2, .null] [] σ := by
  unfold Sf_sleep at hf
  obtain ⟨r1, σ2, h3, hf⟩ := z_bd_inv hf
  rcases z_if_inv hf with ⟨h4, hf⟩ | ⟨h4, hf⟩
  · obtain ⟨e1, e2⟩ := z_ret hf
    subst e1
    subst e2
    exact gx_end 11 [.inr (some (.int r1), σ2), .inl 1] [E0 D 135 [.ref 0, .int a1, .int (0 : Int32)] σ (some (.int r1)) σ2, r1 = 0, (0 : Int32) &&& 1 = (0 : Int32)] rfl ⟨(ww_Sf_isDoing D (by omega) a1 (0 : Int32) σ r1 σ2 h3), h4, rfl, trivial⟩
  · obtain ⟨r5, σ6, h7, hf⟩ := z_bd_inv hf
    rcases z_if_inv hf with ⟨h8, hf⟩ | ⟨h8, hf⟩
    · obtain ⟨e1, e2⟩ := z_ret hf
      subst e1
      subst e2
      exact gx_end 16 [.inr (some (.int r1), σ2), .inl 0, .inr (some (.int r5), σ6), .inl 1] [E0 D 135 [.ref 0, .int a1, .int (0 : Int32)] σ (some (.int r1)) σ2, ¬ (r1 = 0), E0 D 3 [.ref 2, .int a1, .int a2] σ2 (some (.int r5)) σ6, r5 = 0, (0 : Int32) &&& 1 = (0 : Int32)] rfl ⟨(ww_Sf_isDoing D (by omega) a1 (0 : Int32) σ r1 σ2 h3), h4, (ww_Fo_areUnlike D (by omega) a1 a2 σ2 r5 σ6 h7), h8, rfl, trivial⟩
    · obtain ⟨h9, hf⟩ := z_ck_inv hf
      rcases z_if_inv hf with ⟨h10, hf⟩ | ⟨h10, hf⟩
      · obtain ⟨e1, e2⟩ := z_ret hf
        subst e1
        subst e2
        exact gx_end 25 [.inr (some (.int r1), σ2), .inl 0, .inr (some (.int r5), σ6), .inl 0, .inl 0] [E0 D 135 [.ref 0, .int a1, .int (0 : Int32)] σ (some (.int r1)) σ2, ¬ (r1 = 0), E0 D 3 [.ref 2, .int a1, .int a2] σ2 (some (.int r5)) σ6, ¬ (r5 = 0), vp_in a1 8, ¬ ¬ ((((σ6 5 a1.toNatClampNeg) >>> (a2 &&& 31)) &&& (1 : Int32)) = 0), (0 : Int32) &&& 1 = (0 : Int32)] rfl ⟨(ww_Sf_isDoing D (by omega) a1 (0 : Int32) σ r1 σ2 h3), h4, (ww_Fo_areUnlike D (by omega) a1 a2 σ2 r5 σ6 h7), h8, (z_ix_in h9), (fun q => q h10), rfl, trivial⟩
      · obtain ⟨⟨⟩, σ12, h13, hf⟩ := z_bd_inv hf
        obtain ⟨⟨⟩, σ15, h16, hf⟩ := z_bd_inv hf
        obtain ⟨e1, e2⟩ := z_ret hf
        subst e1
        subst e2
        exact gx_end 39 [.inr (some (.int r1), σ2), .inl 0, .inr (some (.int r5), σ6), .inl 0, .inl 1, .inr (none, σ12), .inr (none, σ15)] [E0 D 135 [.ref 0, .int a1, .int (0 : Int32)] σ (some (.int r1)) σ2, ¬ (r1 = 0), E0 D 3 [.ref 2, .int a1, .int a2] σ2 (some (.int r5)) σ6, ¬ (r5 = 0), vp_in a1 8, ¬ ((((σ6 5 a1.toNatClampNeg) >>> (a2 &&& 31)) &&& (1 : Int32)) = 0), E0 D 19 [.ref 16, .ref 9] σ6 (none) σ12, E0 D 9 [.ref 9, .int a1, .int (2 : Int32), .int a2] σ12 (none) σ15, (1 : Int32) &&& 1 = (1 : Int32)] rfl ⟨(ww_Sf_isDoing D (by omega) a1 (0 : Int32) σ r1 σ2 h3), h4, (ww_Fo_areUnlike D (by omega) a1 a2 σ2 r5 σ6 h7), h8, (z_ix_in h9), h10, (ww_St_push D (by omega) σ6 () σ12 h13), (ww_Ni_begin D (by omega) 9 a1 (2 : Int32) a2 σ12 () σ15 (Or.inl rfl) h16), rfl, trivial⟩
set_option maxHeartbeats 16000000 in
set_option maxRecDepth 20000 in
theorem ww_Sf_sleep (D : Nat) (hD : 3 ≤ D) (a1 : Int32) (a2 : Int32) (σ : gx_R) (rr : Int32) (σ' : gx_R) (hf : Sf_sleep a1 a2 σ = some (rr, σ')) : E0 D 100 [.ref 0, .int a1, .int a2] σ (some (.int rr)) σ' := by
  cases D with
  | zero => omega
  | succ D => exact Or.inl ⟨Nat.le_of_ble_eq_true rfl, vv_Sf_sleep_E D hD rr σ' a1 a2 σ hf⟩
set_option maxHeartbeats 16000000 in
set_option maxRecDepth 20000 in
theorem vv_Sf_idle_E (D : Nat) (hD : 3 ≤ D + 1) (rr : Int32) (σ' : gx_R) (a1 : Int32) (σ : gx_R) (hf : Sf_idle a1 σ = some (rr, σ')) : gx_Ev lay0 (E0 D) tt_101 (some (.int rr)) σ' 0 [.ref 0, .int a1] [] σ := by
  unfold Sf_idle at hf
  obtain ⟨r1, σ2, h3, hf⟩ := z_bd_inv hf
  rcases z_if_inv hf with ⟨h4, hf⟩ | ⟨h4, hf⟩
  · obtain ⟨e1, e2⟩ := z_ret hf
    subst e1
    subst e2
    exact gx_end 8 [.inr (some (.int r1), σ2), .inl 1] [E0 D 1 [.ref 2, .int a1] σ (some (.int r1)) σ2, r1 = 0, (0 : Int32) &&& 1 = (0 : Int32)] rfl ⟨(ww_Fo_isPerson D (by omega) a1 σ r1 σ2 h3), h4, rfl, trivial⟩
  · obtain ⟨r5, σ6, h7, hf⟩ := z_bd_inv hf
    rcases z_if_inv hf with ⟨h8, hf⟩ | ⟨h8, hf⟩
    · obtain ⟨⟨⟩, σ10, h11, hf⟩ := z_bd_inv hf
      obtain ⟨⟨⟩, σ13, h14, hf⟩ := z_bd_inv hf
      obtain ⟨e1, e2⟩ := z_ret hf
      subst e1
      subst e2
      exact gx_end 27 [.inr (some (.int r1), σ2), .inl 0, .inr (some (.int r5), σ6), .inl 1, .inr (none, σ10), .inr (none, σ13)] [E0 D 1 [.ref 2, .int a1] σ (some (.int r1)) σ2, ¬ (r1 = 0), E0 D 135 [.ref 0, .int a1, .int (0 : Int32)] σ2 (some (.int r5)) σ6, r5 = 0, E0 D 19 [.ref 16, .ref 9] σ6 (none) σ10, E0 D 10 [.ref 9, .int ((1 : Int32) <<< (a1 &&& 31))] σ10 (none) σ13, (1 : Int32) &&& 1 = (1 : Int32)] rfl ⟨(ww_Fo_isPerson D (by omega) a1 σ r1 σ2 h3), h4, (ww_Sf_isDoing D (by omega) a1 (0 : Int32) σ2 r5 σ6 h7), h8, (ww_St_push D (by omega) σ6 () σ10 h11), (ww_Ni_makeIdle D (by omega) 9 ((1 : Int32) <<< (a1 &&& 31)) σ10 () σ13 (Or.inl rfl) h14), rfl, trivial⟩
    · obtain ⟨e1, e2⟩ := z_ret hf
      subst e1
      subst e2
      exact gx_end 13 [.inr (some (.int r1), σ2), .inl 0, .inr (some (.int r5), σ6), .inl 0] [E0 D 1 [.ref 2, .int a1] σ (some (.int r1)) σ2, ¬ (r1 = 0), E0 D 135 [.ref 0, .int a1, .int (0 : Int32)] σ2 (some (.int r5)) σ6, ¬ (r5 = 0), (0 : Int32) &&& 1 = (0 : Int32)] rfl ⟨(ww_Fo_isPerson D (by omega) a1 σ r1 σ2 h3), h4, (ww_Sf_isDoing D (by omega) a1 (0 : Int32) σ2 r5 σ6 h7), h8, rfl, trivial⟩
set_option maxHeartbeats 16000000 in
set_option maxRecDepth 20000 in
theorem ww_Sf_idle (D : Nat) (hD : 3 ≤ D) (a1 : Int32) (σ : gx_R) (rr : Int32) (σ' : gx_R) (hf : Sf_idle a1 σ = some (rr, σ')) : E0 D 101 [.ref 0, .int a1] σ (some (.int rr)) σ' := by
  cases D with
  | zero => omega
  | succ D => exact Or.inl ⟨Nat.le_of_ble_eq_true rfl, vv_Sf_idle_E D hD rr σ' a1 σ hf⟩
set_option maxHeartbeats 16000000 in
set_option maxRecDepth 20000 in
theorem vv_Sf_call_E (D : Nat) (hD : 6 ≤ D + 1) (rr : Int32) (σ' : gx_R) (a1 : Int32) (σ : gx_R) (hf : Sf_call a1 σ = some (rr, σ')) : gx_Ev lay0 (E0 D) tt_102 (some (.int rr)) σ' 0 [.ref 0, .int a1, .null] [] σ := by
  unfold Sf_call at hf
  obtain ⟨r1, σ2, h3, hf⟩ := z_bd_inv hf
  rcases z_if_inv hf with ⟨h4, hf⟩ | ⟨h4, hf⟩
  · obtain ⟨e1, e2⟩ := z_ret hf
    subst e1
    subst e2
    exact gx_end 7 [.inr (some (.int r1), σ2), .inl 0] [E0 D 135 [.ref 0, .int a1, .int (2 : Int32)] σ (some (.int r1)) σ2, ¬ ¬ (r1 = 0)] rfl ⟨(ww_Sf_isDoing D (by omega) a1 (2 : Int32) σ r1 σ2 h3), (fun q => q h4), trivial⟩
  · obtain ⟨⟨⟩, σ6, h7, hf⟩ := z_bd_inv hf
    obtain ⟨r8, σ9, h10, hf⟩ := z_bd_inv hf
    obtain ⟨⟨⟩, σ12, h13, hf⟩ := z_bd_inv hf
    obtain ⟨r14, σ15, h16, hf⟩ := z_bd_inv hf
    obtain ⟨e1, e2⟩ := z_ret hf
    subst e1
    subst e2
    exact gx_end 28 [.inr (some (.int r1), σ2), .inl 1, .inr (none, σ6), .inr (some (.int r8), σ9), .inr (none, σ12), .inr (some (.int r14), σ15)] [E0 D 135 [.ref 0, .int a1, .int (2 : Int32)] σ (some (.int r1)) σ2, ¬ (r1 = 0), E0 D 19 [.ref 16, .ref 9] σ2 (none) σ6, E0 D 40 [.ref 53, .ref 9, .int a1] σ6 (some (.int r8)) σ9, E0 D 10 [.ref 9, .int r8] σ9 (none) σ12, E0 D 0 [.int r8] σ12 (some (.int r14)) σ15] rfl ⟨(ww_Sf_isDoing D (by omega) a1 (2 : Int32) σ r1 σ2 h3), h4, (ww_St_push D (by omega) σ2 () σ6 h7), (ww_Cl_wokenBy D (by omega) a1 σ6 r8 σ9 h10), (ww_Ni_makeIdle D (by omega) 9 r8 σ9 () σ12 (Or.inl rfl) h13), (ww_Jd_bitCount D (by omega) r8 σ12 r14 σ15 h16), trivial⟩
set_option maxHeartbeats 16000000 in
set_option maxRecDepth 20000 in
theorem ww_Sf_call (D : Nat) (hD : 6 ≤ D) (a1 : Int32) (σ : gx_R) (rr : Int32) (σ' : gx_R) (hf : Sf_call a1 σ = some (rr, σ')) : E0 D 102 [.ref 0, .int a1] σ (some (.int rr)) σ' := by
  cases D with
  | zero => omega
  | succ D => exact Or.inl ⟨Nat.le_of_ble_eq_true rfl, vv_Sf_call_E D hD rr σ' a1 σ hf⟩
set_option maxHeartbeats 16000000 in
set_option maxRecDepth 20000 in
theorem vv_Sf_repay_E (D : Nat) (hD : 3 ≤ D + 1) (rr : Int32) (σ' : gx_R) (a1 : Int32) (a2 : Int32) (a3 : Int32) (σ : gx_R) (hf : Sf_repay a1 a2 a3 σ = some (rr, σ')) : gx_Ev lay0 (E0 D) tt_103 (some (.int rr)) σ' 0 [.ref 0, .int a1, .int a2, .int a3, .null, .null] [] σ := by
  unfold Sf_repay at hf
  obtain ⟨r1, σ2, h3, hf⟩ := z_bd_inv hf
  rcases z_if_inv hf with ⟨h4, hf⟩ | ⟨h4, hf⟩
  · obtain ⟨e1, e2⟩ := z_ret hf
    subst e1
    subst e2
    exact gx_end 9 [.inr (some (.int r1), σ2), .inl 0] [E0 D 3 [.ref 2, .int a1, .int a2] σ (some (.int r1)) σ2, ¬ ¬ (r1 = 0)] rfl ⟨(ww_Fo_areUnlike D (by omega) a1 a2 σ r1 σ2 h3), (fun q => q h4), trivial⟩
  · rcases z_if_inv hf with ⟨h5, hf⟩ | ⟨h5, hf⟩
    · obtain ⟨e1, e2⟩ := z_ret hf
      subst e1
      subst e2
      exact gx_end 22 [.inr (some (.int r1), σ2), .inl 1, .inl 1] [E0 D 3 [.ref 2, .int a1, .int a2] σ (some (.int r1)) σ2, ¬ (r1 = 0), a3 < (1 : Int32)] rfl ⟨(ww_Fo_areUnlike D (by omega) a1 a2 σ r1 σ2 h3), h4, h5, trivial⟩
    · obtain ⟨h6, hf⟩ := z_ck_inv hf
      rcases z_if_inv hf with ⟨h7, hf⟩ | ⟨h7, hf⟩
      · obtain ⟨⟨⟩, σ9, h10, hf⟩ := z_bd_inv hf
        obtain ⟨h11, hf⟩ := z_ck_inv hf
        obtain ⟨h12, hf⟩ := z_ck_inv hf
        obtain ⟨h13, hf⟩ := z_ck_inv hf
        obtain ⟨e1, e2⟩ := z_ret hf
        subst e1
        subst e2
        exact gx_end 44 [.inr (some (.int r1), σ2), .inl 1, .inl 0, .inl 1, .inr (none, σ9)] [E0 D 3 [.ref 2, .int a1, .int a2] σ (some (.int r1)) σ2, ¬ (r1 = 0), ¬ (a3 < (1 : Int32)), vp_in ((a1 * (8 : Int32)) + a2) 64, a3 ≤ (σ2 14 (((a1 * (8 : Int32)) + a2).toNatClampNeg)), E0 D 19 [.ref 16, .ref 9] σ2 (none) σ9, vp_in ((a1 * (8 : Int32)) + a2) 64, vp_in ((a1 * (8 : Int32)) + a2) 64, vp_in ((a1 * (8 : Int32)) + a2) 64] rfl ⟨(ww_Fo_areUnlike D (by omega) a1 a2 σ r1 σ2 h3), h4, h5, (z_ix_in h6), h7, (ww_St_push D (by omega) σ2 () σ9 h10), (z_ix_in h11), (z_ix_in h12), (z_ix_in h13), trivial⟩
      · obtain ⟨e1, e2⟩ := z_ret hf
        subst e1
        subst e2
        exact gx_end 28 [.inr (some (.int r1), σ2), .inl 1, .inl 0, .inl 0] [E0 D 3 [.ref 2, .int a1, .int a2] σ (some (.int r1)) σ2, ¬ (r1 = 0), ¬ (a3 < (1 : Int32)), vp_in ((a1 * (8 : Int32)) + a2) 64, ¬ (a3 ≤ (σ2 14 (((a1 * (8 : Int32)) + a2).toNatClampNeg)))] rfl ⟨(ww_Fo_areUnlike D (by omega) a1 a2 σ r1 σ2 h3), h4, h5, (z_ix_in h6), h7, trivial⟩
set_option maxHeartbeats 16000000 in
set_option maxRecDepth 20000 in
theorem ww_Sf_repay (D : Nat) (hD : 3 ≤ D) (a1 : Int32) (a2 : Int32) (a3 : Int32) (σ : gx_R) (rr : Int32) (σ' : gx_R) (hf : Sf_repay a1 a2 a3 σ = some (rr, σ')) : E0 D 103 [.ref 0, .int a1, .int a2, .int a3] σ (some (.int rr)) σ' := by
  cases D with
  | zero => omega
  | succ D => exact Or.inl ⟨Nat.le_of_ble_eq_true rfl, vv_Sf_repay_E D hD rr σ' a1 a2 a3 σ hf⟩
set_option maxHeartbeats 16000000 in
set_option maxRecDepth 20000 in
theorem vv_Sf_passHours_25 (D : Nat) (hD : 6 ≤ D + 1) (rr : Int32) (σ' : gx_R) (K8 : Int32 → Int32 → Int32 → Int32 → gx_R → Option (Int32 × gx_R)) (hK8 : ∀ (a1 : Int32) (a2 : Int32) (a4 : Int32) (a5 : Int32) (σ : gx_R), K8 a1 a2 a4 a5 σ = some (rr, σ') → gx_Ev lay0 (E0 D) tt_137 (some (.int rr)) σ' 8 [.ref 0, .int a1, .int a2, .ref 9, .int a4, .int a5, .null] [] σ) (a1 : Int32) (a2 : Int32) (a4 : Int32) (a5 : Int32) (σ : gx_R) (hf : Sf_passHours_25 K8 a1 a2 a4 a5 σ = some (rr, σ')) : gx_Ev lay0 (E0 D) tt_137 (some (.int rr)) σ' 25 [.ref 0, .int a1, .int a2, .ref 9, .int a4, .int a5, .null] [] σ := by
  unfold Sf_passHours_25 at hf
  obtain ⟨⟨⟩, σ2, h3, hf⟩ := z_bd_inv hf
  obtain ⟨h4, hf⟩ := z_ck_inv hf
  obtain ⟨r5, σ6, h7, hf⟩ := z_bd_inv hf
  exact gx_go_ 36 [.inr (none, σ2), .inr (some (.int r5), σ6)] [E0 D 34 [.ref 53, .ref 9] σ (none) σ2, vp_in (σ 9 6) 999, E0 D 0 [.int ((gx_up σ2 18 (σ 9 6).toNatClampNeg (((σ2 53 4) ||| ((σ2 53 5) <<< ((8 : Int32) &&& 31))) ||| ((σ2 53 6) <<< ((16 : Int32) &&& 31)))) 53 4)] (gx_up σ2 18 (σ 9 6).toNatClampNeg (((σ2 53 4) ||| ((σ2 53 5) <<< ((8 : Int32) &&& 31))) ||| ((σ2 53 6) <<< ((16 : Int32) &&& 31)))) (some (.int r5)) σ6] 8 [.ref 0, .int a1, .int a2, .ref 9, .int (a4 + r5), .int (a5 + 1), .int (σ 9 6)] [] σ6 rfl ⟨(ww_Cl_pass D (by omega) 9 σ () σ2 (Or.inl rfl) h3), (z_ix_in h4), (ww_Jd_bitCount D (by omega) ((gx_up σ2 18 (σ 9 6).toNatClampNeg (((σ2 53 4) ||| ((σ2 53 5) <<< ((8 : Int32) &&& 31))) ||| ((σ2 53 6) <<< ((16 : Int32) &&& 31)))) 53 4) (gx_up σ2 18 (σ 9 6).toNatClampNeg (((σ2 53 4) ||| ((σ2 53 5) <<< ((8 : Int32) &&& 31))) ||| ((σ2 53 6) <<< ((16 : Int32) &&& 31)))) r5 σ6 h7), trivial⟩ (gx_fgt (ls' := [.ref 0, .int a1, .int a2, .ref 9, .int (a4 + r5), .int (a5 + 1), .null]) ⟨Or.inr rfl, Or.inr rfl, Or.inr rfl, Or.inr rfl, Or.inr rfl, Or.inr rfl, Or.inl rfl, trivial⟩ (hK8 a1 a2 (a4 + r5) (a5 + 1) σ6 hf))
set_option maxHeartbeats 16000000 in
set_option maxRecDepth 20000 in
theorem vv_Sf_passHours_8_B (D : Nat) (hD : 6 ≤ D + 1) (rr : Int32) (σ' : gx_R) (K8 : Int32 → Int32 → Int32 → Int32 → gx_R → Option (Int32 × gx_R)) (hK8 : ∀ (a1 : Int32) (a2 : Int32) (a4 : Int32) (a5 : Int32) (σ : gx_R), K8 a1 a2 a4 a5 σ = some (rr, σ') → gx_Ev lay0 (E0 D) tt_137 (some (.int rr)) σ' 8 [.ref 0, .int a1, .int a2, .ref 9, .int a4, .int a5, .null] [] σ) (a1 : Int32) (a2 : Int32) (a4 : Int32) (a5 : Int32) (σ : gx_R) (hf : Sf_passHours_8_B K8 a1 a2 a4 a5 σ = some (rr, σ')) : gx_Ev lay0 (E0 D) tt_137 (some (.int rr)) σ' 8 [.ref 0, .int a1, .int a2, .ref 9, .int a4, .int a5, .null] [] σ := by
  unfold Sf_passHours_8_B at hf
  rcases z_if_inv hf with ⟨h1, hf⟩ | ⟨h1, hf⟩
  · obtain ⟨e1, e2⟩ := z_ret hf
    subst e1
    subst e2
    exact gx_end 5 [.inl 1] [a1 ≤ a5] rfl ⟨h1, trivial⟩
  · rcases z_if_inv hf with ⟨h2, hf⟩ | ⟨h2, hf⟩
    · obtain ⟨e1, e2⟩ := z_ret hf
      subst e1
      subst e2
      exact gx_end 8 [.inl 0, .inl 1] [¬ (a1 ≤ a5), (σ 9 6) < 0] rfl ⟨h1, h2, trivial⟩
    · rcases z_if_inv hf with ⟨h3, hf⟩ | ⟨h3, hf⟩
      · obtain ⟨e1, e2⟩ := z_ret hf
        subst e1
        subst e2
        exact gx_end 12 [.inl 0, .inl 0, .inl 1] [¬ (a1 ≤ a5), ¬ ((σ 9 6) < 0), (999 : Int32) ≤ (σ 9 6)] rfl ⟨h1, h2, h3, trivial⟩
      · rcases z_if_inv hf with ⟨h4, hf⟩ | ⟨h4, hf⟩
        · exact gx_go_ 12 [.inl 0, .inl 0, .inl 0, .inl 1] [¬ (a1 ≤ a5), ¬ ((σ 9 6) < 0), ¬ ((999 : Int32) ≤ (σ 9 6)), a2 = 0] 25 [.ref 0, .int a1, .int a2, .ref 9, .int a4, .int a5, .null] [] σ rfl ⟨h1, h2, h3, h4, trivial⟩ (gx_fgt (ls' := [.ref 0, .int a1, .int a2, .ref 9, .int a4, .int a5, .null]) ⟨Or.inr rfl, Or.inr rfl, Or.inr rfl, Or.inr rfl, Or.inr rfl, Or.inr rfl, Or.inl rfl, trivial⟩ (vv_Sf_passHours_25 D hD rr σ' K8 hK8 a1 a2 a4 a5 σ hf))
        · obtain ⟨⟨⟩, σ6, h7, hf⟩ := z_bd_inv hf
          exact gx_go_ 17 [.inl 0, .inl 0, .inl 0, .inl 0, .inr (none, σ6)] [¬ (a1 ≤ a5), ¬ ((σ 9 6) < 0), ¬ ((999 : Int32) ≤ (σ 9 6)), ¬ (a2 = 0), E0 D 19 [.ref 16, .ref 9] σ (none) σ6] 25 [.ref 0, .int a1, .int a2, .ref 9, .int a4, .int a5, .null] [] σ6 rfl ⟨h1, h2, h3, h4, (ww_St_push D (by omega) σ () σ6 h7), trivial⟩ (gx_fgt (ls' := [.ref 0, .int a1, .int a2, .ref 9, .int a4, .int a5, .null]) ⟨Or.inr rfl, Or.inr rfl, Or.inr rfl, Or.inr rfl, Or.inr rfl, Or.inr rfl, Or.inl rfl, trivial⟩ (vv_Sf_passHours_25 D hD rr σ' K8 hK8 a1 a2 a4 a5 σ6 hf))
set_option maxHeartbeats 16000000 in
set_option maxRecDepth 20000 in
theorem vv_Sf_passHours_8 (D : Nat) (hD : 6 ≤ D + 1) (rr : Int32) (σ' : gx_R) : ∀ (n : Nat) (a1 : Int32) (a2 : Int32) (a4 : Int32) (a5 : Int32) (σ : gx_R), Sf_passHours_8 n a1 a2 a4 a5 σ = some (rr, σ') → gx_Ev lay0 (E0 D) tt_137 (some (.int rr)) σ' 8 [.ref 0, .int a1, .int a2, .ref 9, .int a4, .int a5, .null] [] σ := by
  intro n
  induction n with
  | zero => intro a1 a2 a4 a5 σ  hf; cases hf
  | succ n ih => intro a1 a2 a4 a5 σ  hf; exact vv_Sf_passHours_8_B D hD rr σ'  (Sf_passHours_8 n) ih a1 a2 a4 a5 σ  hf
set_option maxHeartbeats 16000000 in
set_option maxRecDepth 20000 in
theorem vv_Sf_passHours_E (D : Nat) (hD : 6 ≤ D + 1) (rr : Int32) (σ' : gx_R) (a1 : Int32) (a2 : Int32) (σ : gx_R) (hf : Sf_passHours a1 a2 σ = some (rr, σ')) : gx_Ev lay0 (E0 D) tt_137 (some (.int rr)) σ' 0 [.ref 0, .int a1, .int a2, .null, .null, .null, .null] [] σ := by
  unfold Sf_passHours at hf
  exact gx_go_ 8 [] [] 8 [.ref 0, .int a1, .int a2, .ref 9, .int (0 : Int32), .int (0 : Int32), .null] [] σ rfl trivial (gx_fgt (ls' := [.ref 0, .int a1, .int a2, .ref 9, .int (0 : Int32), .int (0 : Int32), .null]) ⟨Or.inr rfl, Or.inr rfl, Or.inr rfl, Or.inr rfl, Or.inr rfl, Or.inr rfl, Or.inl rfl, trivial⟩ (vv_Sf_passHours_8 D hD rr σ' z_FU a1 a2 (0 : Int32) (0 : Int32) σ hf))
set_option maxHeartbeats 16000000 in
set_option maxRecDepth 20000 in
theorem ww_Sf_passHours (D : Nat) (hD : 6 ≤ D) (a1 : Int32) (a2 : Int32) (σ : gx_R) (rr : Int32) (σ' : gx_R) (hf : Sf_passHours a1 a2 σ = some (rr, σ')) : E0 D 137 [.ref 0, .int a1, .int a2] σ (some (.int rr)) σ' := by
  cases D with
  | zero => omega
  | succ D => exact Or.inl ⟨Nat.le_of_ble_eq_true rfl, vv_Sf_passHours_E D hD rr σ' a1 a2 σ hf⟩
set_option maxHeartbeats 16000000 in
set_option maxRecDepth 20000 in
theorem vv_Sf_hour_E (D : Nat) (hD : 7 ≤ D + 1) (rr : Int32) (σ' : gx_R) (a1 : Int32) (σ : gx_R) (hf : Sf_hour a1 σ = some (rr, σ')) : gx_Ev lay0 (E0 D) tt_104 (some (.int rr)) σ' 0 [.ref 0, .int a1] [] σ := by
  unfold Sf_hour at hf
  rcases z_if_inv hf with ⟨h1, hf⟩ | ⟨h1, hf⟩
  · obtain ⟨e1, e2⟩ := z_ret hf
    subst e1
    subst e2
    exact gx_end 5 [.inl 1] [a1 < (1 : Int32)] rfl ⟨h1, trivial⟩
  · rcases z_if_inv hf with ⟨h2, hf⟩ | ⟨h2, hf⟩
    · obtain ⟨e1, e2⟩ := z_ret hf
      subst e1
      subst e2
      exact gx_end 8 [.inl 0, .inl 1] [¬ (a1 < (1 : Int32)), (60 : Int32) < a1] rfl ⟨h1, h2, trivial⟩
    · rcases z_if_inv hf with ⟨h3, hf⟩ | ⟨h3, hf⟩
      · obtain ⟨r4, σ5, h6, hf⟩ := z_bd_inv hf
        obtain ⟨e1, e2⟩ := z_ret hf
        subst e1
        subst e2
        exact gx_end 19 [.inl 0, .inl 0, .inl 1, .inr (some (.int r4), σ5)] [¬ (a1 < (1 : Int32)), ¬ ((60 : Int32) < a1), ((σ 9 6) + a1) ≤ (999 : Int32), E0 D 137 [.ref 0, .int a1, .int (1 : Int32)] σ (some (.int r4)) σ5] rfl ⟨h1, h2, h3, (ww_Sf_passHours D (by omega) a1 (1 : Int32) σ r4 σ5 h6), trivial⟩
      · obtain ⟨e1, e2⟩ := z_ret hf
        subst e1
        subst e2
        exact gx_end 16 [.inl 0, .inl 0, .inl 0] [¬ (a1 < (1 : Int32)), ¬ ((60 : Int32) < a1), ¬ (((σ 9 6) + a1) ≤ (999 : Int32))] rfl ⟨h1, h2, h3, trivial⟩
set_option maxHeartbeats 16000000 in
set_option maxRecDepth 20000 in
theorem ww_Sf_hour (D : Nat) (hD : 7 ≤ D) (a1 : Int32) (σ : gx_R) (rr : Int32) (σ' : gx_R) (hf : Sf_hour a1 σ = some (rr, σ')) : E0 D 104 [.ref 0, .int a1] σ (some (.int rr)) σ' := by
  cases D with
  | zero => omega
  | succ D => exact Or.inl ⟨Nat.le_of_ble_eq_true rfl, vv_Sf_hour_E D hD rr σ' a1 σ hf⟩
