set_option maxHeartbeats 16000000 in
set_option maxRecDepth 20000 in
theorem vv_Jd_bitCount_E (D : Nat) (hD : 1 ≤ D + 1) (rr : Int32) (σ' : gx_R) (a0 : Int32) (σ : gx_R) (hf : Jd_bitCount a0 σ = some (rr, σ')) : gx_Ev lay0 (E0 D) tt_0 (some (.int rr)) σ' 0 [.int a0] [] σ := by
  unfold Jd_bitCount at hf
  obtain ⟨e1, e2⟩ := z_ret hf
  subst e1
  subst e2
  exact gx_end 42 [] [] rfl trivial
set_option maxHeartbeats 16000000 in
set_option maxRecDepth 20000 in
theorem ww_Jd_bitCount (D : Nat) (hD : 1 ≤ D) (a0 : Int32) (σ : gx_R) (rr : Int32) (σ' : gx_R) (hf : Jd_bitCount a0 σ = some (rr, σ')) : E0 D 0 [.int a0] σ (some (.int rr)) σ' := by
  cases D with
  | zero => omega
  | succ D => exact Or.inl ⟨Nat.le_of_ble_eq_true rfl, vv_Jd_bitCount_E D hD rr σ' a0 σ hf⟩
set_option maxHeartbeats 16000000 in
set_option maxRecDepth 20000 in
theorem vv_Fo_isPerson_E (D : Nat) (hD : 1 ≤ D + 1) (rr : Int32) (σ' : gx_R) (a1 : Int32) (σ : gx_R) (hf : Fo_isPerson a1 σ = some (rr, σ')) : gx_Ev lay0 (E0 D) tt_1 (some (.int rr)) σ' 0 [.ref 2, .int a1] [] σ := by
  unfold Fo_isPerson at hf
  rcases z_if_inv hf with ⟨h1, hf⟩ | ⟨h1, hf⟩
  · obtain ⟨e1, e2⟩ := z_ret hf
    subst e1
    subst e2
    exact gx_end 4 [.inl 1] [a1 < 0, (0 : Int32) &&& 1 = (0 : Int32)] rfl ⟨h1, rfl, trivial⟩
  · rcases z_if_inv hf with ⟨h2, hf⟩ | ⟨h2, hf⟩
    · obtain ⟨e1, e2⟩ := z_ret hf
      subst e1
      subst e2
      exact gx_end 8 [.inl 0, .inl 1] [¬ (a1 < 0), (σ 2 0) ≤ a1, (0 : Int32) &&& 1 = (0 : Int32)] rfl ⟨h1, h2, rfl, trivial⟩
    · rcases z_if_inv hf with ⟨h3, hf⟩ | ⟨h3, hf⟩
      · obtain ⟨e1, e2⟩ := z_ret hf
        subst e1
        subst e2
        exact gx_end 11 [.inl 0, .inl 0, .inl 1] [¬ (a1 < 0), ¬ ((σ 2 0) ≤ a1), (8 : Int32) ≤ a1, (0 : Int32) &&& 1 = (0 : Int32)] rfl ⟨h1, h2, h3, rfl, trivial⟩
      · obtain ⟨e1, e2⟩ := z_ret hf
        subst e1
        subst e2
        exact gx_end 12 [.inl 0, .inl 0, .inl 0] [¬ (a1 < 0), ¬ ((σ 2 0) ≤ a1), ¬ ((8 : Int32) ≤ a1), (1 : Int32) &&& 1 = (1 : Int32)] rfl ⟨h1, h2, h3, rfl, trivial⟩
set_option maxHeartbeats 16000000 in
set_option maxRecDepth 20000 in
theorem ww_Fo_isPerson (D : Nat) (hD : 1 ≤ D) (a1 : Int32) (σ : gx_R) (rr : Int32) (σ' : gx_R) (hf : Fo_isPerson a1 σ = some (rr, σ')) : E0 D 1 [.ref 2, .int a1] σ (some (.int rr)) σ' := by
  cases D with
  | zero => omega
  | succ D => exact Or.inl ⟨Nat.le_of_ble_eq_true rfl, vv_Fo_isPerson_E D hD rr σ' a1 σ hf⟩
set_option maxHeartbeats 16000000 in
set_option maxRecDepth 20000 in
theorem vv_Fo_isWork_E (D : Nat) (hD : 1 ≤ D + 1) (rr : Int32) (σ' : gx_R) (a1 : Int32) (σ : gx_R) (hf : Fo_isWork a1 σ = some (rr, σ')) : gx_Ev lay0 (E0 D) tt_2 (some (.int rr)) σ' 0 [.ref 2, .int a1] [] σ := by
  unfold Fo_isWork at hf
  rcases z_if_inv hf with ⟨h1, hf⟩ | ⟨h1, hf⟩
  · obtain ⟨e1, e2⟩ := z_ret hf
    subst e1
    subst e2
    exact gx_end 4 [.inl 1] [a1 < 0, (0 : Int32) &&& 1 = (0 : Int32)] rfl ⟨h1, rfl, trivial⟩
  · rcases z_if_inv hf with ⟨h2, hf⟩ | ⟨h2, hf⟩
    · obtain ⟨e1, e2⟩ := z_ret hf
      subst e1
      subst e2
      exact gx_end 8 [.inl 0, .inl 1] [¬ (a1 < 0), (σ 2 1) ≤ a1, (0 : Int32) &&& 1 = (0 : Int32)] rfl ⟨h1, h2, rfl, trivial⟩
    · rcases z_if_inv hf with ⟨h3, hf⟩ | ⟨h3, hf⟩
      · obtain ⟨e1, e2⟩ := z_ret hf
        subst e1
        subst e2
        exact gx_end 11 [.inl 0, .inl 0, .inl 1] [¬ (a1 < 0), ¬ ((σ 2 1) ≤ a1), (6 : Int32) ≤ a1, (0 : Int32) &&& 1 = (0 : Int32)] rfl ⟨h1, h2, h3, rfl, trivial⟩
      · obtain ⟨e1, e2⟩ := z_ret hf
        subst e1
        subst e2
        exact gx_end 12 [.inl 0, .inl 0, .inl 0] [¬ (a1 < 0), ¬ ((σ 2 1) ≤ a1), ¬ ((6 : Int32) ≤ a1), (1 : Int32) &&& 1 = (1 : Int32)] rfl ⟨h1, h2, h3, rfl, trivial⟩
set_option maxHeartbeats 16000000 in
set_option maxRecDepth 20000 in
theorem ww_Fo_isWork (D : Nat) (hD : 1 ≤ D) (a1 : Int32) (σ : gx_R) (rr : Int32) (σ' : gx_R) (hf : Fo_isWork a1 σ = some (rr, σ')) : E0 D 2 [.ref 2, .int a1] σ (some (.int rr)) σ' := by
  cases D with
  | zero => omega
  | succ D => exact Or.inl ⟨Nat.le_of_ble_eq_true rfl, vv_Fo_isWork_E D hD rr σ' a1 σ hf⟩
set_option maxHeartbeats 16000000 in
set_option maxRecDepth 20000 in
theorem vv_Fo_areUnlike_E (D : Nat) (hD : 2 ≤ D + 1) (rr : Int32) (σ' : gx_R) (a1 : Int32) (a2 : Int32) (σ : gx_R) (hf : Fo_areUnlike a1 a2 σ = some (rr, σ')) : gx_Ev lay0 (E0 D) tt_3 (some (.int rr)) σ' 0 [.ref 2, .int a1, .int a2] [] σ := by
  unfold Fo_areUnlike at hf
  rcases z_if_inv hf with ⟨h1, hf⟩ | ⟨h1, hf⟩
  · obtain ⟨e1, e2⟩ := z_ret hf
    subst e1
    subst e2
    exact gx_end 5 [.inl 1] [a1 = a2, (0 : Int32) &&& 1 = (0 : Int32)] rfl ⟨h1, rfl, trivial⟩
  · obtain ⟨r2, σ3, h4, hf⟩ := z_bd_inv hf
    rcases z_if_inv hf with ⟨h5, hf⟩ | ⟨h5, hf⟩
    · obtain ⟨e1, e2⟩ := z_ret hf
      subst e1
      subst e2
      exact gx_end 9 [.inl 0, .inr (some (.int r2), σ3), .inl 1] [¬ (a1 = a2), E0 D 1 [.ref 2, .int a1] σ (some (.int r2)) σ3, r2 = 0, (0 : Int32) &&& 1 = (0 : Int32)] rfl ⟨h1, (ww_Fo_isPerson D (by omega) a1 σ r2 σ3 h4), h5, rfl, trivial⟩
    · obtain ⟨r6, σ7, h8, hf⟩ := z_bd_inv hf
      rcases z_if_inv hf with ⟨h9, hf⟩ | ⟨h9, hf⟩
      · obtain ⟨e1, e2⟩ := z_ret hf
        subst e1
        subst e2
        exact gx_end 13 [.inl 0, .inr (some (.int r2), σ3), .inl 0, .inr (some (.int r6), σ7), .inl 1] [¬ (a1 = a2), E0 D 1 [.ref 2, .int a1] σ (some (.int r2)) σ3, ¬ (r2 = 0), E0 D 1 [.ref 2, .int a2] σ3 (some (.int r6)) σ7, r6 = 0, (0 : Int32) &&& 1 = (0 : Int32)] rfl ⟨h1, (ww_Fo_isPerson D (by omega) a1 σ r2 σ3 h4), h5, (ww_Fo_isPerson D (by omega) a2 σ3 r6 σ7 h8), h9, rfl, trivial⟩
      · obtain ⟨e1, e2⟩ := z_ret hf
        subst e1
        subst e2
        exact gx_end 14 [.inl 0, .inr (some (.int r2), σ3), .inl 0, .inr (some (.int r6), σ7), .inl 0] [¬ (a1 = a2), E0 D 1 [.ref 2, .int a1] σ (some (.int r2)) σ3, ¬ (r2 = 0), E0 D 1 [.ref 2, .int a2] σ3 (some (.int r6)) σ7, ¬ (r6 = 0), (1 : Int32) &&& 1 = (1 : Int32)] rfl ⟨h1, (ww_Fo_isPerson D (by omega) a1 σ r2 σ3 h4), h5, (ww_Fo_isPerson D (by omega) a2 σ3 r6 σ7 h8), h9, rfl, trivial⟩
set_option maxHeartbeats 16000000 in
set_option maxRecDepth 20000 in
theorem ww_Fo_areUnlike (D : Nat) (hD : 2 ≤ D) (a1 : Int32) (a2 : Int32) (σ : gx_R) (rr : Int32) (σ' : gx_R) (hf : Fo_areUnlike a1 a2 σ = some (rr, σ')) : E0 D 3 [.ref 2, .int a1, .int a2] σ (some (.int rr)) σ' := by
  cases D with
  | zero => omega
  | succ D => exact Or.inl ⟨Nat.le_of_ble_eq_true rfl, vv_Fo_areUnlike_E D hD rr σ' a1 a2 σ hf⟩
set_option maxHeartbeats 16000000 in
set_option maxRecDepth 20000 in
theorem vv_Fo_everyone_E (D : Nat) (hD : 1 ≤ D + 1) (rr : Int32) (σ' : gx_R) (σ : gx_R) (hf : Fo_everyone  σ = some (rr, σ')) : gx_Ev lay0 (E0 D) tt_4 (some (.int rr)) σ' 0 [.ref 2] [] σ := by
  unfold Fo_everyone at hf
  obtain ⟨e1, e2⟩ := z_ret hf
  subst e1
  subst e2
  exact gx_end 7 [] [] rfl trivial
set_option maxHeartbeats 16000000 in
set_option maxRecDepth 20000 in
theorem ww_Fo_everyone (D : Nat) (hD : 1 ≤ D) (σ : gx_R) (rr : Int32) (σ' : gx_R) (hf : Fo_everyone  σ = some (rr, σ')) : E0 D 4 [.ref 2] σ (some (.int rr)) σ' := by
  cases D with
  | zero => omega
  | succ D => exact Or.inl ⟨Nat.le_of_ble_eq_true rfl, vv_Fo_everyone_E D hD rr σ' σ hf⟩
set_option maxHeartbeats 16000000 in
set_option maxRecDepth 20000 in
theorem vv_Fo_isGroup_E (D : Nat) (hD : 2 ≤ D + 1) (rr : Int32) (σ' : gx_R) (a1 : Int32) (a2 : Int32) (a3 : Int32) (σ : gx_R) (hf : Fo_isGroup a1 a2 a3 σ = some (rr, σ')) : gx_Ev lay0 (E0 D) tt_5 (some (.int rr)) σ' 0 [.ref 2, .int a1, .int a2, .int a3, .null] [] σ := by
  unfold Fo_isGroup at hf
  obtain ⟨r1, σ2, h3, hf⟩ := z_bd_inv hf
  obtain ⟨r4, σ5, h6, hf⟩ := z_bd_inv hf
  rcases z_if_inv hf with ⟨h7, hf⟩ | ⟨h7, hf⟩
  · rcases z_if_inv hf with ⟨h8, hf⟩ | ⟨h8, hf⟩
    · obtain ⟨e1, e2⟩ := z_ret hf
      subst e1
      subst e2
      exact gx_end 15 [.inr (some (.int r1), σ2), .inr (some (.int r4), σ5), .inl 0, .inl 1] [E0 D 0 [.int a1] σ (some (.int r1)) σ2, E0 D 4 [.ref 2] σ2 (some (.int r4)) σ5, ¬ ¬ ((a1 &&& (r4 ^^^ (-1 : Int32))) = 0), r1 < a2, (0 : Int32) &&& 1 = (0 : Int32)] rfl ⟨(ww_Jd_bitCount D (by omega) a1 σ r1 σ2 h3), (ww_Fo_everyone D (by omega) σ2 r4 σ5 h6), (fun q => q h7), h8, rfl, trivial⟩
    · rcases z_if_inv hf with ⟨h9, hf⟩ | ⟨h9, hf⟩
      · obtain ⟨e1, e2⟩ := z_ret hf
        subst e1
        subst e2
        exact gx_end 18 [.inr (some (.int r1), σ2), .inr (some (.int r4), σ5), .inl 0, .inl 0, .inl 1] [E0 D 0 [.int a1] σ (some (.int r1)) σ2, E0 D 4 [.ref 2] σ2 (some (.int r4)) σ5, ¬ ¬ ((a1 &&& (r4 ^^^ (-1 : Int32))) = 0), ¬ (r1 < a2), a3 < r1, (0 : Int32) &&& 1 = (0 : Int32)] rfl ⟨(ww_Jd_bitCount D (by omega) a1 σ r1 σ2 h3), (ww_Fo_everyone D (by omega) σ2 r4 σ5 h6), (fun q => q h7), h8, h9, rfl, trivial⟩
      · obtain ⟨e1, e2⟩ := z_ret hf
        subst e1
        subst e2
        exact gx_end 19 [.inr (some (.int r1), σ2), .inr (some (.int r4), σ5), .inl 0, .inl 0, .inl 0] [E0 D 0 [.int a1] σ (some (.int r1)) σ2, E0 D 4 [.ref 2] σ2 (some (.int r4)) σ5, ¬ ¬ ((a1 &&& (r4 ^^^ (-1 : Int32))) = 0), ¬ (r1 < a2), ¬ (a3 < r1), (1 : Int32) &&& 1 = (1 : Int32)] rfl ⟨(ww_Jd_bitCount D (by omega) a1 σ r1 σ2 h3), (ww_Fo_everyone D (by omega) σ2 r4 σ5 h6), (fun q => q h7), h8, h9, rfl, trivial⟩
  · obtain ⟨e1, e2⟩ := z_ret hf
    subst e1
    subst e2
    exact gx_end 12 [.inr (some (.int r1), σ2), .inr (some (.int r4), σ5), .inl 1] [E0 D 0 [.int a1] σ (some (.int r1)) σ2, E0 D 4 [.ref 2] σ2 (some (.int r4)) σ5, ¬ ((a1 &&& (r4 ^^^ (-1 : Int32))) = 0), (0 : Int32) &&& 1 = (0 : Int32)] rfl ⟨(ww_Jd_bitCount D (by omega) a1 σ r1 σ2 h3), (ww_Fo_everyone D (by omega) σ2 r4 σ5 h6), h7, rfl, trivial⟩
set_option maxHeartbeats 16000000 in
set_option maxRecDepth 20000 in
theorem ww_Fo_isGroup (D : Nat) (hD : 2 ≤ D) (a1 : Int32) (a2 : Int32) (a3 : Int32) (σ : gx_R) (rr : Int32) (σ' : gx_R) (hf : Fo_isGroup a1 a2 a3 σ = some (rr, σ')) : E0 D 5 [.ref 2, .int a1, .int a2, .int a3] σ (some (.int rr)) σ' := by
  cases D with
  | zero => omega
  | succ D => exact Or.inl ⟨Nat.le_of_ble_eq_true rfl, vv_Fo_isGroup_E D hD rr σ' a1 a2 a3 σ hf⟩
set_option maxHeartbeats 16000000 in
set_option maxRecDepth 20000 in
theorem vv_Fo_copy_E_2_2 (D : Nat) (hD : 1 ≤ D + 1) (rr : Unit) (σ' : gx_R) (σ : gx_R) (hf : Fo_copy 2 2 σ = some (rr, σ')) : gx_Ev lay0 (E0 D) tt_6 none σ' 0 [.ref 2, .ref 2] [] σ := by
  unfold Fo_copy at hf
  obtain ⟨e1, e2⟩ := z_ret hf
  subst e1
  subst e2
  exact gx_end 57 [] [¬ (0 : Int32) < 0 ∧ ¬ (0 : Int32) < 0 ∧ ¬ (8 : Int32) < 0 ∧ (0 : Int32).toNatClampNeg + (8 : Int32).toNatClampNeg ≤ 8 ∧ (0 : Int32).toNatClampNeg + (8 : Int32).toNatClampNeg ≤ 8, ¬ (0 : Int32) < 0 ∧ ¬ (0 : Int32) < 0 ∧ ¬ (8 : Int32) < 0 ∧ (0 : Int32).toNatClampNeg + (8 : Int32).toNatClampNeg ≤ 8 ∧ (0 : Int32).toNatClampNeg + (8 : Int32).toNatClampNeg ≤ 8, ¬ (0 : Int32) < 0 ∧ ¬ (0 : Int32) < 0 ∧ ¬ (8 : Int32) < 0 ∧ (0 : Int32).toNatClampNeg + (8 : Int32).toNatClampNeg ≤ 8 ∧ (0 : Int32).toNatClampNeg + (8 : Int32).toNatClampNeg ≤ 8, ¬ (0 : Int32) < 0 ∧ ¬ (0 : Int32) < 0 ∧ ¬ (8 : Int32) < 0 ∧ (0 : Int32).toNatClampNeg + (8 : Int32).toNatClampNeg ≤ 8 ∧ (0 : Int32).toNatClampNeg + (8 : Int32).toNatClampNeg ≤ 8, ¬ (0 : Int32) < 0 ∧ ¬ (0 : Int32) < 0 ∧ ¬ (6 : Int32) < 0 ∧ (0 : Int32).toNatClampNeg + (6 : Int32).toNatClampNeg ≤ 6 ∧ (0 : Int32).toNatClampNeg + (6 : Int32).toNatClampNeg ≤ 6, ¬ (0 : Int32) < 0 ∧ ¬ (0 : Int32) < 0 ∧ ¬ (6 : Int32) < 0 ∧ (0 : Int32).toNatClampNeg + (6 : Int32).toNatClampNeg ≤ 6 ∧ (0 : Int32).toNatClampNeg + (6 : Int32).toNatClampNeg ≤ 6] rfl ⟨(by decide +kernel), (by decide +kernel), (by decide +kernel), (by decide +kernel), (by decide +kernel), (by decide +kernel), trivial⟩
set_option maxHeartbeats 16000000 in
set_option maxRecDepth 20000 in
theorem ww_Fo_copy_2_2 (D : Nat) (hD : 1 ≤ D) (σ : gx_R) (rr : Unit) (σ' : gx_R) (hf : Fo_copy 2 2 σ = some (rr, σ')) : E0 D 6 [.ref 2, .ref 2] σ none σ' := by
  cases D with
  | zero => omega
  | succ D => exact Or.inl ⟨Nat.le_of_ble_eq_true rfl, vv_Fo_copy_E_2_2 D hD rr σ' σ hf⟩
set_option maxHeartbeats 16000000 in
set_option maxRecDepth 20000 in
theorem vv_Fo_copy_E_2_20 (D : Nat) (hD : 1 ≤ D + 1) (rr : Unit) (σ' : gx_R) (σ : gx_R) (hf : Fo_copy 2 20 σ = some (rr, σ')) : gx_Ev lay0 (E0 D) tt_6 none σ' 0 [.ref 2, .ref 20] [] σ := by
  unfold Fo_copy at hf
  obtain ⟨e1, e2⟩ := z_ret hf
  subst e1
  subst e2
  exact gx_end 57 [] [¬ (0 : Int32) < 0 ∧ ¬ (0 : Int32) < 0 ∧ ¬ (8 : Int32) < 0 ∧ (0 : Int32).toNatClampNeg + (8 : Int32).toNatClampNeg ≤ 8 ∧ (0 : Int32).toNatClampNeg + (8 : Int32).toNatClampNeg ≤ 8, ¬ (0 : Int32) < 0 ∧ ¬ (0 : Int32) < 0 ∧ ¬ (8 : Int32) < 0 ∧ (0 : Int32).toNatClampNeg + (8 : Int32).toNatClampNeg ≤ 8 ∧ (0 : Int32).toNatClampNeg + (8 : Int32).toNatClampNeg ≤ 8, ¬ (0 : Int32) < 0 ∧ ¬ (0 : Int32) < 0 ∧ ¬ (8 : Int32) < 0 ∧ (0 : Int32).toNatClampNeg + (8 : Int32).toNatClampNeg ≤ 8 ∧ (0 : Int32).toNatClampNeg + (8 : Int32).toNatClampNeg ≤ 8, ¬ (0 : Int32) < 0 ∧ ¬ (0 : Int32) < 0 ∧ ¬ (8 : Int32) < 0 ∧ (0 : Int32).toNatClampNeg + (8 : Int32).toNatClampNeg ≤ 8 ∧ (0 : Int32).toNatClampNeg + (8 : Int32).toNatClampNeg ≤ 8, ¬ (0 : Int32) < 0 ∧ ¬ (0 : Int32) < 0 ∧ ¬ (6 : Int32) < 0 ∧ (0 : Int32).toNatClampNeg + (6 : Int32).toNatClampNeg ≤ 6 ∧ (0 : Int32).toNatClampNeg + (6 : Int32).toNatClampNeg ≤ 6, ¬ (0 : Int32) < 0 ∧ ¬ (0 : Int32) < 0 ∧ ¬ (6 : Int32) < 0 ∧ (0 : Int32).toNatClampNeg + (6 : Int32).toNatClampNeg ≤ 6 ∧ (0 : Int32).toNatClampNeg + (6 : Int32).toNatClampNeg ≤ 6] rfl ⟨(by decide +kernel), (by decide +kernel), (by decide +kernel), (by decide +kernel), (by decide +kernel), (by decide +kernel), trivial⟩
set_option maxHeartbeats 16000000 in
set_option maxRecDepth 20000 in
theorem ww_Fo_copy_2_20 (D : Nat) (hD : 1 ≤ D) (σ : gx_R) (rr : Unit) (σ' : gx_R) (hf : Fo_copy 2 20 σ = some (rr, σ')) : E0 D 6 [.ref 2, .ref 20] σ none σ' := by
  cases D with
  | zero => omega
  | succ D => exact Or.inl ⟨Nat.le_of_ble_eq_true rfl, vv_Fo_copy_E_2_20 D hD rr σ' σ hf⟩
set_option maxHeartbeats 16000000 in
set_option maxRecDepth 20000 in
theorem vv_Fo_copy_E_20_2 (D : Nat) (hD : 1 ≤ D + 1) (rr : Unit) (σ' : gx_R) (σ : gx_R) (hf : Fo_copy 20 2 σ = some (rr, σ')) : gx_Ev lay0 (E0 D) tt_6 none σ' 0 [.ref 20, .ref 2] [] σ := by
  unfold Fo_copy at hf
  obtain ⟨e1, e2⟩ := z_ret hf
  subst e1
  subst e2
  exact gx_end 57 [] [¬ (0 : Int32) < 0 ∧ ¬ (0 : Int32) < 0 ∧ ¬ (8 : Int32) < 0 ∧ (0 : Int32).toNatClampNeg + (8 : Int32).toNatClampNeg ≤ 8 ∧ (0 : Int32).toNatClampNeg + (8 : Int32).toNatClampNeg ≤ 8, ¬ (0 : Int32) < 0 ∧ ¬ (0 : Int32) < 0 ∧ ¬ (8 : Int32) < 0 ∧ (0 : Int32).toNatClampNeg + (8 : Int32).toNatClampNeg ≤ 8 ∧ (0 : Int32).toNatClampNeg + (8 : Int32).toNatClampNeg ≤ 8, ¬ (0 : Int32) < 0 ∧ ¬ (0 : Int32) < 0 ∧ ¬ (8 : Int32) < 0 ∧ (0 : Int32).toNatClampNeg + (8 : Int32).toNatClampNeg ≤ 8 ∧ (0 : Int32).toNatClampNeg + (8 : Int32).toNatClampNeg ≤ 8, ¬ (0 : Int32) < 0 ∧ ¬ (0 : Int32) < 0 ∧ ¬ (8 : Int32) < 0 ∧ (0 : Int32).toNatClampNeg + (8 : Int32).toNatClampNeg ≤ 8 ∧ (0 : Int32).toNatClampNeg + (8 : Int32).toNatClampNeg ≤ 8, ¬ (0 : Int32) < 0 ∧ ¬ (0 : Int32) < 0 ∧ ¬ (6 : Int32) < 0 ∧ (0 : Int32).toNatClampNeg + (6 : Int32).toNatClampNeg ≤ 6 ∧ (0 : Int32).toNatClampNeg + (6 : Int32).toNatClampNeg ≤ 6, ¬ (0 : Int32) < 0 ∧ ¬ (0 : Int32) < 0 ∧ ¬ (6 : Int32) < 0 ∧ (0 : Int32).toNatClampNeg + (6 : Int32).toNatClampNeg ≤ 6 ∧ (0 : Int32).toNatClampNeg + (6 : Int32).toNatClampNeg ≤ 6] rfl ⟨(by decide +kernel), (by decide +kernel), (by decide +kernel), (by decide +kernel), (by decide +kernel), (by decide +kernel), trivial⟩
set_option maxHeartbeats 16000000 in
set_option maxRecDepth 20000 in
theorem ww_Fo_copy_20_2 (D : Nat) (hD : 1 ≤ D) (σ : gx_R) (rr : Unit) (σ' : gx_R) (hf : Fo_copy 20 2 σ = some (rr, σ')) : E0 D 6 [.ref 20, .ref 2] σ none σ' := by
  cases D with
  | zero => omega
  | succ D => exact Or.inl ⟨Nat.le_of_ble_eq_true rfl, vv_Fo_copy_E_20_2 D hD rr σ' σ hf⟩
set_option maxHeartbeats 16000000 in
set_option maxRecDepth 20000 in
theorem vv_Fo_copy_E_20_20 (D : Nat) (hD : 1 ≤ D + 1) (rr : Unit) (σ' : gx_R) (σ : gx_R) (hf : Fo_copy 20 20 σ = some (rr, σ')) : gx_Ev lay0 (E0 D) tt_6 none σ' 0 [.ref 20, .ref 20] [] σ := by
  unfold Fo_copy at hf
  obtain ⟨e1, e2⟩ := z_ret hf
  subst e1
  subst e2
  exact gx_end 57 [] [¬ (0 : Int32) < 0 ∧ ¬ (0 : Int32) < 0 ∧ ¬ (8 : Int32) < 0 ∧ (0 : Int32).toNatClampNeg + (8 : Int32).toNatClampNeg ≤ 8 ∧ (0 : Int32).toNatClampNeg + (8 : Int32).toNatClampNeg ≤ 8, ¬ (0 : Int32) < 0 ∧ ¬ (0 : Int32) < 0 ∧ ¬ (8 : Int32) < 0 ∧ (0 : Int32).toNatClampNeg + (8 : Int32).toNatClampNeg ≤ 8 ∧ (0 : Int32).toNatClampNeg + (8 : Int32).toNatClampNeg ≤ 8, ¬ (0 : Int32) < 0 ∧ ¬ (0 : Int32) < 0 ∧ ¬ (8 : Int32) < 0 ∧ (0 : Int32).toNatClampNeg + (8 : Int32).toNatClampNeg ≤ 8 ∧ (0 : Int32).toNatClampNeg + (8 : Int32).toNatClampNeg ≤ 8, ¬ (0 : Int32) < 0 ∧ ¬ (0 : Int32) < 0 ∧ ¬ (8 : Int32) < 0 ∧ (0 : Int32).toNatClampNeg + (8 : Int32).toNatClampNeg ≤ 8 ∧ (0 : Int32).toNatClampNeg + (8 : Int32).toNatClampNeg ≤ 8, ¬ (0 : Int32) < 0 ∧ ¬ (0 : Int32) < 0 ∧ ¬ (6 : Int32) < 0 ∧ (0 : Int32).toNatClampNeg + (6 : Int32).toNatClampNeg ≤ 6 ∧ (0 : Int32).toNatClampNeg + (6 : Int32).toNatClampNeg ≤ 6, ¬ (0 : Int32) < 0 ∧ ¬ (0 : Int32) < 0 ∧ ¬ (6 : Int32) < 0 ∧ (0 : Int32).toNatClampNeg + (6 : Int32).toNatClampNeg ≤ 6 ∧ (0 : Int32).toNatClampNeg + (6 : Int32).toNatClampNeg ≤ 6] rfl ⟨(by decide +kernel), (by decide +kernel), (by decide +kernel), (by decide +kernel), (by decide +kernel), (by decide +kernel), trivial⟩
set_option maxHeartbeats 16000000 in
set_option maxRecDepth 20000 in
theorem ww_Fo_copy_20_20 (D : Nat) (hD : 1 ≤ D) (σ : gx_R) (rr : Unit) (σ' : gx_R) (hf : Fo_copy 20 20 σ = some (rr, σ')) : E0 D 6 [.ref 20, .ref 20] σ none σ' := by
  cases D with
  | zero => omega
  | succ D => exact Or.inl ⟨Nat.le_of_ble_eq_true rfl, vv_Fo_copy_E_20_20 D hD rr σ' σ hf⟩
set_option maxHeartbeats 16000000 in
set_option maxRecDepth 20000 in
theorem ww_Fo_copy (D : Nat) (hD : 1 ≤ D) (b0 : Nat) (b1 : Nat) (σ : gx_R) (rr : Unit) (σ' : gx_R) (hb0 : b0 = 2 ∨ b0 = 20) (hb1 : b1 = 2 ∨ b1 = 20) (hf : Fo_copy b0 b1 σ = some (rr, σ')) : E0 D 6 [.ref b0, .ref b1] σ none σ' := by
  rcases hb0 with rfl | rfl <;> rcases hb1 with rfl | rfl
  · exact ww_Fo_copy_2_2 D hD σ rr σ' hf
  · exact ww_Fo_copy_2_20 D hD σ rr σ' hf
  · exact ww_Fo_copy_20_2 D hD σ rr σ' hf
  · exact ww_Fo_copy_20_20 D hD σ rr σ' hf
set_option maxHeartbeats 16000000 in
set_option maxRecDepth 20000 in
theorem vv_Ni_those_19_9 (D : Nat) (hD : 1 ≤ D + 1) (rr : Int32) (σ' : gx_R) (K4 : Nat → Int32 → Int32 → Int32 → gx_R → Option (Int32 × gx_R)) (hK4 : ∀ (b0 : Nat) (a1 : Int32) (a2 : Int32) (a3 : Int32) (σ : gx_R), (b0 = 9 ∨ b0 = 56) → K4 b0 a1 a2 a3 σ = some (rr, σ') → gx_Ev lay0 (E0 D) tt_7 (some (.int rr)) σ' 4 [.ref b0, .int a1, .int a2, .int a3] [] σ) (a1 : Int32) (a2 : Int32) (a3 : Int32) (σ : gx_R) (hf : Ni_those_19 K4 9 a1 a2 a3 σ = some (rr, σ')) : gx_Ev lay0 (E0 D) tt_7 (some (.int rr)) σ' 19 [.ref 9, .int a1, .int a2, .int a3] [] σ := by
  unfold Ni_those_19 at hf
  exact gx_go_ 2 [] [] 4 [.ref 9, .int a1, .int a2, .int (a3 + 1)] [] σ rfl trivial (gx_fgt (ls' := [.ref 9, .int a1, .int a2, .int (a3 + 1)]) ⟨Or.inr rfl, Or.inr rfl, Or.inr rfl, Or.inr rfl, trivial⟩ (hK4 9 a1 a2 (a3 + 1) σ (Or.inl rfl) hf))
set_option maxHeartbeats 16000000 in
set_option maxRecDepth 20000 in
theorem vv_Ni_those_19_56 (D : Nat) (hD : 1 ≤ D + 1) (rr : Int32) (σ' : gx_R) (K4 : Nat → Int32 → Int32 → Int32 → gx_R → Option (Int32 × gx_R)) (hK4 : ∀ (b0 : Nat) (a1 : Int32) (a2 : Int32) (a3 : Int32) (σ : gx_R), (b0 = 9 ∨ b0 = 56) → K4 b0 a1 a2 a3 σ = some (rr, σ') → gx_Ev lay0 (E0 D) tt_7 (some (.int rr)) σ' 4 [.ref b0, .int a1, .int a2, .int a3] [] σ) (a1 : Int32) (a2 : Int32) (a3 : Int32) (σ : gx_R) (hf : Ni_those_19 K4 56 a1 a2 a3 σ = some (rr, σ')) : gx_Ev lay0 (E0 D) tt_7 (some (.int rr)) σ' 19 [.ref 56, .int a1, .int a2, .int a3] [] σ := by
  unfold Ni_those_19 at hf
  exact gx_go_ 2 [] [] 4 [.ref 56, .int a1, .int a2, .int (a3 + 1)] [] σ rfl trivial (gx_fgt (ls' := [.ref 56, .int a1, .int a2, .int (a3 + 1)]) ⟨Or.inr rfl, Or.inr rfl, Or.inr rfl, Or.inr rfl, trivial⟩ (hK4 56 a1 a2 (a3 + 1) σ (Or.inr rfl) hf))
set_option maxHeartbeats 16000000 in
set_option maxRecDepth 20000 in
theorem vv_Ni_those_19 (D : Nat) (hD : 1 ≤ D + 1) (rr : Int32) (σ' : gx_R) (K4 : Nat → Int32 → Int32 → Int32 → gx_R → Option (Int32 × gx_R)) (hK4 : ∀ (b0 : Nat) (a1 : Int32) (a2 : Int32) (a3 : Int32) (σ : gx_R), (b0 = 9 ∨ b0 = 56) → K4 b0 a1 a2 a3 σ = some (rr, σ') → gx_Ev lay0 (E0 D) tt_7 (some (.int rr)) σ' 4 [.ref b0, .int a1, .int a2, .int a3] [] σ) (b0 : Nat) (a1 : Int32) (a2 : Int32) (a3 : Int32) (σ : gx_R) (hb0 : b0 = 9 ∨ b0 = 56) (hf : Ni_those_19 K4 b0 a1 a2 a3 σ = some (rr, σ')) : gx_Ev lay0 (E0 D) tt_7 (some (.int rr)) σ' 19 [.ref b0, .int a1, .int a2, .int a3] [] σ := by
  rcases hb0 with rfl | rfl
  · exact vv_Ni_those_19_9 D hD rr σ'  K4 hK4 a1 a2 a3 σ hf
  · exact vv_Ni_those_19_56 D hD rr σ'  K4 hK4 a1 a2 a3 σ hf
set_option maxHeartbeats 16000000 in
set_option maxRecDepth 20000 in
theorem vv_Ni_those_4_B_9 (D : Nat) (hD : 1 ≤ D + 1) (rr : Int32) (σ' : gx_R) (K4 : Nat → Int32 → Int32 → Int32 → gx_R → Option (Int32 × gx_R)) (hK4 : ∀ (b0 : Nat) (a1 : Int32) (a2 : Int32) (a3 : Int32) (σ : gx_R), (b0 = 9 ∨ b0 = 56) → K4 b0 a1 a2 a3 σ = some (rr, σ') → gx_Ev lay0 (E0 D) tt_7 (some (.int rr)) σ' 4 [.ref b0, .int a1, .int a2, .int a3] [] σ) (a1 : Int32) (a2 : Int32) (a3 : Int32) (σ : gx_R) (hf : Ni_those_4_B K4 9 a1 a2 a3 σ = some (rr, σ')) : gx_Ev lay0 (E0 D) tt_7 (some (.int rr)) σ' 4 [.ref 9, .int a1, .int a2, .int a3] [] σ := by
  unfold Ni_those_4_B at hf
  rcases z_if_inv hf with ⟨h1, hf⟩ | ⟨h1, hf⟩
  · obtain ⟨e1, e2⟩ := z_ret hf
    subst e1
    subst e2
    exact gx_end 5 [.inl 1] [(8 : Int32) ≤ a3] rfl ⟨h1, trivial⟩
  · obtain ⟨h2, hf⟩ := z_ck_inv hf
    rcases z_if_inv hf with ⟨h3, hf⟩ | ⟨h3, hf⟩
    · exact gx_go_ 15 [.inl 0, .inl 0] [¬ ((8 : Int32) ≤ a3), vp_in a3 8, ¬ ¬ ((σ 10 a3.toNatClampNeg) = a1)] 19 [.ref 9, .int a1, .int (a2 ||| ((1 : Int32) <<< (a3 &&& 31))), .int a3] [] σ rfl ⟨h1, (z_ix_in h2), (fun q => q h3), trivial⟩ (gx_fgt (ls' := [.ref 9, .int a1, .int (a2 ||| ((1 : Int32) <<< (a3 &&& 31))), .int a3]) ⟨Or.inr rfl, Or.inr rfl, Or.inr rfl, Or.inr rfl, trivial⟩ (vv_Ni_those_19 D hD rr σ' K4 hK4 9 a1 (a2 ||| ((1 : Int32) <<< (a3 &&& 31))) a3 σ (Or.inl rfl) hf))
    · exact gx_go_ 9 [.inl 0, .inl 1] [¬ ((8 : Int32) ≤ a3), vp_in a3 8, ¬ ((σ 10 a3.toNatClampNeg) = a1)] 19 [.ref 9, .int a1, .int a2, .int a3] [] σ rfl ⟨h1, (z_ix_in h2), h3, trivial⟩ (gx_fgt (ls' := [.ref 9, .int a1, .int a2, .int a3]) ⟨Or.inr rfl, Or.inr rfl, Or.inr rfl, Or.inr rfl, trivial⟩ (vv_Ni_those_19 D hD rr σ' K4 hK4 9 a1 a2 a3 σ (Or.inl rfl) hf))
set_option maxHeartbeats 16000000 in
set_option maxRecDepth 20000 in
theorem vv_Ni_those_4_B_56 (D : Nat) (hD : 1 ≤ D + 1) (rr : Int32) (σ' : gx_R) (K4 : Nat → Int32 → Int32 → Int32 → gx_R → Option (Int32 × gx_R)) (hK4 : ∀ (b0 : Nat) (a1 : Int32) (a2 : Int32) (a3 : Int32) (σ : gx_R), (b0 = 9 ∨ b0 = 56) → K4 b0 a1 a2 a3 σ = some (rr, σ') → gx_Ev lay0 (E0 D) tt_7 (some (.int rr)) σ' 4 [.ref b0, .int a1, .int a2, .int a3] [] σ) (a1 : Int32) (a2 : Int32) (a3 : Int32) (σ : gx_R) (hf : Ni_those_4_B K4 56 a1 a2 a3 σ = some (rr, σ')) : gx_Ev lay0 (E0 D) tt_7 (some (.int rr)) σ' 4 [.ref 56, .int a1, .int a2, .int a3] [] σ := by
  unfold Ni_those_4_B at hf
  rcases z_if_inv hf with ⟨h1, hf⟩ | ⟨h1, hf⟩
  · obtain ⟨e1, e2⟩ := z_ret hf
    subst e1
    subst e2
    exact gx_end 5 [.inl 1] [(8 : Int32) ≤ a3] rfl ⟨h1, trivial⟩
  · obtain ⟨h2, hf⟩ := z_ck_inv hf
    rcases z_if_inv hf with ⟨h3, hf⟩ | ⟨h3, hf⟩
    · exact gx_go_ 15 [.inl 0, .inl 0] [¬ ((8 : Int32) ≤ a3), vp_in a3 8, ¬ ¬ ((σ 57 a3.toNatClampNeg) = a1)] 19 [.ref 56, .int a1, .int (a2 ||| ((1 : Int32) <<< (a3 &&& 31))), .int a3] [] σ rfl ⟨h1, (z_ix_in h2), (fun q => q h3), trivial⟩ (gx_fgt (ls' := [.ref 56, .int a1, .int (a2 ||| ((1 : Int32) <<< (a3 &&& 31))), .int a3]) ⟨Or.inr rfl, Or.inr rfl, Or.inr rfl, Or.inr rfl, trivial⟩ (vv_Ni_those_19 D hD rr σ' K4 hK4 56 a1 (a2 ||| ((1 : Int32) <<< (a3 &&& 31))) a3 σ (Or.inr rfl) hf))
    · exact gx_go_ 9 [.inl 0, .inl 1] [¬ ((8 : Int32) ≤ a3), vp_in a3 8, ¬ ((σ 57 a3.toNatClampNeg) = a1)] 19 [.ref 56, .int a1, .int a2, .int a3] [] σ rfl ⟨h1, (z_ix_in h2), h3, trivial⟩ (gx_fgt (ls' := [.ref 56, .int a1, .int a2, .int a3]) ⟨Or.inr rfl, Or.inr rfl, Or.inr rfl, Or.inr rfl, trivial⟩ (vv_Ni_those_19 D hD rr σ' K4 hK4 56 a1 a2 a3 σ (Or.inr rfl) hf))
set_option maxHeartbeats 16000000 in
set_option maxRecDepth 20000 in
theorem vv_Ni_those_4_B (D : Nat) (hD : 1 ≤ D + 1) (rr : Int32) (σ' : gx_R) (K4 : Nat → Int32 → Int32 → Int32 → gx_R → Option (Int32 × gx_R)) (hK4 : ∀ (b0 : Nat) (a1 : Int32) (a2 : Int32) (a3 : Int32) (σ : gx_R), (b0 = 9 ∨ b0 = 56) → K4 b0 a1 a2 a3 σ = some (rr, σ') → gx_Ev lay0 (E0 D) tt_7 (some (.int rr)) σ' 4 [.ref b0, .int a1, .int a2, .int a3] [] σ) (b0 : Nat) (a1 : Int32) (a2 : Int32) (a3 : Int32) (σ : gx_R) (hb0 : b0 = 9 ∨ b0 = 56) (hf : Ni_those_4_B K4 b0 a1 a2 a3 σ = some (rr, σ')) : gx_Ev lay0 (E0 D) tt_7 (some (.int rr)) σ' 4 [.ref b0, .int a1, .int a2, .int a3] [] σ := by
  rcases hb0 with rfl | rfl
  · exact vv_Ni_those_4_B_9 D hD rr σ'  K4 hK4 a1 a2 a3 σ hf
  · exact vv_Ni_those_4_B_56 D hD rr σ'  K4 hK4 a1 a2 a3 σ hf
set_option maxHeartbeats 16000000 in
set_option maxRecDepth 20000 in
theorem vv_Ni_those_4 (D : Nat) (hD : 1 ≤ D + 1) (rr : Int32) (σ' : gx_R) : ∀ (n : Nat) (b0 : Nat) (a1 : Int32) (a2 : Int32) (a3 : Int32) (σ : gx_R), (b0 = 9 ∨ b0 = 56) → Ni_those_4 n b0 a1 a2 a3 σ = some (rr, σ') → gx_Ev lay0 (E0 D) tt_7 (some (.int rr)) σ' 4 [.ref b0, .int a1, .int a2, .int a3] [] σ := by
  intro n
  induction n with
  | zero => intro b0 a1 a2 a3 σ hb0 hf; cases hf
  | succ n ih => intro b0 a1 a2 a3 σ hb0 hf; exact vv_Ni_those_4_B D hD rr σ'  (Ni_those_4 n) ih b0 a1 a2 a3 σ hb0 hf
set_option maxHeartbeats 16000000 in
set_option maxRecDepth 20000 in
theorem vv_Ni_those_E_9 (D : Nat) (hD : 1 ≤ D + 1) (rr : Int32) (σ' : gx_R) (a1 : Int32) (σ : gx_R) (hf : Ni_those 9 a1 σ = some (rr, σ')) : gx_Ev lay0 (E0 D) tt_7 (some (.int rr)) σ' 0 [.ref 9, .int a1, .null, .null] [] σ := by
  unfold Ni_those at hf
  exact gx_go_ 4 [] [] 4 [.ref 9, .int a1, .int (0 : Int32), .int (0 : Int32)] [] σ rfl trivial (gx_fgt (ls' := [.ref 9, .int a1, .int (0 : Int32), .int (0 : Int32)]) ⟨Or.inr rfl, Or.inr rfl, Or.inr rfl, Or.inr rfl, trivial⟩ (vv_Ni_those_4 D hD rr σ' z_FU 9 a1 (0 : Int32) (0 : Int32) σ (Or.inl rfl) hf))
set_option maxHeartbeats 16000000 in
set_option maxRecDepth 20000 in
theorem ww_Ni_those_9 (D : Nat) (hD : 1 ≤ D) (a1 : Int32) (σ : gx_R) (rr : Int32) (σ' : gx_R) (hf : Ni_those 9 a1 σ = some (rr, σ')) : E0 D 7 [.ref 9, .int a1] σ (some (.int rr)) σ' := by
  cases D with
  | zero => omega
  | succ D => exact Or.inl ⟨Nat.le_of_ble_eq_true rfl, vv_Ni_those_E_9 D hD rr σ' a1 σ hf⟩
set_option maxHeartbeats 16000000 in
set_option maxRecDepth 20000 in
theorem vv_Ni_those_E_56 (D : Nat) (hD : 1 ≤ D + 1) (rr : Int32) (σ' : gx_R) (a1 : Int32) (σ : gx_R) (hf : Ni_those 56 a1 σ = some (rr, σ')) : gx_Ev lay0 (E0 D) tt_7 (some (.int rr)) σ' 0 [.ref 56, .int a1, .null, .null] [] σ := by
  unfold Ni_those at hf
  exact gx_go_ 4 [] [] 4 [.ref 56, .int a1, .int (0 : Int32), .int (0 : Int32)] [] σ rfl trivial (gx_fgt (ls' := [.ref 56, .int a1, .int (0 : Int32), .int (0 : Int32)]) ⟨Or.inr rfl, Or.inr rfl, Or.inr rfl, Or.inr rfl, trivial⟩ (vv_Ni_those_4 D hD rr σ' z_FU 56 a1 (0 : Int32) (0 : Int32) σ (Or.inr rfl) hf))
set_option maxHeartbeats 16000000 in
set_option maxRecDepth 20000 in
theorem ww_Ni_those_56 (D : Nat) (hD : 1 ≤ D) (a1 : Int32) (σ : gx_R) (rr : Int32) (σ' : gx_R) (hf : Ni_those 56 a1 σ = some (rr, σ')) : E0 D 7 [.ref 56, .int a1] σ (some (.int rr)) σ' := by
  cases D with
  | zero => omega
  | succ D => exact Or.inl ⟨Nat.le_of_ble_eq_true rfl, vv_Ni_those_E_56 D hD rr σ' a1 σ hf⟩
set_option maxHeartbeats 16000000 in
set_option maxRecDepth 20000 in
theorem ww_Ni_those (D : Nat) (hD : 1 ≤ D) (b0 : Nat) (a1 : Int32) (σ : gx_R) (rr : Int32) (σ' : gx_R) (hb0 : b0 = 9 ∨ b0 = 56) (hf : Ni_those b0 a1 σ = some (rr, σ')) : E0 D 7 [.ref b0, .int a1] σ (some (.int rr)) σ' := by
  rcases hb0 with rfl | rfl
  · exact ww_Ni_those_9 D hD a1 σ rr σ' hf
  · exact ww_Ni_those_56 D hD a1 σ rr σ' hf
set_option maxHeartbeats 16000000 in
set_option maxRecDepth 20000 in
theorem vv_Ni_sleepsFor_E_9 (D : Nat) (hD : 1 ≤ D + 1) (rr : Int32) (σ' : gx_R) (a1 : Int32) (a2 : Int32) (σ : gx_R) (hf : Ni_sleepsFor 9 a1 a2 σ = some (rr, σ')) : gx_Ev lay0 (E0 D) tt_8 (some (.int rr)) σ' 0 [.ref 9, .int a1, .int a2] [] σ := by
  unfold Ni_sleepsFor at hf
  obtain ⟨h1, hf⟩ := z_ck_inv hf
  rcases z_if_inv hf with ⟨h2, hf⟩ | ⟨h2, hf⟩
  · obtain ⟨h3, hf⟩ := z_ck_inv hf
    rcases z_if_inv hf with ⟨h4, hf⟩ | ⟨h4, hf⟩
    · obtain ⟨e1, e2⟩ := z_ret hf
      subst e1
      subst e2
      exact gx_end 15 [.inl 0, .inl 0] [vp_in a1 8, ¬ ¬ ((σ 10 a1.toNatClampNeg) = (2 : Int32)), vp_in a1 8, ¬ ¬ ((σ 11 a1.toNatClampNeg) = a2), (1 : Int32) &&& 1 = (1 : Int32)] rfl ⟨(z_ix_in h1), (fun q => q h2), (z_ix_in h3), (fun q => q h4), rfl, trivial⟩
    · obtain ⟨e1, e2⟩ := z_ret hf
      subst e1
      subst e2
      exact gx_end 14 [.inl 0, .inl 1] [vp_in a1 8, ¬ ¬ ((σ 10 a1.toNatClampNeg) = (2 : Int32)), vp_in a1 8, ¬ ((σ 11 a1.toNatClampNeg) = a2), (0 : Int32) &&& 1 = (0 : Int32)] rfl ⟨(z_ix_in h1), (fun q => q h2), (z_ix_in h3), h4, rfl, trivial⟩
  · obtain ⟨e1, e2⟩ := z_ret hf
    subst e1
    subst e2
    exact gx_end 8 [.inl 1] [vp_in a1 8, ¬ ((σ 10 a1.toNatClampNeg) = (2 : Int32)), (0 : Int32) &&& 1 = (0 : Int32)] rfl ⟨(z_ix_in h1), h2, rfl, trivial⟩
set_option maxHeartbeats 16000000 in
set_option maxRecDepth 20000 in
theorem ww_Ni_sleepsFor_9 (D : Nat) (hD : 1 ≤ D) (a1 : Int32) (a2 : Int32) (σ : gx_R) (rr : Int32) (σ' : gx_R) (hf : Ni_sleepsFor 9 a1 a2 σ = some (rr, σ')) : E0 D 8 [.ref 9, .int a1, .int a2] σ (some (.int rr)) σ' := by
  cases D with
  | zero => omega
  | succ D => exact Or.inl ⟨Nat.le_of_ble_eq_true rfl, vv_Ni_sleepsFor_E_9 D hD rr σ' a1 a2 σ hf⟩
set_option maxHeartbeats 16000000 in
set_option maxRecDepth 20000 in
theorem vv_Ni_sleepsFor_E_56 (D : Nat) (hD : 1 ≤ D + 1) (rr : Int32) (σ' : gx_R) (a1 : Int32) (a2 : Int32) (σ : gx_R) (hf : Ni_sleepsFor 56 a1 a2 σ = some (rr, σ')) : gx_Ev lay0 (E0 D) tt_8 (some (.int rr)) σ' 0 [.ref 56, .int a1, .int a2] [] σ := by
  unfold Ni_sleepsFor at hf
  obtain ⟨h1, hf⟩ := z_ck_inv hf
  rcases z_if_inv hf with ⟨h2, hf⟩ | ⟨h2, hf⟩
  · obtain ⟨h3, hf⟩ := z_ck_inv hf
    rcases z_if_inv hf with ⟨h4, hf⟩ | ⟨h4, hf⟩
    · obtain ⟨e1, e2⟩ := z_ret hf
      subst e1
      subst e2
      exact gx_end 15 [.inl 0, .inl 0] [vp_in a1 8, ¬ ¬ ((σ 57 a1.toNatClampNeg) = (2 : Int32)), vp_in a1 8, ¬ ¬ ((σ 58 a1.toNatClampNeg) = a2), (1 : Int32) &&& 1 = (1 : Int32)] rfl ⟨(z_ix_in h1), (fun q => q h2), (z_ix_in h3), (fun q => q h4), rfl, trivial⟩
    · obtain ⟨e1, e2⟩ := z_ret hf
      subst e1
      subst e2
      exact gx_end 14 [.inl 0, .inl 1] [vp_in a1 8, ¬ ¬ ((σ 57 a1.toNatClampNeg) = (2 : Int32)), vp_in a1 8, ¬ ((σ 58 a1.toNatClampNeg) = a2), (0 : Int32) &&& 1 = (0 : Int32)] rfl ⟨(z_ix_in h1), (fun q => q h2), (z_ix_in h3), h4, rfl, trivial⟩
  · obtain ⟨e1, e2⟩ := z_ret hf
    subst e1
    subst e2
    exact gx_end 8 [.inl 1] [vp_in a1 8, ¬ ((σ 57 a1.toNatClampNeg) = (2 : Int32)), (0 : Int32) &&& 1 = (0 : Int32)] rfl ⟨(z_ix_in h1), h2, rfl, trivial⟩
set_option maxHeartbeats 16000000 in
set_option maxRecDepth 20000 in
theorem ww_Ni_sleepsFor_56 (D : Nat) (hD : 1 ≤ D) (a1 : Int32) (a2 : Int32) (σ : gx_R) (rr : Int32) (σ' : gx_R) (hf : Ni_sleepsFor 56 a1 a2 σ = some (rr, σ')) : E0 D 8 [.ref 56, .int a1, .int a2] σ (some (.int rr)) σ' := by
  cases D with
  | zero => omega
  | succ D => exact Or.inl ⟨Nat.le_of_ble_eq_true rfl, vv_Ni_sleepsFor_E_56 D hD rr σ' a1 a2 σ hf⟩
set_option maxHeartbeats 16000000 in
set_option maxRecDepth 20000 in
theorem ww_Ni_sleepsFor (D : Nat) (hD : 1 ≤ D) (b0 : Nat) (a1 : Int32) (a2 : Int32) (σ : gx_R) (rr : Int32) (σ' : gx_R) (hb0 : b0 = 9 ∨ b0 = 56) (hf : Ni_sleepsFor b0 a1 a2 σ = some (rr, σ')) : E0 D 8 [.ref b0, .int a1, .int a2] σ (some (.int rr)) σ' := by
  rcases hb0 with rfl | rfl
  · exact ww_Ni_sleepsFor_9 D hD a1 a2 σ rr σ' hf
  · exact ww_Ni_sleepsFor_56 D hD a1 a2 σ rr σ' hf
set_option maxHeartbeats 16000000 in
set_option maxRecDepth 20000 in
theorem vv_Ni_begin_E_9 (D : Nat) (hD : 1 ≤ D + 1) (rr : Unit) (σ' : gx_R) (a1 : Int32) (a2 : Int32) (a3 : Int32) (σ : gx_R) (hf : Ni_begin 9 a1 a2 a3 σ = some (rr, σ')) : gx_Ev lay0 (E0 D) tt_9 none σ' 0 [.ref 9, .int a1, .int a2, .int a3] [] σ := by
  unfold Ni_begin at hf
  obtain ⟨h1, hf⟩ := z_ck_inv hf
  obtain ⟨h2, hf⟩ := z_ck_inv hf
  obtain ⟨h3, hf⟩ := z_ck_inv hf
  obtain ⟨e1, e2⟩ := z_ret hf
  subst e1
  subst e2
  exact gx_end 16 [] [vp_in a1 8, vp_in a1 8, vp_in a1 8] rfl ⟨(z_ix_in h1), (z_ix_in h2), (z_ix_in h3), trivial⟩
set_option maxHeartbeats 16000000 in
set_option maxRecDepth 20000 in
theorem ww_Ni_begin_9 (D : Nat) (hD : 1 ≤ D) (a1 : Int32) (a2 : Int32) (a3 : Int32) (σ : gx_R) (rr : Unit) (σ' : gx_R) (hf : Ni_begin 9 a1 a2 a3 σ = some (rr, σ')) : E0 D 9 [.ref 9, .int a1, .int a2, .int a3] σ none σ' := by
  cases D with
  | zero => omega
  | succ D => exact Or.inl ⟨Nat.le_of_ble_eq_true rfl, vv_Ni_begin_E_9 D hD rr σ' a1 a2 a3 σ hf⟩
set_option maxHeartbeats 16000000 in
set_option maxRecDepth 20000 in
theorem vv_Ni_begin_E_56 (D : Nat) (hD : 1 ≤ D + 1) (rr : Unit) (σ' : gx_R) (a1 : Int32) (a2 : Int32) (a3 : Int32) (σ : gx_R) (hf : Ni_begin 56 a1 a2 a3 σ = some (rr, σ')) : gx_Ev lay0 (E0 D) tt_9 none σ' 0 [.ref 56, .int a1, .int a2, .int a3] [] σ := by
  unfold Ni_begin at hf
  obtain ⟨h1, hf⟩ := z_ck_inv hf
  obtain ⟨h2, hf⟩ := z_ck_inv hf
  obtain ⟨h3, hf⟩ := z_ck_inv hf
  obtain ⟨e1, e2⟩ := z_ret hf
  subst e1
  subst e2
  exact gx_end 16 [] [vp_in a1 8, vp_in a1 8, vp_in a1 8] rfl ⟨(z_ix_in h1), (z_ix_in h2), (z_ix_in h3), trivial⟩
set_option maxHeartbeats 16000000 in
set_option maxRecDepth 20000 in
theorem ww_Ni_begin_56 (D : Nat) (hD : 1 ≤ D) (a1 : Int32) (a2 : Int32) (a3 : Int32) (σ : gx_R) (rr : Unit) (σ' : gx_R) (hf : Ni_begin 56 a1 a2 a3 σ = some (rr, σ')) : E0 D 9 [.ref 56, .int a1, .int a2, .int a3] σ none σ' := by
  cases D with
  | zero => omega
  | succ D => exact Or.inl ⟨Nat.le_of_ble_eq_true rfl, vv_Ni_begin_E_56 D hD rr σ' a1 a2 a3 σ hf⟩
set_option maxHeartbeats 16000000 in
set_option maxRecDepth 20000 in
theorem ww_Ni_begin (D : Nat) (hD : 1 ≤ D) (b0 : Nat) (a1 : Int32) (a2 : Int32) (a3 : Int32) (σ : gx_R) (rr : Unit) (σ' : gx_R) (hb0 : b0 = 9 ∨ b0 = 56) (hf : Ni_begin b0 a1 a2 a3 σ = some (rr, σ')) : E0 D 9 [.ref b0, .int a1, .int a2, .int a3] σ none σ' := by
  rcases hb0 with rfl | rfl
  · exact ww_Ni_begin_9 D hD a1 a2 a3 σ rr σ' hf
  · exact ww_Ni_begin_56 D hD a1 a2 a3 σ rr σ' hf
set_option maxHeartbeats 16000000 in
set_option maxRecDepth 20000 in
theorem vv_Ni_makeIdle_17_9 (D : Nat) (hD : 2 ≤ D + 1) (rr : Unit) (σ' : gx_R) (K2 : Nat → Int32 → Int32 → gx_R → Option (Unit × gx_R)) (hK2 : ∀ (b0 : Nat) (a1 : Int32) (a2 : Int32) (σ : gx_R), (b0 = 9 ∨ b0 = 56) → K2 b0 a1 a2 σ = some (rr, σ') → gx_Ev lay0 (E0 D) tt_10 none σ' 2 [.ref b0, .int a1, .int a2] [] σ) (a1 : Int32) (a2 : Int32) (σ : gx_R) (hf : Ni_makeIdle_17 K2 9 a1 a2 σ = some (rr, σ')) : gx_Ev lay0 (E0 D) tt_10 none σ' 17 [.ref 9, .int a1, .int a2] [] σ := by
  unfold Ni_makeIdle_17 at hf
  exact gx_go_ 2 [] [] 2 [.ref 9, .int a1, .int (a2 + 1)] [] σ rfl trivial (gx_fgt (ls' := [.ref 9, .int a1, .int (a2 + 1)]) ⟨Or.inr rfl, Or.inr rfl, Or.inr rfl, trivial⟩ (hK2 9 a1 (a2 + 1) σ (Or.inl rfl) hf))
set_option maxHeartbeats 16000000 in
set_option maxRecDepth 20000 in
theorem vv_Ni_makeIdle_17_56 (D : Nat) (hD : 2 ≤ D + 1) (rr : Unit) (σ' : gx_R) (K2 : Nat → Int32 → Int32 → gx_R → Option (Unit × gx_R)) (hK2 : ∀ (b0 : Nat) (a1 : Int32) (a2 : Int32) (σ : gx_R), (b0 = 9 ∨ b0 = 56) → K2 b0 a1 a2 σ = some (rr, σ') → gx_Ev lay0 (E0 D) tt_10 none σ' 2 [.ref b0, .int a1, .int a2] [] σ) (a1 : Int32) (a2 : Int32) (σ : gx_R) (hf : Ni_makeIdle_17 K2 56 a1 a2 σ = some (rr, σ')) : gx_Ev lay0 (E0 D) tt_10 none σ' 17 [.ref 56, .int a1, .int a2] [] σ := by
  unfold Ni_makeIdle_17 at hf
  exact gx_go_ 2 [] [] 2 [.ref 56, .int a1, .int (a2 + 1)] [] σ rfl trivial (gx_fgt (ls' := [.ref 56, .int a1, .int (a2 + 1)]) ⟨Or.inr rfl, Or.inr rfl, Or.inr rfl, trivial⟩ (hK2 56 a1 (a2 + 1) σ (Or.inr rfl) hf))
set_option maxHeartbeats 16000000 in
set_option maxRecDepth 20000 in
theorem vv_Ni_makeIdle_17 (D : Nat) (hD : 2 ≤ D + 1) (rr : Unit) (σ' : gx_R) (K2 : Nat → Int32 → Int32 → gx_R → Option (Unit × gx_R)) (hK2 : ∀ (b0 : Nat) (a1 : Int32) (a2 : Int32) (σ : gx_R), (b0 = 9 ∨ b0 = 56) → K2 b0 a1 a2 σ = some (rr, σ') → gx_Ev lay0 (E0 D) tt_10 none σ' 2 [.ref b0, .int a1, .int a2] [] σ) (b0 : Nat) (a1 : Int32) (a2 : Int32) (σ : gx_R) (hb0 : b0 = 9 ∨ b0 = 56) (hf : Ni_makeIdle_17 K2 b0 a1 a2 σ = some (rr, σ')) : gx_Ev lay0 (E0 D) tt_10 none σ' 17 [.ref b0, .int a1, .int a2] [] σ := by
  rcases hb0 with rfl | rfl
  · exact vv_Ni_makeIdle_17_9 D hD rr σ'  K2 hK2 a1 a2 σ hf
  · exact vv_Ni_makeIdle_17_56 D hD rr σ'  K2 hK2 a1 a2 σ hf
set_option maxHeartbeats 16000000 in
set_option maxRecDepth 20000 in
theorem vv_Ni_makeIdle_2_B_9 (D : Nat) (hD : 2 ≤ D + 1) (rr : Unit) (σ' : gx_R) (K2 : Nat → Int32 → Int32 → gx_R → Option (Unit × gx_R)) (hK2 : ∀ (b0 : Nat) (a1 : Int32) (a2 : Int32) (σ : gx_R), (b0 = 9 ∨ b0 = 56) → K2 b0 a1 a2 σ = some (rr, σ') → gx_Ev lay0 (E0 D) tt_10 none σ' 2 [.ref b0, .int a1, .int a2] [] σ) (a1 : Int32) (a2 : Int32) (σ : gx_R) (hf : Ni_makeIdle_2_B K2 9 a1 a2 σ = some (rr, σ')) : gx_Ev lay0 (E0 D) tt_10 none σ' 2 [.ref 9, .int a1, .int a2] [] σ := by
  unfold Ni_makeIdle_2_B at hf
  rcases z_if_inv hf with ⟨h1, hf⟩ | ⟨h1, hf⟩
  · obtain ⟨e1, e2⟩ := z_ret hf
    subst e1
    subst e2
    exact gx_end 4 [.inl 1] [(8 : Int32) ≤ a2] rfl ⟨h1, trivial⟩
  · rcases z_if_inv hf with ⟨h2, hf⟩ | ⟨h2, hf⟩
    · obtain ⟨⟨⟩, σ4, h5, hf⟩ := z_bd_inv hf
      exact gx_go_ 15 [.inl 0, .inl 0, .inr (none, σ4)] [¬ ((8 : Int32) ≤ a2), ¬ ¬ (((a1 >>> (a2 &&& 31)) &&& (1 : Int32)) = (1 : Int32)), E0 D 9 [.ref 9, .int a2, .int (0 : Int32), .int (-1 : Int32)] σ (none) σ4] 17 [.ref 9, .int a1, .int a2] [] σ4 rfl ⟨h1, (fun q => q h2), (ww_Ni_begin D (by omega) 9 a2 (0 : Int32) (-1 : Int32) σ () σ4 (Or.inl rfl) h5), trivial⟩ (gx_fgt (ls' := [.ref 9, .int a1, .int a2]) ⟨Or.inr rfl, Or.inr rfl, Or.inr rfl, trivial⟩ (vv_Ni_makeIdle_17 D hD rr σ' K2 hK2 9 a1 a2 σ4 (Or.inl rfl) hf))
    · exact gx_go_ 10 [.inl 0, .inl 1] [¬ ((8 : Int32) ≤ a2), ¬ (((a1 >>> (a2 &&& 31)) &&& (1 : Int32)) = (1 : Int32))] 17 [.ref 9, .int a1, .int a2] [] σ rfl ⟨h1, h2, trivial⟩ (gx_fgt (ls' := [.ref 9, .int a1, .int a2]) ⟨Or.inr rfl, Or.inr rfl, Or.inr rfl, trivial⟩ (vv_Ni_makeIdle_17 D hD rr σ' K2 hK2 9 a1 a2 σ (Or.inl rfl) hf))
set_option maxHeartbeats 16000000 in
set_option maxRecDepth 20000 in
theorem vv_Ni_makeIdle_2_B_56 (D : Nat) (hD : 2 ≤ D + 1) (rr : Unit) (σ' : gx_R) (K2 : Nat → Int32 → Int32 → gx_R → Option (Unit × gx_R)) (hK2 : ∀ (b0 : Nat) (a1 : Int32) (a2 : Int32) (σ : gx_R), (b0 = 9 ∨ b0 = 56) → K2 b0 a1 a2 σ = some (rr, σ') → gx_Ev lay0 (E0 D) tt_10 none σ' 2 [.ref b0, .int a1, .int a2] [] σ) (a1 : Int32) (a2 : Int32) (σ : gx_R) (hf : Ni_makeIdle_2_B K2 56 a1 a2 σ = some (rr, σ')) : gx_Ev lay0 (E0 D) tt_10 none σ' 2 [.ref 56, .int a1, .int a2] [] σ := by
  unfold Ni_makeIdle_2_B at hf
  rcases z_if_inv hf with ⟨h1, hf⟩ | ⟨h1, hf⟩
  · obtain ⟨e1, e2⟩ := z_ret hf
    subst e1
    subst e2
    exact gx_end 4 [.inl 1] [(8 : Int32) ≤ a2] rfl ⟨h1, trivial⟩
  · rcases z_if_inv hf with ⟨h2, hf⟩ | ⟨h2, hf⟩
    · obtain ⟨⟨⟩, σ4, h5, hf⟩ := z_bd_inv hf
      exact gx_go_ 15 [.inl 0, .inl 0, .inr (none, σ4)] [¬ ((8 : Int32) ≤ a2), ¬ ¬ (((a1 >>> (a2 &&& 31)) &&& (1 : Int32)) = (1 : Int32)), E0 D 9 [.ref 56, .int a2, .int (0 : Int32), .int (-1 : Int32)] σ (none) σ4] 17 [.ref 56, .int a1, .int a2] [] σ4 rfl ⟨h1, (fun q => q h2), (ww_Ni_begin D (by omega) 56 a2 (0 : Int32) (-1 : Int32) σ () σ4 (Or.inr rfl) h5), trivial⟩ (gx_fgt (ls' := [.ref 56, .int a1, .int a2]) ⟨Or.inr rfl, Or.inr rfl, Or.inr rfl, trivial⟩ (vv_Ni_makeIdle_17 D hD rr σ' K2 hK2 56 a1 a2 σ4 (Or.inr rfl) hf))
    · exact gx_go_ 10 [.inl 0, .inl 1] [¬ ((8 : Int32) ≤ a2), ¬ (((a1 >>> (a2 &&& 31)) &&& (1 : Int32)) = (1 : Int32))] 17 [.ref 56, .int a1, .int a2] [] σ rfl ⟨h1, h2, trivial⟩ (gx_fgt (ls' := [.ref 56, .int a1, .int a2]) ⟨Or.inr rfl, Or.inr rfl, Or.inr rfl, trivial⟩ (vv_Ni_makeIdle_17 D hD rr σ' K2 hK2 56 a1 a2 σ (Or.inr rfl) hf))
set_option maxHeartbeats 16000000 in
set_option maxRecDepth 20000 in
theorem vv_Ni_makeIdle_2_B (D : Nat) (hD : 2 ≤ D + 1) (rr : Unit) (σ' : gx_R) (K2 : Nat → Int32 → Int32 → gx_R → Option (Unit × gx_R)) (hK2 : ∀ (b0 : Nat) (a1 : Int32) (a2 : Int32) (σ : gx_R), (b0 = 9 ∨ b0 = 56) → K2 b0 a1 a2 σ = some (rr, σ') → gx_Ev lay0 (E0 D) tt_10 none σ' 2 [.ref b0, .int a1, .int a2] [] σ) (b0 : Nat) (a1 : Int32) (a2 : Int32) (σ : gx_R) (hb0 : b0 = 9 ∨ b0 = 56) (hf : Ni_makeIdle_2_B K2 b0 a1 a2 σ = some (rr, σ')) : gx_Ev lay0 (E0 D) tt_10 none σ' 2 [.ref b0, .int a1, .int a2] [] σ := by
  rcases hb0 with rfl | rfl
  · exact vv_Ni_makeIdle_2_B_9 D hD rr σ'  K2 hK2 a1 a2 σ hf
  · exact vv_Ni_makeIdle_2_B_56 D hD rr σ'  K2 hK2 a1 a2 σ hf
set_option maxHeartbeats 16000000 in
set_option maxRecDepth 20000 in
theorem vv_Ni_makeIdle_2 (D : Nat) (hD : 2 ≤ D + 1) (rr : Unit) (σ' : gx_R) : ∀ (n : Nat) (b0 : Nat) (a1 : Int32) (a2 : Int32) (σ : gx_R), (b0 = 9 ∨ b0 = 56) → Ni_makeIdle_2 n b0 a1 a2 σ = some (rr, σ') → gx_Ev lay0 (E0 D) tt_10 none σ' 2 [.ref b0, .int a1, .int a2] [] σ := by
  intro n
  induction n with
  | zero => intro b0 a1 a2 σ hb0 hf; cases hf
  | succ n ih => intro b0 a1 a2 σ hb0 hf; exact vv_Ni_makeIdle_2_B D hD rr σ'  (Ni_makeIdle_2 n) ih b0 a1 a2 σ hb0 hf
set_option maxHeartbeats 16000000 in
set_option maxRecDepth 20000 in
theorem vv_Ni_makeIdle_E_9 (D : Nat) (hD : 2 ≤ D + 1) (rr : Unit) (σ' : gx_R) (a1 : Int32) (σ : gx_R) (hf : Ni_makeIdle 9 a1 σ = some (rr, σ')) : gx_Ev lay0 (E0 D) tt_10 none σ' 0 [.ref 9, .int a1, .null] [] σ := by
  unfold Ni_makeIdle at hf
  exact gx_go_ 2 [] [] 2 [.ref 9, .int a1, .int (0 : Int32)] [] σ rfl trivial (gx_fgt (ls' := [.ref 9, .int a1, .int (0 : Int32)]) ⟨Or.inr rfl, Or.inr rfl, Or.inr rfl, trivial⟩ (vv_Ni_makeIdle_2 D hD rr σ' z_FU 9 a1 (0 : Int32) σ (Or.inl rfl) hf))
set_option maxHeartbeats 16000000 in
set_option maxRecDepth 20000 in
theorem ww_Ni_makeIdle_9 (D : Nat) (hD : 2 ≤ D) (a1 : Int32) (σ : gx_R) (rr : Unit) (σ' : gx_R) (hf : Ni_makeIdle 9 a1 σ = some (rr, σ')) : E0 D 10 [.ref 9, .int a1] σ none σ' := by
  cases D with
  | zero => omega
  | succ D => exact Or.inl ⟨Nat.le_of_ble_eq_true rfl, vv_Ni_makeIdle_E_9 D hD rr σ' a1 σ hf⟩
set_option maxHeartbeats 16000000 in
set_option maxRecDepth 20000 in
theorem vv_Ni_makeIdle_E_56 (D : Nat) (hD : 2 ≤ D + 1) (rr : Unit) (σ' : gx_R) (a1 : Int32) (σ : gx_R) (hf : Ni_makeIdle 56 a1 σ = some (rr, σ')) : gx_Ev lay0 (E0 D) tt_10 none σ' 0 [.ref 56, .int a1, .null] [] σ := by
  unfold Ni_makeIdle at hf
  exact gx_go_ 2 [] [] 2 [.ref 56, .int a1, .int (0 : Int32)] [] σ rfl trivial (gx_fgt (ls' := [.ref 56, .int a1, .int (0 : Int32)]) ⟨Or.inr rfl, Or.inr rfl, Or.inr rfl, trivial⟩ (vv_Ni_makeIdle_2 D hD rr σ' z_FU 56 a1 (0 : Int32) σ (Or.inr rfl) hf))
set_option maxHeartbeats 16000000 in
set_option maxRecDepth 20000 in
theorem ww_Ni_makeIdle_56 (D : Nat) (hD : 2 ≤ D) (a1 : Int32) (σ : gx_R) (rr : Unit) (σ' : gx_R) (hf : Ni_makeIdle 56 a1 σ = some (rr, σ')) : E0 D 10 [.ref 56, .int a1] σ none σ' := by
  cases D with
  | zero => omega
  | succ D => exact Or.inl ⟨Nat.le_of_ble_eq_true rfl, vv_Ni_makeIdle_E_56 D hD rr σ' a1 σ hf⟩
set_option maxHeartbeats 16000000 in
set_option maxRecDepth 20000 in
theorem ww_Ni_makeIdle (D : Nat) (hD : 2 ≤ D) (b0 : Nat) (a1 : Int32) (σ : gx_R) (rr : Unit) (σ' : gx_R) (hb0 : b0 = 9 ∨ b0 = 56) (hf : Ni_makeIdle b0 a1 σ = some (rr, σ')) : E0 D 10 [.ref b0, .int a1] σ none σ' := by
  rcases hb0 with rfl | rfl
  · exact ww_Ni_makeIdle_9 D hD a1 σ rr σ' hf
  · exact ww_Ni_makeIdle_56 D hD a1 σ rr σ' hf
set_option maxHeartbeats 16000000 in
set_option maxRecDepth 20000 in
theorem vv_Ni_draw_8_9 (D : Nat) (hD : 1 ≤ D + 1) (rr : Int32) (σ' : gx_R) (s0 : Int32) (σ : gx_R) (hf : Ni_draw_8 9 s0 σ = some (rr, σ')) : gx_Ev lay0 (E0 D) tt_11 (some (.int rr)) σ' 8 [.ref 9, .null, .null] [.int s0] σ := by
  unfold Ni_draw_8 at hf
  obtain ⟨e1, e2⟩ := z_ret hf
  subst e1
  subst e2
  exact gx_end 13 [] [¬ (30211 : Int32) = 0] rfl ⟨(by decide), trivial⟩
set_option maxHeartbeats 16000000 in
set_option maxRecDepth 20000 in
theorem vv_Ni_draw_8_56 (D : Nat) (hD : 1 ≤ D + 1) (rr : Int32) (σ' : gx_R) (s0 : Int32) (σ : gx_R) (hf : Ni_draw_8 56 s0 σ = some (rr, σ')) : gx_Ev lay0 (E0 D) tt_11 (some (.int rr)) σ' 8 [.ref 56, .null, .null] [.int s0] σ := by
  unfold Ni_draw_8 at hf
  obtain ⟨e1, e2⟩ := z_ret hf
  subst e1
  subst e2
  exact gx_end 13 [] [¬ (30211 : Int32) = 0] rfl ⟨(by decide), trivial⟩
set_option maxHeartbeats 16000000 in
set_option maxRecDepth 20000 in
theorem vv_Ni_draw_8 (D : Nat) (hD : 1 ≤ D + 1) (rr : Int32) (σ' : gx_R) (b0 : Nat) (s0 : Int32) (σ : gx_R) (hb0 : b0 = 9 ∨ b0 = 56) (hf : Ni_draw_8 b0 s0 σ = some (rr, σ')) : gx_Ev lay0 (E0 D) tt_11 (some (.int rr)) σ' 8 [.ref b0, .null, .null] [.int s0] σ := by
  rcases hb0 with rfl | rfl
  · exact vv_Ni_draw_8_9 D hD rr σ'  s0 σ hf
  · exact vv_Ni_draw_8_56 D hD rr σ'  s0 σ hf
set_option maxHeartbeats 16000000 in
set_option maxRecDepth 20000 in
theorem vv_Ni_draw_E_9 (D : Nat) (hD : 1 ≤ D + 1) (rr : Int32) (σ' : gx_R) (a1 : Int32) (σ : gx_R) (hf : Ni_draw 9 a1 σ = some (rr, σ')) : gx_Ev lay0 (E0 D) tt_11 (some (.int rr)) σ' 0 [.ref 9, .int a1, .null] [] σ := by
  unfold Ni_draw at hf
  rcases z_if_inv hf with ⟨h1, hf⟩ | ⟨h1, hf⟩
  · exact gx_go_ 3 [.inl 1] [a1 ≤ 0] 8 [.ref 9, .int a1, .null] [.int (0 : Int32)] σ rfl ⟨h1, trivial⟩ (gx_fgt (ls' := [.ref 9, .null, .null]) ⟨Or.inr rfl, Or.inl rfl, Or.inl rfl, trivial⟩ (vv_Ni_draw_8 D hD rr σ' 9 (0 : Int32) σ (Or.inl rfl) hf))
  · obtain ⟨h2, hf⟩ := z_ck_inv hf
    exact gx_go_ 7 [.inl 0] [¬ (a1 ≤ 0), ¬ a1 = 0] 8 [.ref 9, .int a1, .null] [.int ((σ 9 7) - (σ 9 7) / a1 * a1)] σ rfl ⟨h1, (z_nzi_in h2), trivial⟩ (gx_fgt (ls' := [.ref 9, .null, .null]) ⟨Or.inr rfl, Or.inl rfl, Or.inl rfl, trivial⟩ (vv_Ni_draw_8 D hD rr σ' 9 ((σ 9 7) - (σ 9 7) / a1 * a1) σ (Or.inl rfl) hf))
set_option maxHeartbeats 16000000 in
set_option maxRecDepth 20000 in
theorem ww_Ni_draw_9 (D : Nat) (hD : 1 ≤ D) (a1 : Int32) (σ : gx_R) (rr : Int32) (σ' : gx_R) (hf : Ni_draw 9 a1 σ = some (rr, σ')) : E0 D 11 [.ref 9, .int a1] σ (some (.int rr)) σ' := by
  cases D with
  | zero => omega
  | succ D => exact Or.inl ⟨Nat.le_of_ble_eq_true rfl, vv_Ni_draw_E_9 D hD rr σ' a1 σ hf⟩
set_option maxHeartbeats 16000000 in
set_option maxRecDepth 20000 in
theorem vv_Ni_draw_E_56 (D : Nat) (hD : 1 ≤ D + 1) (rr : Int32) (σ' : gx_R) (a1 : Int32) (σ : gx_R) (hf : Ni_draw 56 a1 σ = some (rr, σ')) : gx_Ev lay0 (E0 D) tt_11 (some (.int rr)) σ' 0 [.ref 56, .int a1, .null] [] σ := by
  unfold Ni_draw at hf
  rcases z_if_inv hf with ⟨h1, hf⟩ | ⟨h1, hf⟩
  · exact gx_go_ 3 [.inl 1] [a1 ≤ 0] 8 [.ref 56, .int a1, .null] [.int (0 : Int32)] σ rfl ⟨h1, trivial⟩ (gx_fgt (ls' := [.ref 56, .null, .null]) ⟨Or.inr rfl, Or.inl rfl, Or.inl rfl, trivial⟩ (vv_Ni_draw_8 D hD rr σ' 56 (0 : Int32) σ (Or.inr rfl) hf))
  · obtain ⟨h2, hf⟩ := z_ck_inv hf
    exact gx_go_ 7 [.inl 0] [¬ (a1 ≤ 0), ¬ a1 = 0] 8 [.ref 56, .int a1, .null] [.int ((σ 56 7) - (σ 56 7) / a1 * a1)] σ rfl ⟨h1, (z_nzi_in h2), trivial⟩ (gx_fgt (ls' := [.ref 56, .null, .null]) ⟨Or.inr rfl, Or.inl rfl, Or.inl rfl, trivial⟩ (vv_Ni_draw_8 D hD rr σ' 56 ((σ 56 7) - (σ 56 7) / a1 * a1) σ (Or.inr rfl) hf))
set_option maxHeartbeats 16000000 in
set_option maxRecDepth 20000 in
theorem ww_Ni_draw_56 (D : Nat) (hD : 1 ≤ D) (a1 : Int32) (σ : gx_R) (rr : Int32) (σ' : gx_R) (hf : Ni_draw 56 a1 σ = some (rr, σ')) : E0 D 11 [.ref 56, .int a1] σ (some (.int rr)) σ' := by
  cases D with
  | zero => omega
  | succ D => exact Or.inl ⟨Nat.le_of_ble_eq_true rfl, vv_Ni_draw_E_56 D hD rr σ' a1 σ hf⟩
set_option maxHeartbeats 16000000 in
set_option maxRecDepth 20000 in
theorem ww_Ni_draw (D : Nat) (hD : 1 ≤ D) (b0 : Nat) (a1 : Int32) (σ : gx_R) (rr : Int32) (σ' : gx_R) (hb0 : b0 = 9 ∨ b0 = 56) (hf : Ni_draw b0 a1 σ = some (rr, σ')) : E0 D 11 [.ref b0, .int a1] σ (some (.int rr)) σ' := by
  rcases hb0 with rfl | rfl
  · exact ww_Ni_draw_9 D hD a1 σ rr σ' hf
  · exact ww_Ni_draw_56 D hD a1 σ rr σ' hf
set_option maxHeartbeats 16000000 in
set_option maxRecDepth 20000 in
theorem vv_Ni_save_E (D : Nat) (hD : 1 ≤ D + 1) (rr : Unit) (σ' : gx_R) (a2 : Int32) (σ : gx_R) (hf : Ni_save a2 σ = some (rr, σ')) : gx_Ev lay0 (E0 D) tt_12 none σ' 0 [.ref 9, .ref 17, .int a2] [] σ := by
  unfold Ni_save at hf
  rcases z_if_inv hf with ⟨h1, hf⟩ | ⟨h1, hf⟩
  · obtain ⟨e1, e2⟩ := z_ret hf
    subst e1
    subst e2
    exact gx_end 3 [.inl 1] [a2 < 0] rfl ⟨h1, trivial⟩
  · rcases z_if_inv hf with ⟨h2, hf⟩ | ⟨h2, hf⟩
    · obtain ⟨h3, hf⟩ := z_ck_inv hf
      obtain ⟨h4, hf⟩ := z_ck_inv hf
      obtain ⟨h5, hf⟩ := z_ck_inv hf
      obtain ⟨h6, hf⟩ := z_ck_inv hf
      obtain ⟨h7, hf⟩ := z_ck_inv hf
      obtain ⟨h8, hf⟩ := z_ck_inv hf
      obtain ⟨h9, hf⟩ := z_ck_inv hf
      obtain ⟨h10, hf⟩ := z_ck_inv hf
      obtain ⟨e1, e2⟩ := z_ret hf
      subst e1
      subst e2
      exact gx_end 81 [.inl 0, .inl 1] [¬ (a2 < 0), a2 ≤ ((nI 3120) - (104 : Int32)), ¬ (0 : Int32) < 0 ∧ ¬ a2 < 0 ∧ ¬ (8 : Int32) < 0 ∧ (0 : Int32).toNatClampNeg + (8 : Int32).toNatClampNeg ≤ 8 ∧ a2.toNatClampNeg + (8 : Int32).toNatClampNeg ≤ 3120, ¬ (0 : Int32) < 0 ∧ ¬ (a2 + (8 : Int32)) < 0 ∧ ¬ (8 : Int32) < 0 ∧ (0 : Int32).toNatClampNeg + (8 : Int32).toNatClampNeg ≤ 8 ∧ (a2 + (8 : Int32)).toNatClampNeg + (8 : Int32).toNatClampNeg ≤ 3120, ¬ (0 : Int32) < 0 ∧ ¬ (a2 + (16 : Int32)) < 0 ∧ ¬ (8 : Int32) < 0 ∧ (0 : Int32).toNatClampNeg + (8 : Int32).toNatClampNeg ≤ 8 ∧ (a2 + (16 : Int32)).toNatClampNeg + (8 : Int32).toNatClampNeg ≤ 3120, ¬ (0 : Int32) < 0 ∧ ¬ (a2 + (24 : Int32)) < 0 ∧ ¬ (8 : Int32) < 0 ∧ (0 : Int32).toNatClampNeg + (8 : Int32).toNatClampNeg ≤ 8 ∧ (a2 + (24 : Int32)).toNatClampNeg + (8 : Int32).toNatClampNeg ≤ 3120, ¬ (0 : Int32) < 0 ∧ ¬ (a2 + (32 : Int32)) < 0 ∧ ¬ (64 : Int32) < 0 ∧ (0 : Int32).toNatClampNeg + (64 : Int32).toNatClampNeg ≤ 64 ∧ (a2 + (32 : Int32)).toNatClampNeg + (64 : Int32).toNatClampNeg ≤ 3120, ¬ (0 : Int32) < 0 ∧ ¬ ((a2 + (32 : Int32)) + (64 : Int32)) < 0 ∧ ¬ (6 : Int32) < 0 ∧ (0 : Int32).toNatClampNeg + (6 : Int32).toNatClampNeg ≤ 6 ∧ ((a2 + (32 : Int32)) + (64 : Int32)).toNatClampNeg + (6 : Int32).toNatClampNeg ≤ 3120, vp_in ((a2 + (104 : Int32)) - (2 : Int32)) 3120, vp_in ((a2 + (104 : Int32)) - (1 : Int32)) 3120] rfl ⟨h1, h2, (z_cpk_in h3), (z_cpk_in h4), (z_cpk_in h5), (z_cpk_in h6), (z_cpk_in h7), (z_cpk_in h8), (z_ix_in h9), (z_ix_in h10), trivial⟩
    · obtain ⟨e1, e2⟩ := z_ret hf
      subst e1
      subst e2
      exact gx_end 9 [.inl 0, .inl 0] [¬ (a2 < 0), ¬ (a2 ≤ ((nI 3120) - (104 : Int32)))] rfl ⟨h1, h2, trivial⟩
set_option maxHeartbeats 16000000 in
set_option maxRecDepth 20000 in
theorem ww_Ni_save (D : Nat) (hD : 1 ≤ D) (a2 : Int32) (σ : gx_R) (rr : Unit) (σ' : gx_R) (hf : Ni_save a2 σ = some (rr, σ')) : E0 D 12 [.ref 9, .ref 17, .int a2] σ none σ' := by
  cases D with
  | zero => omega
  | succ D => exact Or.inl ⟨Nat.le_of_ble_eq_true rfl, vv_Ni_save_E D hD rr σ' a2 σ hf⟩
set_option maxHeartbeats 16000000 in
set_option maxRecDepth 20000 in
theorem vv_Ni_load_E (D : Nat) (hD : 1 ≤ D + 1) (rr : Unit) (σ' : gx_R) (a2 : Int32) (σ : gx_R) (hf : Ni_load a2 σ = some (rr, σ')) : gx_Ev lay0 (E0 D) tt_13 none σ' 0 [.ref 9, .ref 17, .int a2] [] σ := by
  unfold Ni_load at hf
  rcases z_if_inv hf with ⟨h1, hf⟩ | ⟨h1, hf⟩
  · obtain ⟨e1, e2⟩ := z_ret hf
    subst e1
    subst e2
    exact gx_end 3 [.inl 1] [a2 < 0] rfl ⟨h1, trivial⟩
  · rcases z_if_inv hf with ⟨h2, hf⟩ | ⟨h2, hf⟩
    · obtain ⟨h3, hf⟩ := z_ck_inv hf
      obtain ⟨h4, hf⟩ := z_ck_inv hf
      obtain ⟨h5, hf⟩ := z_ck_inv hf
      obtain ⟨h6, hf⟩ := z_ck_inv hf
      obtain ⟨h7, hf⟩ := z_ck_inv hf
      obtain ⟨h8, hf⟩ := z_ck_inv hf
      obtain ⟨h9, hf⟩ := z_ck_inv hf
      obtain ⟨h10, hf⟩ := z_ck_inv hf
      obtain ⟨e1, e2⟩ := z_ret hf
      subst e1
      subst e2
      exact gx_end 81 [.inl 0, .inl 1] [¬ (a2 < 0), a2 ≤ ((nI 3120) - (104 : Int32)), ¬ a2 < 0 ∧ ¬ (0 : Int32) < 0 ∧ ¬ (8 : Int32) < 0 ∧ a2.toNatClampNeg + (8 : Int32).toNatClampNeg ≤ 3120 ∧ (0 : Int32).toNatClampNeg + (8 : Int32).toNatClampNeg ≤ 8, ¬ (a2 + (8 : Int32)) < 0 ∧ ¬ (0 : Int32) < 0 ∧ ¬ (8 : Int32) < 0 ∧ (a2 + (8 : Int32)).toNatClampNeg + (8 : Int32).toNatClampNeg ≤ 3120 ∧ (0 : Int32).toNatClampNeg + (8 : Int32).toNatClampNeg ≤ 8, ¬ (a2 + (16 : Int32)) < 0 ∧ ¬ (0 : Int32) < 0 ∧ ¬ (8 : Int32) < 0 ∧ (a2 + (16 : Int32)).toNatClampNeg + (8 : Int32).toNatClampNeg ≤ 3120 ∧ (0 : Int32).toNatClampNeg + (8 : Int32).toNatClampNeg ≤ 8, ¬ (a2 + (24 : Int32)) < 0 ∧ ¬ (0 : Int32) < 0 ∧ ¬ (8 : Int32) < 0 ∧ (a2 + (24 : Int32)).toNatClampNeg + (8 : Int32).toNatClampNeg ≤ 3120 ∧ (0 : Int32).toNatClampNeg + (8 : Int32).toNatClampNeg ≤ 8, ¬ (a2 + (32 : Int32)) < 0 ∧ ¬ (0 : Int32) < 0 ∧ ¬ (64 : Int32) < 0 ∧ (a2 + (32 : Int32)).toNatClampNeg + (64 : Int32).toNatClampNeg ≤ 3120 ∧ (0 : Int32).toNatClampNeg + (64 : Int32).toNatClampNeg ≤ 64, ¬ ((a2 + (32 : Int32)) + (64 : Int32)) < 0 ∧ ¬ (0 : Int32) < 0 ∧ ¬ (6 : Int32) < 0 ∧ ((a2 + (32 : Int32)) + (64 : Int32)).toNatClampNeg + (6 : Int32).toNatClampNeg ≤ 3120 ∧ (0 : Int32).toNatClampNeg + (6 : Int32).toNatClampNeg ≤ 6, vp_in ((a2 + (104 : Int32)) - (2 : Int32)) 3120, vp_in ((a2 + (104 : Int32)) - (1 : Int32)) 3120] rfl ⟨h1, h2, (z_cpk_in h3), (z_cpk_in h4), (z_cpk_in h5), (z_cpk_in h6), (z_cpk_in h7), (z_cpk_in h8), (z_ix_in h9), (z_ix_in h10), trivial⟩
    · obtain ⟨e1, e2⟩ := z_ret hf
      subst e1
      subst e2
      exact gx_end 9 [.inl 0, .inl 0] [¬ (a2 < 0), ¬ (a2 ≤ ((nI 3120) - (104 : Int32)))] rfl ⟨h1, h2, trivial⟩
set_option maxHeartbeats 16000000 in
set_option maxRecDepth 20000 in
theorem ww_Ni_load (D : Nat) (hD : 1 ≤ D) (a2 : Int32) (σ : gx_R) (rr : Unit) (σ' : gx_R) (hf : Ni_load a2 σ = some (rr, σ')) : E0 D 13 [.ref 9, .ref 17, .int a2] σ none σ' := by
  cases D with
  | zero => omega
  | succ D => exact Or.inl ⟨Nat.le_of_ble_eq_true rfl, vv_Ni_load_E D hD rr σ' a2 σ hf⟩
set_option maxHeartbeats 16000000 in
set_option maxRecDepth 20000 in
theorem vv_Ni_copy_E_9_9 (D : Nat) (hD : 1 ≤ D + 1) (rr : Unit) (σ' : gx_R) (σ : gx_R) (hf : Ni_copy 9 9 σ = some (rr, σ')) : gx_Ev lay0 (E0 D) tt_14 none σ' 0 [.ref 9, .ref 9] [] σ := by
  unfold Ni_copy at hf
  obtain ⟨e1, e2⟩ := z_ret hf
  subst e1
  subst e2
  exact gx_end 57 [] [¬ (0 : Int32) < 0 ∧ ¬ (0 : Int32) < 0 ∧ ¬ (8 : Int32) < 0 ∧ (0 : Int32).toNatClampNeg + (8 : Int32).toNatClampNeg ≤ 8 ∧ (0 : Int32).toNatClampNeg + (8 : Int32).toNatClampNeg ≤ 8, ¬ (0 : Int32) < 0 ∧ ¬ (0 : Int32) < 0 ∧ ¬ (8 : Int32) < 0 ∧ (0 : Int32).toNatClampNeg + (8 : Int32).toNatClampNeg ≤ 8 ∧ (0 : Int32).toNatClampNeg + (8 : Int32).toNatClampNeg ≤ 8, ¬ (0 : Int32) < 0 ∧ ¬ (0 : Int32) < 0 ∧ ¬ (8 : Int32) < 0 ∧ (0 : Int32).toNatClampNeg + (8 : Int32).toNatClampNeg ≤ 8 ∧ (0 : Int32).toNatClampNeg + (8 : Int32).toNatClampNeg ≤ 8, ¬ (0 : Int32) < 0 ∧ ¬ (0 : Int32) < 0 ∧ ¬ (8 : Int32) < 0 ∧ (0 : Int32).toNatClampNeg + (8 : Int32).toNatClampNeg ≤ 8 ∧ (0 : Int32).toNatClampNeg + (8 : Int32).toNatClampNeg ≤ 8, ¬ (0 : Int32) < 0 ∧ ¬ (0 : Int32) < 0 ∧ ¬ (64 : Int32) < 0 ∧ (0 : Int32).toNatClampNeg + (64 : Int32).toNatClampNeg ≤ 64 ∧ (0 : Int32).toNatClampNeg + (64 : Int32).toNatClampNeg ≤ 64, ¬ (0 : Int32) < 0 ∧ ¬ (0 : Int32) < 0 ∧ ¬ (6 : Int32) < 0 ∧ (0 : Int32).toNatClampNeg + (6 : Int32).toNatClampNeg ≤ 6 ∧ (0 : Int32).toNatClampNeg + (6 : Int32).toNatClampNeg ≤ 6] rfl ⟨(by decide +kernel), (by decide +kernel), (by decide +kernel), (by decide +kernel), (by decide +kernel), (by decide +kernel), trivial⟩
set_option maxHeartbeats 16000000 in
set_option maxRecDepth 20000 in
theorem ww_Ni_copy_9_9 (D : Nat) (hD : 1 ≤ D) (σ : gx_R) (rr : Unit) (σ' : gx_R) (hf : Ni_copy 9 9 σ = some (rr, σ')) : E0 D 14 [.ref 9, .ref 9] σ none σ' := by
  cases D with
  | zero => omega
  | succ D => exact Or.inl ⟨Nat.le_of_ble_eq_true rfl, vv_Ni_copy_E_9_9 D hD rr σ' σ hf⟩
set_option maxHeartbeats 16000000 in
set_option maxRecDepth 20000 in
theorem vv_Ni_copy_E_9_27 (D : Nat) (hD : 1 ≤ D + 1) (rr : Unit) (σ' : gx_R) (σ : gx_R) (hf : Ni_copy 9 27 σ = some (rr, σ')) : gx_Ev lay0 (E0 D) tt_14 none σ' 0 [.ref 9, .ref 27] [] σ := by
  unfold Ni_copy at hf
  obtain ⟨e1, e2⟩ := z_ret hf
  subst e1
  subst e2
  exact gx_end 57 [] [¬ (0 : Int32) < 0 ∧ ¬ (0 : Int32) < 0 ∧ ¬ (8 : Int32) < 0 ∧ (0 : Int32).toNatClampNeg + (8 : Int32).toNatClampNeg ≤ 8 ∧ (0 : Int32).toNatClampNeg + (8 : Int32).toNatClampNeg ≤ 8, ¬ (0 : Int32) < 0 ∧ ¬ (0 : Int32) < 0 ∧ ¬ (8 : Int32) < 0 ∧ (0 : Int32).toNatClampNeg + (8 : Int32).toNatClampNeg ≤ 8 ∧ (0 : Int32).toNatClampNeg + (8 : Int32).toNatClampNeg ≤ 8, ¬ (0 : Int32) < 0 ∧ ¬ (0 : Int32) < 0 ∧ ¬ (8 : Int32) < 0 ∧ (0 : Int32).toNatClampNeg + (8 : Int32).toNatClampNeg ≤ 8 ∧ (0 : Int32).toNatClampNeg + (8 : Int32).toNatClampNeg ≤ 8, ¬ (0 : Int32) < 0 ∧ ¬ (0 : Int32) < 0 ∧ ¬ (8 : Int32) < 0 ∧ (0 : Int32).toNatClampNeg + (8 : Int32).toNatClampNeg ≤ 8 ∧ (0 : Int32).toNatClampNeg + (8 : Int32).toNatClampNeg ≤ 8, ¬ (0 : Int32) < 0 ∧ ¬ (0 : Int32) < 0 ∧ ¬ (64 : Int32) < 0 ∧ (0 : Int32).toNatClampNeg + (64 : Int32).toNatClampNeg ≤ 64 ∧ (0 : Int32).toNatClampNeg + (64 : Int32).toNatClampNeg ≤ 64, ¬ (0 : Int32) < 0 ∧ ¬ (0 : Int32) < 0 ∧ ¬ (6 : Int32) < 0 ∧ (0 : Int32).toNatClampNeg + (6 : Int32).toNatClampNeg ≤ 6 ∧ (0 : Int32).toNatClampNeg + (6 : Int32).toNatClampNeg ≤ 6] rfl ⟨(by decide +kernel), (by decide +kernel), (by decide +kernel), (by decide +kernel), (by decide +kernel), (by decide +kernel), trivial⟩
set_option maxHeartbeats 16000000 in
set_option maxRecDepth 20000 in
theorem ww_Ni_copy_9_27 (D : Nat) (hD : 1 ≤ D) (σ : gx_R) (rr : Unit) (σ' : gx_R) (hf : Ni_copy 9 27 σ = some (rr, σ')) : E0 D 14 [.ref 9, .ref 27] σ none σ' := by
  cases D with
  | zero => omega
  | succ D => exact Or.inl ⟨Nat.le_of_ble_eq_true rfl, vv_Ni_copy_E_9_27 D hD rr σ' σ hf⟩
set_option maxHeartbeats 16000000 in
set_option maxRecDepth 20000 in
theorem vv_Ni_copy_E_27_9 (D : Nat) (hD : 1 ≤ D + 1) (rr : Unit) (σ' : gx_R) (σ : gx_R) (hf : Ni_copy 27 9 σ = some (rr, σ')) : gx_Ev lay0 (E0 D) tt_14 none σ' 0 [.ref 27, .ref 9] [] σ := by
  unfold Ni_copy at hf
  obtain ⟨e1, e2⟩ := z_ret hf
  subst e1
  subst e2
  exact gx_end 57 [] [¬ (0 : Int32) < 0 ∧ ¬ (0 : Int32) < 0 ∧ ¬ (8 : Int32) < 0 ∧ (0 : Int32).toNatClampNeg + (8 : Int32).toNatClampNeg ≤ 8 ∧ (0 : Int32).toNatClampNeg + (8 : Int32).toNatClampNeg ≤ 8, ¬ (0 : Int32) < 0 ∧ ¬ (0 : Int32) < 0 ∧ ¬ (8 : Int32) < 0 ∧ (0 : Int32).toNatClampNeg + (8 : Int32).toNatClampNeg ≤ 8 ∧ (0 : Int32).toNatClampNeg + (8 : Int32).toNatClampNeg ≤ 8, ¬ (0 : Int32) < 0 ∧ ¬ (0 : Int32) < 0 ∧ ¬ (8 : Int32) < 0 ∧ (0 : Int32).toNatClampNeg + (8 : Int32).toNatClampNeg ≤ 8 ∧ (0 : Int32).toNatClampNeg + (8 : Int32).toNatClampNeg ≤ 8, ¬ (0 : Int32) < 0 ∧ ¬ (0 : Int32) < 0 ∧ ¬ (8 : Int32) < 0 ∧ (0 : Int32).toNatClampNeg + (8 : Int32).toNatClampNeg ≤ 8 ∧ (0 : Int32).toNatClampNeg + (8 : Int32).toNatClampNeg ≤ 8, ¬ (0 : Int32) < 0 ∧ ¬ (0 : Int32) < 0 ∧ ¬ (64 : Int32) < 0 ∧ (0 : Int32).toNatClampNeg + (64 : Int32).toNatClampNeg ≤ 64 ∧ (0 : Int32).toNatClampNeg + (64 : Int32).toNatClampNeg ≤ 64, ¬ (0 : Int32) < 0 ∧ ¬ (0 : Int32) < 0 ∧ ¬ (6 : Int32) < 0 ∧ (0 : Int32).toNatClampNeg + (6 : Int32).toNatClampNeg ≤ 6 ∧ (0 : Int32).toNatClampNeg + (6 : Int32).toNatClampNeg ≤ 6] rfl ⟨(by decide +kernel), (by decide +kernel), (by decide +kernel), (by decide +kernel), (by decide +kernel), (by decide +kernel), trivial⟩
set_option maxHeartbeats 16000000 in
set_option maxRecDepth 20000 in
theorem ww_Ni_copy_27_9 (D : Nat) (hD : 1 ≤ D) (σ : gx_R) (rr : Unit) (σ' : gx_R) (hf : Ni_copy 27 9 σ = some (rr, σ')) : E0 D 14 [.ref 27, .ref 9] σ none σ' := by
  cases D with
  | zero => omega
  | succ D => exact Or.inl ⟨Nat.le_of_ble_eq_true rfl, vv_Ni_copy_E_27_9 D hD rr σ' σ hf⟩
set_option maxHeartbeats 16000000 in
set_option maxRecDepth 20000 in
theorem vv_Ni_copy_E_27_27 (D : Nat) (hD : 1 ≤ D + 1) (rr : Unit) (σ' : gx_R) (σ : gx_R) (hf : Ni_copy 27 27 σ = some (rr, σ')) : gx_Ev lay0 (E0 D) tt_14 none σ' 0 [.ref 27, .ref 27] [] σ := by
  unfold Ni_copy at hf
  obtain ⟨e1, e2⟩ := z_ret hf
  subst e1
  subst e2
  exact gx_end 57 [] [¬ (0 : Int32) < 0 ∧ ¬ (0 : Int32) < 0 ∧ ¬ (8 : Int32) < 0 ∧ (0 : Int32).toNatClampNeg + (8 : Int32).toNatClampNeg ≤ 8 ∧ (0 : Int32).toNatClampNeg + (8 : Int32).toNatClampNeg ≤ 8, ¬ (0 : Int32) < 0 ∧ ¬ (0 : Int32) < 0 ∧ ¬ (8 : Int32) < 0 ∧ (0 : Int32).toNatClampNeg + (8 : Int32).toNatClampNeg ≤ 8 ∧ (0 : Int32).toNatClampNeg + (8 : Int32).toNatClampNeg ≤ 8, ¬ (0 : Int32) < 0 ∧ ¬ (0 : Int32) < 0 ∧ ¬ (8 : Int32) < 0 ∧ (0 : Int32).toNatClampNeg + (8 : Int32).toNatClampNeg ≤ 8 ∧ (0 : Int32).toNatClampNeg + (8 : Int32).toNatClampNeg ≤ 8, ¬ (0 : Int32) < 0 ∧ ¬ (0 : Int32) < 0 ∧ ¬ (8 : Int32) < 0 ∧ (0 : Int32).toNatClampNeg + (8 : Int32).toNatClampNeg ≤ 8 ∧ (0 : Int32).toNatClampNeg + (8 : Int32).toNatClampNeg ≤ 8, ¬ (0 : Int32) < 0 ∧ ¬ (0 : Int32) < 0 ∧ ¬ (64 : Int32) < 0 ∧ (0 : Int32).toNatClampNeg + (64 : Int32).toNatClampNeg ≤ 64 ∧ (0 : Int32).toNatClampNeg + (64 : Int32).toNatClampNeg ≤ 64, ¬ (0 : Int32) < 0 ∧ ¬ (0 : Int32) < 0 ∧ ¬ (6 : Int32) < 0 ∧ (0 : Int32).toNatClampNeg + (6 : Int32).toNatClampNeg ≤ 6 ∧ (0 : Int32).toNatClampNeg + (6 : Int32).toNatClampNeg ≤ 6] rfl ⟨(by decide +kernel), (by decide +kernel), (by decide +kernel), (by decide +kernel), (by decide +kernel), (by decide +kernel), trivial⟩
set_option maxHeartbeats 16000000 in
set_option maxRecDepth 20000 in
theorem ww_Ni_copy_27_27 (D : Nat) (hD : 1 ≤ D) (σ : gx_R) (rr : Unit) (σ' : gx_R) (hf : Ni_copy 27 27 σ = some (rr, σ')) : E0 D 14 [.ref 27, .ref 27] σ none σ' := by
  cases D with
  | zero => omega
  | succ D => exact Or.inl ⟨Nat.le_of_ble_eq_true rfl, vv_Ni_copy_E_27_27 D hD rr σ' σ hf⟩
set_option maxHeartbeats 16000000 in
set_option maxRecDepth 20000 in
theorem vv_Ni_copy_E_56_9 (D : Nat) (hD : 1 ≤ D + 1) (rr : Unit) (σ' : gx_R) (σ : gx_R) (hf : Ni_copy 56 9 σ = some (rr, σ')) : gx_Ev lay0 (E0 D) tt_14 none σ' 0 [.ref 56, .ref 9] [] σ := by
  unfold Ni_copy at hf
  obtain ⟨e1, e2⟩ := z_ret hf
  subst e1
  subst e2
  exact gx_end 57 [] [¬ (0 : Int32) < 0 ∧ ¬ (0 : Int32) < 0 ∧ ¬ (8 : Int32) < 0 ∧ (0 : Int32).toNatClampNeg + (8 : Int32).toNatClampNeg ≤ 8 ∧ (0 : Int32).toNatClampNeg + (8 : Int32).toNatClampNeg ≤ 8, ¬ (0 : Int32) < 0 ∧ ¬ (0 : Int32) < 0 ∧ ¬ (8 : Int32) < 0 ∧ (0 : Int32).toNatClampNeg + (8 : Int32).toNatClampNeg ≤ 8 ∧ (0 : Int32).toNatClampNeg + (8 : Int32).toNatClampNeg ≤ 8, ¬ (0 : Int32) < 0 ∧ ¬ (0 : Int32) < 0 ∧ ¬ (8 : Int32) < 0 ∧ (0 : Int32).toNatClampNeg + (8 : Int32).toNatClampNeg ≤ 8 ∧ (0 : Int32).toNatClampNeg + (8 : Int32).toNatClampNeg ≤ 8, ¬ (0 : Int32) < 0 ∧ ¬ (0 : Int32) < 0 ∧ ¬ (8 : Int32) < 0 ∧ (0 : Int32).toNatClampNeg + (8 : Int32).toNatClampNeg ≤ 8 ∧ (0 : Int32).toNatClampNeg + (8 : Int32).toNatClampNeg ≤ 8, ¬ (0 : Int32) < 0 ∧ ¬ (0 : Int32) < 0 ∧ ¬ (64 : Int32) < 0 ∧ (0 : Int32).toNatClampNeg + (64 : Int32).toNatClampNeg ≤ 64 ∧ (0 : Int32).toNatClampNeg + (64 : Int32).toNatClampNeg ≤ 64, ¬ (0 : Int32) < 0 ∧ ¬ (0 : Int32) < 0 ∧ ¬ (6 : Int32) < 0 ∧ (0 : Int32).toNatClampNeg + (6 : Int32).toNatClampNeg ≤ 6 ∧ (0 : Int32).toNatClampNeg + (6 : Int32).toNatClampNeg ≤ 6] rfl ⟨(by decide +kernel), (by decide +kernel), (by decide +kernel), (by decide +kernel), (by decide +kernel), (by decide +kernel), trivial⟩
set_option maxHeartbeats 16000000 in
set_option maxRecDepth 20000 in
theorem ww_Ni_copy_56_9 (D : Nat) (hD : 1 ≤ D) (σ : gx_R) (rr : Unit) (σ' : gx_R) (hf : Ni_copy 56 9 σ = some (rr, σ')) : E0 D 14 [.ref 56, .ref 9] σ none σ' := by
  cases D with
  | zero => omega
  | succ D => exact Or.inl ⟨Nat.le_of_ble_eq_true rfl, vv_Ni_copy_E_56_9 D hD rr σ' σ hf⟩
set_option maxHeartbeats 16000000 in
set_option maxRecDepth 20000 in
theorem vv_Ni_copy_E_56_27 (D : Nat) (hD : 1 ≤ D + 1) (rr : Unit) (σ' : gx_R) (σ : gx_R) (hf : Ni_copy 56 27 σ = some (rr, σ')) : gx_Ev lay0 (E0 D) tt_14 none σ' 0 [.ref 56, .ref 27] [] σ := by
  unfold Ni_copy at hf
  obtain ⟨e1, e2⟩ := z_ret hf
  subst e1
  subst e2
  exact gx_end 57 [] [¬ (0 : Int32) < 0 ∧ ¬ (0 : Int32) < 0 ∧ ¬ (8 : Int32) < 0 ∧ (0 : Int32).toNatClampNeg + (8 : Int32).toNatClampNeg ≤ 8 ∧ (0 : Int32).toNatClampNeg + (8 : Int32).toNatClampNeg ≤ 8, ¬ (0 : Int32) < 0 ∧ ¬ (0 : Int32) < 0 ∧ ¬ (8 : Int32) < 0 ∧ (0 : Int32).toNatClampNeg + (8 : Int32).toNatClampNeg ≤ 8 ∧ (0 : Int32).toNatClampNeg + (8 : Int32).toNatClampNeg ≤ 8, ¬ (0 : Int32) < 0 ∧ ¬ (0 : Int32) < 0 ∧ ¬ (8 : Int32) < 0 ∧ (0 : Int32).toNatClampNeg + (8 : Int32).toNatClampNeg ≤ 8 ∧ (0 : Int32).toNatClampNeg + (8 : Int32).toNatClampNeg ≤ 8, ¬ (0 : Int32) < 0 ∧ ¬ (0 : Int32) < 0 ∧ ¬ (8 : Int32) < 0 ∧ (0 : Int32).toNatClampNeg + (8 : Int32).toNatClampNeg ≤ 8 ∧ (0 : Int32).toNatClampNeg + (8 : Int32).toNatClampNeg ≤ 8, ¬ (0 : Int32) < 0 ∧ ¬ (0 : Int32) < 0 ∧ ¬ (64 : Int32) < 0 ∧ (0 : Int32).toNatClampNeg + (64 : Int32).toNatClampNeg ≤ 64 ∧ (0 : Int32).toNatClampNeg + (64 : Int32).toNatClampNeg ≤ 64, ¬ (0 : Int32) < 0 ∧ ¬ (0 : Int32) < 0 ∧ ¬ (6 : Int32) < 0 ∧ (0 : Int32).toNatClampNeg + (6 : Int32).toNatClampNeg ≤ 6 ∧ (0 : Int32).toNatClampNeg + (6 : Int32).toNatClampNeg ≤ 6] rfl ⟨(by decide +kernel), (by decide +kernel), (by decide +kernel), (by decide +kernel), (by decide +kernel), (by decide +kernel), trivial⟩
set_option maxHeartbeats 16000000 in
set_option maxRecDepth 20000 in
theorem ww_Ni_copy_56_27 (D : Nat) (hD : 1 ≤ D) (σ : gx_R) (rr : Unit) (σ' : gx_R) (hf : Ni_copy 56 27 σ = some (rr, σ')) : E0 D 14 [.ref 56, .ref 27] σ none σ' := by
  cases D with
  | zero => omega
  | succ D => exact Or.inl ⟨Nat.le_of_ble_eq_true rfl, vv_Ni_copy_E_56_27 D hD rr σ' σ hf⟩
set_option maxHeartbeats 16000000 in
set_option maxRecDepth 20000 in
theorem ww_Ni_copy (D : Nat) (hD : 1 ≤ D) (b0 : Nat) (b1 : Nat) (σ : gx_R) (rr : Unit) (σ' : gx_R) (hb0 : b0 = 9 ∨ b0 = 27 ∨ b0 = 56) (hb1 : b1 = 9 ∨ b1 = 27) (hf : Ni_copy b0 b1 σ = some (rr, σ')) : E0 D 14 [.ref b0, .ref b1] σ none σ' := by
  rcases hb0 with rfl | rfl | rfl <;> rcases hb1 with rfl | rfl
  · exact ww_Ni_copy_9_9 D hD σ rr σ' hf
  · exact ww_Ni_copy_9_27 D hD σ rr σ' hf
  · exact ww_Ni_copy_27_9 D hD σ rr σ' hf
  · exact ww_Ni_copy_27_27 D hD σ rr σ' hf
  · exact ww_Ni_copy_56_9 D hD σ rr σ' hf
  · exact ww_Ni_copy_56_27 D hD σ rr σ' hf
set_option maxHeartbeats 16000000 in
set_option maxRecDepth 20000 in
theorem vv_Te_clear_8_B (D : Nat) (hD : 1 ≤ D + 1) (rr : Unit) (σ' : gx_R) (K8 : Int32 → gx_R → Option (Unit × gx_R)) (hK8 : ∀ (a1 : Int32) (σ : gx_R), K8 a1 σ = some (rr, σ') → gx_Ev lay0 (E0 D) tt_15 none σ' 8 [.ref 43, .int a1] [] σ) (a1 : Int32) (σ : gx_R) (hf : Te_clear_8_B K8 a1 σ = some (rr, σ')) : gx_Ev lay0 (E0 D) tt_15 none σ' 8 [.ref 43, .int a1] [] σ := by
  unfold Te_clear_8_B at hf
  rcases z_if_inv hf with ⟨h1, hf⟩ | ⟨h1, hf⟩
  · obtain ⟨e1, e2⟩ := z_ret hf
    subst e1
    subst e2
    exact gx_end 4 [.inl 1] [(4 : Int32) ≤ a1] rfl ⟨h1, trivial⟩
  · obtain ⟨h2, hf⟩ := z_ck_inv hf
    exact gx_go_ 10 [.inl 0] [¬ ((4 : Int32) ≤ a1), vp_in a1 4] 8 [.ref 43, .int (a1 + 1)] [] (gx_up σ 48 a1.toNatClampNeg (-1 : Int32)) rfl ⟨h1, (z_ix_in h2), trivial⟩ (gx_fgt (ls' := [.ref 43, .int (a1 + 1)]) ⟨Or.inr rfl, Or.inr rfl, trivial⟩ (hK8 (a1 + 1) (gx_up σ 48 a1.toNatClampNeg (-1 : Int32)) hf))
set_option maxHeartbeats 16000000 in
set_option maxRecDepth 20000 in
theorem vv_Te_clear_8 (D : Nat) (hD : 1 ≤ D + 1) (rr : Unit) (σ' : gx_R) : ∀ (n : Nat) (a1 : Int32) (σ : gx_R), Te_clear_8 n a1 σ = some (rr, σ') → gx_Ev lay0 (E0 D) tt_15 none σ' 8 [.ref 43, .int a1] [] σ := by
  intro n
  induction n with
  | zero => intro a1 σ  hf; cases hf
  | succ n ih => intro a1 σ  hf; exact vv_Te_clear_8_B D hD rr σ'  (Te_clear_8 n) ih a1 σ  hf
set_option maxHeartbeats 16000000 in
set_option maxRecDepth 20000 in
theorem vv_Te_clear_E (D : Nat) (hD : 1 ≤ D + 1) (rr : Unit) (σ' : gx_R) (σ : gx_R) (hf : Te_clear  σ = some (rr, σ')) : gx_Ev lay0 (E0 D) tt_15 none σ' 0 [.ref 43, .null] [] σ := by
  unfold Te_clear at hf
  exact gx_go_ 8 [] [] 8 [.ref 43, .int (0 : Int32)] [] (gx_up (gx_up σ 43 4 (0 : Int32)) 43 7 (0 : Int32)) rfl trivial (gx_fgt (ls' := [.ref 43, .int (0 : Int32)]) ⟨Or.inr rfl, Or.inr rfl, trivial⟩ (vv_Te_clear_8 D hD rr σ' z_FU (0 : Int32) (gx_up (gx_up σ 43 4 (0 : Int32)) 43 7 (0 : Int32)) hf))
set_option maxHeartbeats 16000000 in
set_option maxRecDepth 20000 in
theorem ww_Te_clear (D : Nat) (hD : 1 ≤ D) (σ : gx_R) (rr : Unit) (σ' : gx_R) (hf : Te_clear  σ = some (rr, σ')) : E0 D 15 [.ref 43] σ none σ' := by
  cases D with
  | zero => omega
  | succ D => exact Or.inl ⟨Nat.le_of_ble_eq_true rfl, vv_Te_clear_E D hD rr σ' σ hf⟩
set_option maxHeartbeats 16000000 in
set_option maxRecDepth 20000 in
theorem vv_Te_put_E (D : Nat) (hD : 1 ≤ D + 1) (rr : Unit) (σ' : gx_R) (a1 : Int32) (σ : gx_R) (hf : Te_put a1 σ = some (rr, σ')) : gx_Ev lay0 (E0 D) tt_16 none σ' 0 [.ref 43, .int a1] [] σ := by
  unfold Te_put at hf
  rcases z_if_inv hf with ⟨h1, hf⟩ | ⟨h1, hf⟩
  · obtain ⟨e1, e2⟩ := z_ret hf
    subst e1
    subst e2
    exact gx_end 7 [.inl 1] [(nI 300) ≤ (σ 43 7)] rfl ⟨h1, trivial⟩
  · obtain ⟨h2, hf⟩ := z_ck_inv hf
    obtain ⟨e1, e2⟩ := z_ret hf
    subst e1
    subst e2
    exact gx_end 19 [.inl 0] [¬ ((nI 300) ≤ (σ 43 7)), vp_in (σ 43 7) 300] rfl ⟨h1, (z_ix_in h2), trivial⟩
set_option maxHeartbeats 16000000 in
set_option maxRecDepth 20000 in
theorem ww_Te_put (D : Nat) (hD : 1 ≤ D) (a1 : Int32) (σ : gx_R) (rr : Unit) (σ' : gx_R) (hf : Te_put a1 σ = some (rr, σ')) : E0 D 16 [.ref 43, .int a1] σ none σ' := by
  cases D with
  | zero => omega
  | succ D => exact Or.inl ⟨Nat.le_of_ble_eq_true rfl, vv_Te_put_E D hD rr σ' a1 σ hf⟩
set_option maxHeartbeats 16000000 in
set_option maxRecDepth 20000 in
theorem vv_Te_goOnHere_E (D : Nat) (hD : 1 ≤ D + 1) (rr : Unit) (σ' : gx_R) (a1 : Int32) (σ : gx_R) (hf : Te_goOnHere a1 σ = some (rr, σ')) : gx_Ev lay0 (E0 D) tt_17 none σ' 0 [.ref 43, .int a1] [] σ := by
  unfold Te_goOnHere at hf
  rcases z_if_inv hf with ⟨h1, hf⟩ | ⟨h1, hf⟩
  · obtain ⟨e1, e2⟩ := z_ret hf
    subst e1
    subst e2
    exact gx_end 3 [.inl 1] [a1 < 0] rfl ⟨h1, trivial⟩
  · rcases z_if_inv hf with ⟨h2, hf⟩ | ⟨h2, hf⟩
    · obtain ⟨e1, e2⟩ := z_ret hf
      subst e1
      subst e2
      exact gx_end 7 [.inl 0, .inl 1] [¬ (a1 < 0), (σ 43 7) ≤ a1] rfl ⟨h1, h2, trivial⟩
    · obtain ⟨h3, hf⟩ := z_ck_inv hf
      obtain ⟨h4, hf⟩ := z_ck_inv hf
      obtain ⟨e1, e2⟩ := z_ret hf
      subst e1
      subst e2
      exact gx_end 22 [.inl 0, .inl 0] [¬ (a1 < 0), ¬ ((σ 43 7) ≤ a1), vp_in a1 300, vp_in a1 300] rfl ⟨h1, h2, (z_ix_in h3), (z_ix_in h4), trivial⟩
set_option maxHeartbeats 16000000 in
set_option maxRecDepth 20000 in
theorem ww_Te_goOnHere (D : Nat) (hD : 1 ≤ D) (a1 : Int32) (σ : gx_R) (rr : Unit) (σ' : gx_R) (hf : Te_goOnHere a1 σ = some (rr, σ')) : E0 D 17 [.ref 43, .int a1] σ none σ' := by
  cases D with
  | zero => omega
  | succ D => exact Or.inl ⟨Nat.le_of_ble_eq_true rfl, vv_Te_goOnHere_E D hD rr σ' a1 σ hf⟩
set_option maxHeartbeats 16000000 in
set_option maxRecDepth 20000 in
theorem vv_Te_copy_E_81 (D : Nat) (hD : 1 ≤ D + 1) (rr : Unit) (σ' : gx_R) (σ : gx_R) (hf : Te_copy 81 σ = some (rr, σ')) : gx_Ev lay0 (E0 D) tt_18 none σ' 0 [.ref 81, .ref 43] [] σ := by
  unfold Te_copy at hf
  obtain ⟨h1, hf⟩ := z_ck_inv hf
  obtain ⟨e1, e2⟩ := z_ret hf
  subst e1
  subst e2
  exact gx_end 58 [] [¬ (0 : Int32) < 0 ∧ ¬ (0 : Int32) < 0 ∧ ¬ (24 : Int32) < 0 ∧ (0 : Int32).toNatClampNeg + (24 : Int32).toNatClampNeg ≤ 24 ∧ (0 : Int32).toNatClampNeg + (24 : Int32).toNatClampNeg ≤ 24, ¬ (0 : Int32) < 0 ∧ ¬ (0 : Int32) < 0 ∧ ¬ (24 : Int32) < 0 ∧ (0 : Int32).toNatClampNeg + (24 : Int32).toNatClampNeg ≤ 24 ∧ (0 : Int32).toNatClampNeg + (24 : Int32).toNatClampNeg ≤ 24, ¬ (0 : Int32) < 0 ∧ ¬ (0 : Int32) < 0 ∧ ¬ (24 : Int32) < 0 ∧ (0 : Int32).toNatClampNeg + (24 : Int32).toNatClampNeg ≤ 24 ∧ (0 : Int32).toNatClampNeg + (24 : Int32).toNatClampNeg ≤ 24, ¬ (0 : Int32) < 0 ∧ ¬ (0 : Int32) < 0 ∧ ¬ (24 : Int32) < 0 ∧ (0 : Int32).toNatClampNeg + (24 : Int32).toNatClampNeg ≤ 24 ∧ (0 : Int32).toNatClampNeg + (24 : Int32).toNatClampNeg ≤ 24, ¬ (0 : Int32) < 0 ∧ ¬ (0 : Int32) < 0 ∧ ¬ (4 : Int32) < 0 ∧ (0 : Int32).toNatClampNeg + (4 : Int32).toNatClampNeg ≤ 4 ∧ (0 : Int32).toNatClampNeg + (4 : Int32).toNatClampNeg ≤ 4, ¬ (0 : Int32) < 0 ∧ ¬ (0 : Int32) < 0 ∧ ¬ ((gx_cp (gx_cp (gx_cp (gx_cp (gx_cp σ 44 82 (0 : Int32).toNatClampNeg (0 : Int32).toNatClampNeg (24 : Int32).toNatClampNeg) 45 83 (0 : Int32).toNatClampNeg (0 : Int32).toNatClampNeg (24 : Int32).toNatClampNeg) 46 84 (0 : Int32).toNatClampNeg (0 : Int32).toNatClampNeg (24 : Int32).toNatClampNeg) 47 85 (0 : Int32).toNatClampNeg (0 : Int32).toNatClampNeg (24 : Int32).toNatClampNeg) 48 86 (0 : Int32).toNatClampNeg (0 : Int32).toNatClampNeg (4 : Int32).toNatClampNeg) 43 7) < 0 ∧ (0 : Int32).toNatClampNeg + ((gx_cp (gx_cp (gx_cp (gx_cp (gx_cp σ 44 82 (0 : Int32).toNatClampNeg (0 : Int32).toNatClampNeg (24 : Int32).toNatClampNeg) 45 83 (0 : Int32).toNatClampNeg (0 : Int32).toNatClampNeg (24 : Int32).toNatClampNeg) 46 84 (0 : Int32).toNatClampNeg (0 : Int32).toNatClampNeg (24 : Int32).toNatClampNeg) 47 85 (0 : Int32).toNatClampNeg (0 : Int32).toNatClampNeg (24 : Int32).toNatClampNeg) 48 86 (0 : Int32).toNatClampNeg (0 : Int32).toNatClampNeg (4 : Int32).toNatClampNeg) 43 7).toNatClampNeg ≤ 300 ∧ (0 : Int32).toNatClampNeg + ((gx_cp (gx_cp (gx_cp (gx_cp (gx_cp σ 44 82 (0 : Int32).toNatClampNeg (0 : Int32).toNatClampNeg (24 : Int32).toNatClampNeg) 45 83 (0 : Int32).toNatClampNeg (0 : Int32).toNatClampNeg (24 : Int32).toNatClampNeg) 46 84 (0 : Int32).toNatClampNeg (0 : Int32).toNatClampNeg (24 : Int32).toNatClampNeg) 47 85 (0 : Int32).toNatClampNeg (0 : Int32).toNatClampNeg (24 : Int32).toNatClampNeg) 48 86 (0 : Int32).toNatClampNeg (0 : Int32).toNatClampNeg (4 : Int32).toNatClampNeg) 43 7).toNatClampNeg ≤ 300] rfl ⟨(by decide +kernel), (by decide +kernel), (by decide +kernel), (by decide +kernel), (by decide +kernel), (z_cpk_in h1), trivial⟩
set_option maxHeartbeats 16000000 in
set_option maxRecDepth 20000 in
theorem ww_Te_copy_81 (D : Nat) (hD : 1 ≤ D) (σ : gx_R) (rr : Unit) (σ' : gx_R) (hf : Te_copy 81 σ = some (rr, σ')) : E0 D 18 [.ref 81, .ref 43] σ none σ' := by
  cases D with
  | zero => omega
  | succ D => exact Or.inl ⟨Nat.le_of_ble_eq_true rfl, vv_Te_copy_E_81 D hD rr σ' σ hf⟩
set_option maxHeartbeats 16000000 in
set_option maxRecDepth 20000 in
theorem vv_Te_copy_E_88 (D : Nat) (hD : 1 ≤ D + 1) (rr : Unit) (σ' : gx_R) (σ : gx_R) (hf : Te_copy 88 σ = some (rr, σ')) : gx_Ev lay0 (E0 D) tt_18 none σ' 0 [.ref 88, .ref 43] [] σ := by
  unfold Te_copy at hf
  obtain ⟨h1, hf⟩ := z_ck_inv hf
  obtain ⟨e1, e2⟩ := z_ret hf
  subst e1
  subst e2
  exact gx_end 58 [] [¬ (0 : Int32) < 0 ∧ ¬ (0 : Int32) < 0 ∧ ¬ (24 : Int32) < 0 ∧ (0 : Int32).toNatClampNeg + (24 : Int32).toNatClampNeg ≤ 24 ∧ (0 : Int32).toNatClampNeg + (24 : Int32).toNatClampNeg ≤ 24, ¬ (0 : Int32) < 0 ∧ ¬ (0 : Int32) < 0 ∧ ¬ (24 : Int32) < 0 ∧ (0 : Int32).toNatClampNeg + (24 : Int32).toNatClampNeg ≤ 24 ∧ (0 : Int32).toNatClampNeg + (24 : Int32).toNatClampNeg ≤ 24, ¬ (0 : Int32) < 0 ∧ ¬ (0 : Int32) < 0 ∧ ¬ (24 : Int32) < 0 ∧ (0 : Int32).toNatClampNeg + (24 : Int32).toNatClampNeg ≤ 24 ∧ (0 : Int32).toNatClampNeg + (24 : Int32).toNatClampNeg ≤ 24, ¬ (0 : Int32) < 0 ∧ ¬ (0 : Int32) < 0 ∧ ¬ (24 : Int32) < 0 ∧ (0 : Int32).toNatClampNeg + (24 : Int32).toNatClampNeg ≤ 24 ∧ (0 : Int32).toNatClampNeg + (24 : Int32).toNatClampNeg ≤ 24, ¬ (0 : Int32) < 0 ∧ ¬ (0 : Int32) < 0 ∧ ¬ (4 : Int32) < 0 ∧ (0 : Int32).toNatClampNeg + (4 : Int32).toNatClampNeg ≤ 4 ∧ (0 : Int32).toNatClampNeg + (4 : Int32).toNatClampNeg ≤ 4, ¬ (0 : Int32) < 0 ∧ ¬ (0 : Int32) < 0 ∧ ¬ ((gx_cp (gx_cp (gx_cp (gx_cp (gx_cp σ 44 89 (0 : Int32).toNatClampNeg (0 : Int32).toNatClampNeg (24 : Int32).toNatClampNeg) 45 90 (0 : Int32).toNatClampNeg (0 : Int32).toNatClampNeg (24 : Int32).toNatClampNeg) 46 91 (0 : Int32).toNatClampNeg (0 : Int32).toNatClampNeg (24 : Int32).toNatClampNeg) 47 92 (0 : Int32).toNatClampNeg (0 : Int32).toNatClampNeg (24 : Int32).toNatClampNeg) 48 93 (0 : Int32).toNatClampNeg (0 : Int32).toNatClampNeg (4 : Int32).toNatClampNeg) 43 7) < 0 ∧ (0 : Int32).toNatClampNeg + ((gx_cp (gx_cp (gx_cp (gx_cp (gx_cp σ 44 89 (0 : Int32).toNatClampNeg (0 : Int32).toNatClampNeg (24 : Int32).toNatClampNeg) 45 90 (0 : Int32).toNatClampNeg (0 : Int32).toNatClampNeg (24 : Int32).toNatClampNeg) 46 91 (0 : Int32).toNatClampNeg (0 : Int32).toNatClampNeg (24 : Int32).toNatClampNeg) 47 92 (0 : Int32).toNatClampNeg (0 : Int32).toNatClampNeg (24 : Int32).toNatClampNeg) 48 93 (0 : Int32).toNatClampNeg (0 : Int32).toNatClampNeg (4 : Int32).toNatClampNeg) 43 7).toNatClampNeg ≤ 300 ∧ (0 : Int32).toNatClampNeg + ((gx_cp (gx_cp (gx_cp (gx_cp (gx_cp σ 44 89 (0 : Int32).toNatClampNeg (0 : Int32).toNatClampNeg (24 : Int32).toNatClampNeg) 45 90 (0 : Int32).toNatClampNeg (0 : Int32).toNatClampNeg (24 : Int32).toNatClampNeg) 46 91 (0 : Int32).toNatClampNeg (0 : Int32).toNatClampNeg (24 : Int32).toNatClampNeg) 47 92 (0 : Int32).toNatClampNeg (0 : Int32).toNatClampNeg (24 : Int32).toNatClampNeg) 48 93 (0 : Int32).toNatClampNeg (0 : Int32).toNatClampNeg (4 : Int32).toNatClampNeg) 43 7).toNatClampNeg ≤ 300] rfl ⟨(by decide +kernel), (by decide +kernel), (by decide +kernel), (by decide +kernel), (by decide +kernel), (z_cpk_in h1), trivial⟩
set_option maxHeartbeats 16000000 in
set_option maxRecDepth 20000 in
theorem ww_Te_copy_88 (D : Nat) (hD : 1 ≤ D) (σ : gx_R) (rr : Unit) (σ' : gx_R) (hf : Te_copy 88 σ = some (rr, σ')) : E0 D 18 [.ref 88, .ref 43] σ none σ' := by
  cases D with
  | zero => omega
  | succ D => exact Or.inl ⟨Nat.le_of_ble_eq_true rfl, vv_Te_copy_E_88 D hD rr σ' σ hf⟩
set_option maxHeartbeats 16000000 in
set_option maxRecDepth 20000 in
theorem vv_Te_copy_E_95 (D : Nat) (hD : 1 ≤ D + 1) (rr : Unit) (σ' : gx_R) (σ : gx_R) (hf : Te_copy 95 σ = some (rr, σ')) : gx_Ev lay0 (E0 D) tt_18 none σ' 0 [.ref 95, .ref 43] [] σ := by
  unfold Te_copy at hf
  obtain ⟨h1, hf⟩ := z_ck_inv hf
  obtain ⟨e1, e2⟩ := z_ret hf
  subst e1
  subst e2
  exact gx_end 58 [] [¬ (0 : Int32) < 0 ∧ ¬ (0 : Int32) < 0 ∧ ¬ (24 : Int32) < 0 ∧ (0 : Int32).toNatClampNeg + (24 : Int32).toNatClampNeg ≤ 24 ∧ (0 : Int32).toNatClampNeg + (24 : Int32).toNatClampNeg ≤ 24, ¬ (0 : Int32) < 0 ∧ ¬ (0 : Int32) < 0 ∧ ¬ (24 : Int32) < 0 ∧ (0 : Int32).toNatClampNeg + (24 : Int32).toNatClampNeg ≤ 24 ∧ (0 : Int32).toNatClampNeg + (24 : Int32).toNatClampNeg ≤ 24, ¬ (0 : Int32) < 0 ∧ ¬ (0 : Int32) < 0 ∧ ¬ (24 : Int32) < 0 ∧ (0 : Int32).toNatClampNeg + (24 : Int32).toNatClampNeg ≤ 24 ∧ (0 : Int32).toNatClampNeg + (24 : Int32).toNatClampNeg ≤ 24, ¬ (0 : Int32) < 0 ∧ ¬ (0 : Int32) < 0 ∧ ¬ (24 : Int32) < 0 ∧ (0 : Int32).toNatClampNeg + (24 : Int32).toNatClampNeg ≤ 24 ∧ (0 : Int32).toNatClampNeg + (24 : Int32).toNatClampNeg ≤ 24, ¬ (0 : Int32) < 0 ∧ ¬ (0 : Int32) < 0 ∧ ¬ (4 : Int32) < 0 ∧ (0 : Int32).toNatClampNeg + (4 : Int32).toNatClampNeg ≤ 4 ∧ (0 : Int32).toNatClampNeg + (4 : Int32).toNatClampNeg ≤ 4, ¬ (0 : Int32) < 0 ∧ ¬ (0 : Int32) < 0 ∧ ¬ ((gx_cp (gx_cp (gx_cp (gx_cp (gx_cp σ 44 96 (0 : Int32).toNatClampNeg (0 : Int32).toNatClampNeg (24 : Int32).toNatClampNeg) 45 97 (0 : Int32).toNatClampNeg (0 : Int32).toNatClampNeg (24 : Int32).toNatClampNeg) 46 98 (0 : Int32).toNatClampNeg (0 : Int32).toNatClampNeg (24 : Int32).toNatClampNeg) 47 99 (0 : Int32).toNatClampNeg (0 : Int32).toNatClampNeg (24 : Int32).toNatClampNeg) 48 100 (0 : Int32).toNatClampNeg (0 : Int32).toNatClampNeg (4 : Int32).toNatClampNeg) 43 7) < 0 ∧ (0 : Int32).toNatClampNeg + ((gx_cp (gx_cp (gx_cp (gx_cp (gx_cp σ 44 96 (0 : Int32).toNatClampNeg (0 : Int32).toNatClampNeg (24 : Int32).toNatClampNeg) 45 97 (0 : Int32).toNatClampNeg (0 : Int32).toNatClampNeg (24 : Int32).toNatClampNeg) 46 98 (0 : Int32).toNatClampNeg (0 : Int32).toNatClampNeg (24 : Int32).toNatClampNeg) 47 99 (0 : Int32).toNatClampNeg (0 : Int32).toNatClampNeg (24 : Int32).toNatClampNeg) 48 100 (0 : Int32).toNatClampNeg (0 : Int32).toNatClampNeg (4 : Int32).toNatClampNeg) 43 7).toNatClampNeg ≤ 300 ∧ (0 : Int32).toNatClampNeg + ((gx_cp (gx_cp (gx_cp (gx_cp (gx_cp σ 44 96 (0 : Int32).toNatClampNeg (0 : Int32).toNatClampNeg (24 : Int32).toNatClampNeg) 45 97 (0 : Int32).toNatClampNeg (0 : Int32).toNatClampNeg (24 : Int32).toNatClampNeg) 46 98 (0 : Int32).toNatClampNeg (0 : Int32).toNatClampNeg (24 : Int32).toNatClampNeg) 47 99 (0 : Int32).toNatClampNeg (0 : Int32).toNatClampNeg (24 : Int32).toNatClampNeg) 48 100 (0 : Int32).toNatClampNeg (0 : Int32).toNatClampNeg (4 : Int32).toNatClampNeg) 43 7).toNatClampNeg ≤ 300] rfl ⟨(by decide +kernel), (by decide +kernel), (by decide +kernel), (by decide +kernel), (by decide +kernel), (z_cpk_in h1), trivial⟩
set_option maxHeartbeats 16000000 in
set_option maxRecDepth 20000 in
theorem ww_Te_copy_95 (D : Nat) (hD : 1 ≤ D) (σ : gx_R) (rr : Unit) (σ' : gx_R) (hf : Te_copy 95 σ = some (rr, σ')) : E0 D 18 [.ref 95, .ref 43] σ none σ' := by
  cases D with
  | zero => omega
  | succ D => exact Or.inl ⟨Nat.le_of_ble_eq_true rfl, vv_Te_copy_E_95 D hD rr σ' σ hf⟩
set_option maxHeartbeats 16000000 in
set_option maxRecDepth 20000 in
theorem vv_Te_copy_E_102 (D : Nat) (hD : 1 ≤ D + 1) (rr : Unit) (σ' : gx_R) (σ : gx_R) (hf : Te_copy 102 σ = some (rr, σ')) : gx_Ev lay0 (E0 D) tt_18 none σ' 0 [.ref 102, .ref 43] [] σ := by
  unfold Te_copy at hf
  obtain ⟨h1, hf⟩ := z_ck_inv hf
  obtain ⟨e1, e2⟩ := z_ret hf
  subst e1
  subst e2
  exact gx_end 58 [] [¬ (0 : Int32) < 0 ∧ ¬ (0 : Int32) < 0 ∧ ¬ (24 : Int32) < 0 ∧ (0 : Int32).toNatClampNeg + (24 : Int32).toNatClampNeg ≤ 24 ∧ (0 : Int32).toNatClampNeg + (24 : Int32).toNatClampNeg ≤ 24, ¬ (0 : Int32) < 0 ∧ ¬ (0 : Int32) < 0 ∧ ¬ (24 : Int32) < 0 ∧ (0 : Int32).toNatClampNeg + (24 : Int32).toNatClampNeg ≤ 24 ∧ (0 : Int32).toNatClampNeg + (24 : Int32).toNatClampNeg ≤ 24, ¬ (0 : Int32) < 0 ∧ ¬ (0 : Int32) < 0 ∧ ¬ (24 : Int32) < 0 ∧ (0 : Int32).toNatClampNeg + (24 : Int32).toNatClampNeg ≤ 24 ∧ (0 : Int32).toNatClampNeg + (24 : Int32).toNatClampNeg ≤ 24, ¬ (0 : Int32) < 0 ∧ ¬ (0 : Int32) < 0 ∧ ¬ (24 : Int32) < 0 ∧ (0 : Int32).toNatClampNeg + (24 : Int32).toNatClampNeg ≤ 24 ∧ (0 : Int32).toNatClampNeg + (24 : Int32).toNatClampNeg ≤ 24, ¬ (0 : Int32) < 0 ∧ ¬ (0 : Int32) < 0 ∧ ¬ (4 : Int32) < 0 ∧ (0 : Int32).toNatClampNeg + (4 : Int32).toNatClampNeg ≤ 4 ∧ (0 : Int32).toNatClampNeg + (4 : Int32).toNatClampNeg ≤ 4, ¬ (0 : Int32) < 0 ∧ ¬ (0 : Int32) < 0 ∧ ¬ ((gx_cp (gx_cp (gx_cp (gx_cp (gx_cp σ 44 103 (0 : Int32).toNatClampNeg (0 : Int32).toNatClampNeg (24 : Int32).toNatClampNeg) 45 104 (0 : Int32).toNatClampNeg (0 : Int32).toNatClampNeg (24 : Int32).toNatClampNeg) 46 105 (0 : Int32).toNatClampNeg (0 : Int32).toNatClampNeg (24 : Int32).toNatClampNeg) 47 106 (0 : Int32).toNatClampNeg (0 : Int32).toNatClampNeg (24 : Int32).toNatClampNeg) 48 107 (0 : Int32).toNatClampNeg (0 : Int32).toNatClampNeg (4 : Int32).toNatClampNeg) 43 7) < 0 ∧ (0 : Int32).toNatClampNeg + ((gx_cp (gx_cp (gx_cp (gx_cp (gx_cp σ 44 103 (0 : Int32).toNatClampNeg (0 : Int32).toNatClampNeg (24 : Int32).toNatClampNeg) 45 104 (0 : Int32).toNatClampNeg (0 : Int32).toNatClampNeg (24 : Int32).toNatClampNeg) 46 105 (0 : Int32).toNatClampNeg (0 : Int32).toNatClampNeg (24 : Int32).toNatClampNeg) 47 106 (0 : Int32).toNatClampNeg (0 : Int32).toNatClampNeg (24 : Int32).toNatClampNeg) 48 107 (0 : Int32).toNatClampNeg (0 : Int32).toNatClampNeg (4 : Int32).toNatClampNeg) 43 7).toNatClampNeg ≤ 300 ∧ (0 : Int32).toNatClampNeg + ((gx_cp (gx_cp (gx_cp (gx_cp (gx_cp σ 44 103 (0 : Int32).toNatClampNeg (0 : Int32).toNatClampNeg (24 : Int32).toNatClampNeg) 45 104 (0 : Int32).toNatClampNeg (0 : Int32).toNatClampNeg (24 : Int32).toNatClampNeg) 46 105 (0 : Int32).toNatClampNeg (0 : Int32).toNatClampNeg (24 : Int32).toNatClampNeg) 47 106 (0 : Int32).toNatClampNeg (0 : Int32).toNatClampNeg (24 : Int32).toNatClampNeg) 48 107 (0 : Int32).toNatClampNeg (0 : Int32).toNatClampNeg (4 : Int32).toNatClampNeg) 43 7).toNatClampNeg ≤ 300] rfl ⟨(by decide +kernel), (by decide +kernel), (by decide +kernel), (by decide +kernel), (by decide +kernel), (z_cpk_in h1), trivial⟩
set_option maxHeartbeats 16000000 in
set_option maxRecDepth 20000 in
theorem ww_Te_copy_102 (D : Nat) (hD : 1 ≤ D) (σ : gx_R) (rr : Unit) (σ' : gx_R) (hf : Te_copy 102 σ = some (rr, σ')) : E0 D 18 [.ref 102, .ref 43] σ none σ' := by
  cases D with
  | zero => omega
  | succ D => exact Or.inl ⟨Nat.le_of_ble_eq_true rfl, vv_Te_copy_E_102 D hD rr σ' σ hf⟩
set_option maxHeartbeats 16000000 in
set_option maxRecDepth 20000 in
theorem ww_Te_copy (D : Nat) (hD : 1 ≤ D) (b0 : Nat) (σ : gx_R) (rr : Unit) (σ' : gx_R) (hb0 : b0 = 81 ∨ b0 = 88 ∨ b0 = 95 ∨ b0 = 102) (hf : Te_copy b0 σ = some (rr, σ')) : E0 D 18 [.ref b0, .ref 43] σ none σ' := by
  rcases hb0 with rfl | rfl | rfl | rfl
  · exact ww_Te_copy_81 D hD σ rr σ' hf
  · exact ww_Te_copy_88 D hD σ rr σ' hf
  · exact ww_Te_copy_95 D hD σ rr σ' hf
  · exact ww_Te_copy_102 D hD σ rr σ' hf
set_option maxHeartbeats 16000000 in
set_option maxRecDepth 20000 in
theorem vv_St_push_E (D : Nat) (hD : 2 ≤ D + 1) (rr : Unit) (σ' : gx_R) (σ : gx_R) (hf : St_push  σ = some (rr, σ')) : gx_Ev lay0 (E0 D) tt_19 none σ' 0 [.ref 16, .ref 9] [] σ := by
  unfold St_push at hf
  obtain ⟨⟨⟩, σ2, h3, hf⟩ := z_bd_inv hf
  rcases z_if_inv hf with ⟨h4, hf⟩ | ⟨h4, hf⟩
  · obtain ⟨e1, e2⟩ := z_ret hf
    subst e1
    subst e2
    exact gx_end 26 [.inr (none, σ2), .inl 1] [¬ (30 : Int32) = 0, E0 D 12 [.ref 9, .ref 17, .int ((((σ 16 1) + (σ 16 2)) - ((σ 16 1) + (σ 16 2)) / (30 : Int32) * (30 : Int32)) * (104 : Int32))] σ (none) σ2, (30 : Int32) ≤ (σ2 16 2), ¬ (30 : Int32) = 0] rfl ⟨(by decide), (ww_Ni_save D (by omega) ((((σ 16 1) + (σ 16 2)) - ((σ 16 1) + (σ 16 2)) / (30 : Int32) * (30 : Int32)) * (104 : Int32)) σ () σ2 h3), h4, (by decide), trivial⟩
  · obtain ⟨e1, e2⟩ := z_ret hf
    subst e1
    subst e2
    exact gx_end 25 [.inr (none, σ2), .inl 0] [¬ (30 : Int32) = 0, E0 D 12 [.ref 9, .ref 17, .int ((((σ 16 1) + (σ 16 2)) - ((σ 16 1) + (σ 16 2)) / (30 : Int32) * (30 : Int32)) * (104 : Int32))] σ (none) σ2, ¬ ((30 : Int32) ≤ (σ2 16 2))] rfl ⟨(by decide), (ww_Ni_save D (by omega) ((((σ 16 1) + (σ 16 2)) - ((σ 16 1) + (σ 16 2)) / (30 : Int32) * (30 : Int32)) * (104 : Int32)) σ () σ2 h3), h4, trivial⟩
set_option maxHeartbeats 16000000 in
set_option maxRecDepth 20000 in
theorem ww_St_push (D : Nat) (hD : 2 ≤ D) (σ : gx_R) (rr : Unit) (σ' : gx_R) (hf : St_push  σ = some (rr, σ')) : E0 D 19 [.ref 16, .ref 9] σ none σ' := by
  cases D with
  | zero => omega
  | succ D => exact Or.inl ⟨Nat.le_of_ble_eq_true rfl, vv_St_push_E D hD rr σ' σ hf⟩
set_option maxHeartbeats 16000000 in
set_option maxRecDepth 20000 in
theorem vv_St_pop_E (D : Nat) (hD : 2 ≤ D + 1) (rr : Int32) (σ' : gx_R) (σ : gx_R) (hf : St_pop  σ = some (rr, σ')) : gx_Ev lay0 (E0 D) tt_20 (some (.int rr)) σ' 0 [.ref 16, .ref 9] [] σ := by
  unfold St_pop at hf
  rcases z_if_inv hf with ⟨h1, hf⟩ | ⟨h1, hf⟩
  · obtain ⟨e1, e2⟩ := z_ret hf
    subst e1
    subst e2
    exact gx_end 5 [.inl 0] [¬ ¬ ((σ 16 2) = 0), (0 : Int32) &&& 1 = (0 : Int32)] rfl ⟨(fun q => q h1), rfl, trivial⟩
  · obtain ⟨⟨⟩, σ3, h4, hf⟩ := z_bd_inv hf
    obtain ⟨e1, e2⟩ := z_ret hf
    subst e1
    subst e2
    exact gx_end 24 [.inl 1, .inr (none, σ3)] [¬ ((σ 16 2) = 0), ¬ (30 : Int32) = 0, E0 D 13 [.ref 9, .ref 17, .int (((((gx_up σ 16 2 ((σ 16 2) - (1 : Int32))) 16 1) + ((gx_up σ 16 2 ((σ 16 2) - (1 : Int32))) 16 2)) - (((gx_up σ 16 2 ((σ 16 2) - (1 : Int32))) 16 1) + ((gx_up σ 16 2 ((σ 16 2) - (1 : Int32))) 16 2)) / (30 : Int32) * (30 : Int32)) * (104 : Int32))] (gx_up σ 16 2 ((σ 16 2) - (1 : Int32))) (none) σ3, (1 : Int32) &&& 1 = (1 : Int32)] rfl ⟨h1, (by decide), (ww_Ni_load D (by omega) (((((gx_up σ 16 2 ((σ 16 2) - (1 : Int32))) 16 1) + ((gx_up σ 16 2 ((σ 16 2) - (1 : Int32))) 16 2)) - (((gx_up σ 16 2 ((σ 16 2) - (1 : Int32))) 16 1) + ((gx_up σ 16 2 ((σ 16 2) - (1 : Int32))) 16 2)) / (30 : Int32) * (30 : Int32)) * (104 : Int32)) (gx_up σ 16 2 ((σ 16 2) - (1 : Int32))) () σ3 h4), rfl, trivial⟩
set_option maxHeartbeats 16000000 in
set_option maxRecDepth 20000 in
theorem ww_St_pop (D : Nat) (hD : 2 ≤ D) (σ : gx_R) (rr : Int32) (σ' : gx_R) (hf : St_pop  σ = some (rr, σ')) : E0 D 20 [.ref 16, .ref 9] σ (some (.int rr)) σ' := by
  cases D with
  | zero => omega
  | succ D => exact Or.inl ⟨Nat.le_of_ble_eq_true rfl, vv_St_pop_E D hD rr σ' σ hf⟩
set_option maxHeartbeats 16000000 in
set_option maxRecDepth 20000 in
theorem vv_St_copy_E_16_16 (D : Nat) (hD : 1 ≤ D + 1) (rr : Unit) (σ' : gx_R) (σ : gx_R) (hf : St_copy 16 16 σ = some (rr, σ')) : gx_Ev lay0 (E0 D) tt_21 none σ' 0 [.ref 16, .ref 16] [] σ := by
  unfold St_copy at hf
  obtain ⟨h1, hf⟩ := z_ck_inv hf
  obtain ⟨e1, e2⟩ := z_ret hf
  subst e1
  subst e2
  exact gx_end 19 [] [¬ (0 : Int32) < 0 ∧ ¬ (0 : Int32) < 0 ∧ ¬ (nI 3120) < 0 ∧ (0 : Int32).toNatClampNeg + (nI 3120).toNatClampNeg ≤ 3120 ∧ (0 : Int32).toNatClampNeg + (nI 3120).toNatClampNeg ≤ 3120] rfl ⟨(z_cpk_in h1), trivial⟩
set_option maxHeartbeats 16000000 in
set_option maxRecDepth 20000 in
theorem ww_St_copy_16_16 (D : Nat) (hD : 1 ≤ D) (σ : gx_R) (rr : Unit) (σ' : gx_R) (hf : St_copy 16 16 σ = some (rr, σ')) : E0 D 21 [.ref 16, .ref 16] σ none σ' := by
  cases D with
  | zero => omega
  | succ D => exact Or.inl ⟨Nat.le_of_ble_eq_true rfl, vv_St_copy_E_16_16 D hD rr σ' σ hf⟩
set_option maxHeartbeats 16000000 in
set_option maxRecDepth 20000 in
theorem vv_St_copy_E_16_34 (D : Nat) (hD : 1 ≤ D + 1) (rr : Unit) (σ' : gx_R) (σ : gx_R) (hf : St_copy 16 34 σ = some (rr, σ')) : gx_Ev lay0 (E0 D) tt_21 none σ' 0 [.ref 16, .ref 34] [] σ := by
  unfold St_copy at hf
  obtain ⟨h1, hf⟩ := z_ck_inv hf
  obtain ⟨e1, e2⟩ := z_ret hf
  subst e1
  subst e2
  exact gx_end 19 [] [¬ (0 : Int32) < 0 ∧ ¬ (0 : Int32) < 0 ∧ ¬ (nI 3120) < 0 ∧ (0 : Int32).toNatClampNeg + (nI 3120).toNatClampNeg ≤ 3120 ∧ (0 : Int32).toNatClampNeg + (nI 3120).toNatClampNeg ≤ 3120] rfl ⟨(z_cpk_in h1), trivial⟩
set_option maxHeartbeats 16000000 in
set_option maxRecDepth 20000 in
theorem ww_St_copy_16_34 (D : Nat) (hD : 1 ≤ D) (σ : gx_R) (rr : Unit) (σ' : gx_R) (hf : St_copy 16 34 σ = some (rr, σ')) : E0 D 21 [.ref 16, .ref 34] σ none σ' := by
  cases D with
  | zero => omega
  | succ D => exact Or.inl ⟨Nat.le_of_ble_eq_true rfl, vv_St_copy_E_16_34 D hD rr σ' σ hf⟩
set_option maxHeartbeats 16000000 in
set_option maxRecDepth 20000 in
theorem vv_St_copy_E_34_16 (D : Nat) (hD : 1 ≤ D + 1) (rr : Unit) (σ' : gx_R) (σ : gx_R) (hf : St_copy 34 16 σ = some (rr, σ')) : gx_Ev lay0 (E0 D) tt_21 none σ' 0 [.ref 34, .ref 16] [] σ := by
  unfold St_copy at hf
  obtain ⟨h1, hf⟩ := z_ck_inv hf
  obtain ⟨e1, e2⟩ := z_ret hf
  subst e1
  subst e2
  exact gx_end 19 [] [¬ (0 : Int32) < 0 ∧ ¬ (0 : Int32) < 0 ∧ ¬ (nI 3120) < 0 ∧ (0 : Int32).toNatClampNeg + (nI 3120).toNatClampNeg ≤ 3120 ∧ (0 : Int32).toNatClampNeg + (nI 3120).toNatClampNeg ≤ 3120] rfl ⟨(z_cpk_in h1), trivial⟩
set_option maxHeartbeats 16000000 in
set_option maxRecDepth 20000 in
theorem ww_St_copy_34_16 (D : Nat) (hD : 1 ≤ D) (σ : gx_R) (rr : Unit) (σ' : gx_R) (hf : St_copy 34 16 σ = some (rr, σ')) : E0 D 21 [.ref 34, .ref 16] σ none σ' := by
  cases D with
  | zero => omega
  | succ D => exact Or.inl ⟨Nat.le_of_ble_eq_true rfl, vv_St_copy_E_34_16 D hD rr σ' σ hf⟩
set_option maxHeartbeats 16000000 in
set_option maxRecDepth 20000 in
theorem vv_St_copy_E_34_34 (D : Nat) (hD : 1 ≤ D + 1) (rr : Unit) (σ' : gx_R) (σ : gx_R) (hf : St_copy 34 34 σ = some (rr, σ')) : gx_Ev lay0 (E0 D) tt_21 none σ' 0 [.ref 34, .ref 34] [] σ := by
  unfold St_copy at hf
  obtain ⟨h1, hf⟩ := z_ck_inv hf
  obtain ⟨e1, e2⟩ := z_ret hf
  subst e1
  subst e2
  exact gx_end 19 [] [¬ (0 : Int32) < 0 ∧ ¬ (0 : Int32) < 0 ∧ ¬ (nI 3120) < 0 ∧ (0 : Int32).toNatClampNeg + (nI 3120).toNatClampNeg ≤ 3120 ∧ (0 : Int32).toNatClampNeg + (nI 3120).toNatClampNeg ≤ 3120] rfl ⟨(z_cpk_in h1), trivial⟩
set_option maxHeartbeats 16000000 in
set_option maxRecDepth 20000 in
theorem ww_St_copy_34_34 (D : Nat) (hD : 1 ≤ D) (σ : gx_R) (rr : Unit) (σ' : gx_R) (hf : St_copy 34 34 σ = some (rr, σ')) : E0 D 21 [.ref 34, .ref 34] σ none σ' := by
  cases D with
  | zero => omega
  | succ D => exact Or.inl ⟨Nat.le_of_ble_eq_true rfl, vv_St_copy_E_34_34 D hD rr σ' σ hf⟩
set_option maxHeartbeats 16000000 in
set_option maxRecDepth 20000 in
theorem ww_St_copy (D : Nat) (hD : 1 ≤ D) (b0 : Nat) (b1 : Nat) (σ : gx_R) (rr : Unit) (σ' : gx_R) (hb0 : b0 = 16 ∨ b0 = 34) (hb1 : b1 = 16 ∨ b1 = 34) (hf : St_copy b0 b1 σ = some (rr, σ')) : E0 D 21 [.ref b0, .ref b1] σ none σ' := by
  rcases hb0 with rfl | rfl <;> rcases hb1 with rfl | rfl
  · exact ww_St_copy_16_16 D hD σ rr σ' hf
  · exact ww_St_copy_16_34 D hD σ rr σ' hf
  · exact ww_St_copy_34_16 D hD σ rr σ' hf
  · exact ww_St_copy_34_34 D hD σ rr σ' hf
set_option maxHeartbeats 16000000 in
set_option maxRecDepth 20000 in
theorem vv_Va_firstKept_E (D : Nat) (hD : 1 ≤ D + 1) (rr : Int32) (σ' : gx_R) (σ : gx_R) (hf : Va_firstKept  σ = some (rr, σ')) : gx_Ev lay0 (E0 D) tt_22 (some (.int rr)) σ' 0 [.ref 1] [] σ := by
  unfold Va_firstKept at hf
  obtain ⟨e1, e2⟩ := z_ret hf
  subst e1
  subst e2
  exact gx_end 8 [] [] rfl trivial
set_option maxHeartbeats 16000000 in
set_option maxRecDepth 20000 in
theorem ww_Va_firstKept (D : Nat) (hD : 1 ≤ D) (σ : gx_R) (rr : Int32) (σ' : gx_R) (hf : Va_firstKept  σ = some (rr, σ')) : E0 D 22 [.ref 1] σ (some (.int rr)) σ' := by
  cases D with
  | zero => omega
  | succ D => exact Or.inl ⟨Nat.le_of_ble_eq_true rfl, vv_Va_firstKept_E D hD rr σ' σ hf⟩
set_option maxHeartbeats 16000000 in
set_option maxRecDepth 20000 in
theorem vv_Va_copy_E_1_1 (D : Nat) (hD : 2 ≤ D + 1) (rr : Unit) (σ' : gx_R) (σ : gx_R) (hf : Va_copy 1 1 σ = some (rr, σ')) : gx_Ev lay0 (E0 D) tt_23 none σ' 0 [.ref 1, .ref 1] [] σ := by
  unfold Va_copy at hf
  obtain ⟨⟨⟩, σ2, h3, hf⟩ := z_bd_inv hf
  obtain ⟨⟨⟩, σ5, h6, hf⟩ := z_bd_inv hf
  obtain ⟨⟨⟩, σ8, h9, hf⟩ := z_bd_inv hf
  obtain ⟨h10, hf⟩ := z_ck_inv hf
  obtain ⟨e1, e2⟩ := z_ret hf
  subst e1
  subst e2
  exact gx_end 34 [.inr (none, σ2), .inr (none, σ5), .inr (none, σ8)] [E0 D 6 [.ref 2, .ref 2] σ (none) σ2, E0 D 14 [.ref 9, .ref 9] σ2 (none) σ5, E0 D 21 [.ref 16, .ref 16] σ5 (none) σ8, ¬ (0 : Int32) < 0 ∧ ¬ (0 : Int32) < 0 ∧ ¬ (nI 999) < 0 ∧ (0 : Int32).toNatClampNeg + (nI 999).toNatClampNeg ≤ 999 ∧ (0 : Int32).toNatClampNeg + (nI 999).toNatClampNeg ≤ 999] rfl ⟨(ww_Fo_copy D (by omega) 2 2 σ () σ2 (Or.inl rfl) (Or.inl rfl) h3), (ww_Ni_copy D (by omega) 9 9 σ2 () σ5 (Or.inl rfl) (Or.inl rfl) h6), (ww_St_copy D (by omega) 16 16 σ5 () σ8 (Or.inl rfl) (Or.inl rfl) h9), (z_cpk_in h10), trivial⟩
set_option maxHeartbeats 16000000 in
set_option maxRecDepth 20000 in
theorem ww_Va_copy_1_1 (D : Nat) (hD : 2 ≤ D) (σ : gx_R) (rr : Unit) (σ' : gx_R) (hf : Va_copy 1 1 σ = some (rr, σ')) : E0 D 23 [.ref 1, .ref 1] σ none σ' := by
  cases D with
  | zero => omega
  | succ D => exact Or.inl ⟨Nat.le_of_ble_eq_true rfl, vv_Va_copy_E_1_1 D hD rr σ' σ hf⟩
set_option maxHeartbeats 16000000 in
set_option maxRecDepth 20000 in
theorem vv_Va_copy_E_1_19 (D : Nat) (hD : 2 ≤ D + 1) (rr : Unit) (σ' : gx_R) (σ : gx_R) (hf : Va_copy 1 19 σ = some (rr, σ')) : gx_Ev lay0 (E0 D) tt_23 none σ' 0 [.ref 1, .ref 19] [] σ := by
  unfold Va_copy at hf
  obtain ⟨⟨⟩, σ2, h3, hf⟩ := z_bd_inv hf
  obtain ⟨⟨⟩, σ5, h6, hf⟩ := z_bd_inv hf
  obtain ⟨⟨⟩, σ8, h9, hf⟩ := z_bd_inv hf
  obtain ⟨h10, hf⟩ := z_ck_inv hf
  obtain ⟨e1, e2⟩ := z_ret hf
  subst e1
  subst e2
  exact gx_end 34 [.inr (none, σ2), .inr (none, σ5), .inr (none, σ8)] [E0 D 6 [.ref 2, .ref 20] σ (none) σ2, E0 D 14 [.ref 9, .ref 27] σ2 (none) σ5, E0 D 21 [.ref 16, .ref 34] σ5 (none) σ8, ¬ (0 : Int32) < 0 ∧ ¬ (0 : Int32) < 0 ∧ ¬ (nI 999) < 0 ∧ (0 : Int32).toNatClampNeg + (nI 999).toNatClampNeg ≤ 999 ∧ (0 : Int32).toNatClampNeg + (nI 999).toNatClampNeg ≤ 999] rfl ⟨(ww_Fo_copy D (by omega) 2 20 σ () σ2 (Or.inl rfl) (Or.inr rfl) h3), (ww_Ni_copy D (by omega) 9 27 σ2 () σ5 (Or.inl rfl) (Or.inr rfl) h6), (ww_St_copy D (by omega) 16 34 σ5 () σ8 (Or.inl rfl) (Or.inr rfl) h9), (z_cpk_in h10), trivial⟩
set_option maxHeartbeats 16000000 in
set_option maxRecDepth 20000 in
theorem ww_Va_copy_1_19 (D : Nat) (hD : 2 ≤ D) (σ : gx_R) (rr : Unit) (σ' : gx_R) (hf : Va_copy 1 19 σ = some (rr, σ')) : E0 D 23 [.ref 1, .ref 19] σ none σ' := by
  cases D with
  | zero => omega
  | succ D => exact Or.inl ⟨Nat.le_of_ble_eq_true rfl, vv_Va_copy_E_1_19 D hD rr σ' σ hf⟩
set_option maxHeartbeats 16000000 in
set_option maxRecDepth 20000 in
theorem vv_Va_copy_E_19_1 (D : Nat) (hD : 2 ≤ D + 1) (rr : Unit) (σ' : gx_R) (σ : gx_R) (hf : Va_copy 19 1 σ = some (rr, σ')) : gx_Ev lay0 (E0 D) tt_23 none σ' 0 [.ref 19, .ref 1] [] σ := by
  unfold Va_copy at hf
  obtain ⟨⟨⟩, σ2, h3, hf⟩ := z_bd_inv hf
  obtain ⟨⟨⟩, σ5, h6, hf⟩ := z_bd_inv hf
  obtain ⟨⟨⟩, σ8, h9, hf⟩ := z_bd_inv hf
  obtain ⟨h10, hf⟩ := z_ck_inv hf
  obtain ⟨e1, e2⟩ := z_ret hf
  subst e1
  subst e2
  exact gx_end 34 [.inr (none, σ2), .inr (none, σ5), .inr (none, σ8)] [E0 D 6 [.ref 20, .ref 2] σ (none) σ2, E0 D 14 [.ref 27, .ref 9] σ2 (none) σ5, E0 D 21 [.ref 34, .ref 16] σ5 (none) σ8, ¬ (0 : Int32) < 0 ∧ ¬ (0 : Int32) < 0 ∧ ¬ (nI 999) < 0 ∧ (0 : Int32).toNatClampNeg + (nI 999).toNatClampNeg ≤ 999 ∧ (0 : Int32).toNatClampNeg + (nI 999).toNatClampNeg ≤ 999] rfl ⟨(ww_Fo_copy D (by omega) 20 2 σ () σ2 (Or.inr rfl) (Or.inl rfl) h3), (ww_Ni_copy D (by omega) 27 9 σ2 () σ5 (Or.inr (Or.inl rfl)) (Or.inl rfl) h6), (ww_St_copy D (by omega) 34 16 σ5 () σ8 (Or.inr rfl) (Or.inl rfl) h9), (z_cpk_in h10), trivial⟩
set_option maxHeartbeats 16000000 in
set_option maxRecDepth 20000 in
theorem ww_Va_copy_19_1 (D : Nat) (hD : 2 ≤ D) (σ : gx_R) (rr : Unit) (σ' : gx_R) (hf : Va_copy 19 1 σ = some (rr, σ')) : E0 D 23 [.ref 19, .ref 1] σ none σ' := by
  cases D with
  | zero => omega
  | succ D => exact Or.inl ⟨Nat.le_of_ble_eq_true rfl, vv_Va_copy_E_19_1 D hD rr σ' σ hf⟩
set_option maxHeartbeats 16000000 in
set_option maxRecDepth 20000 in
theorem vv_Va_copy_E_19_19 (D : Nat) (hD : 2 ≤ D + 1) (rr : Unit) (σ' : gx_R) (σ : gx_R) (hf : Va_copy 19 19 σ = some (rr, σ')) : gx_Ev lay0 (E0 D) tt_23 none σ' 0 [.ref 19, .ref 19] [] σ := by
  unfold Va_copy at hf
  obtain ⟨⟨⟩, σ2, h3, hf⟩ := z_bd_inv hf
  obtain ⟨⟨⟩, σ5, h6, hf⟩ := z_bd_inv hf
  obtain ⟨⟨⟩, σ8, h9, hf⟩ := z_bd_inv hf
  obtain ⟨h10, hf⟩ := z_ck_inv hf
  obtain ⟨e1, e2⟩ := z_ret hf
  subst e1
  subst e2
  exact gx_end 34 [.inr (none, σ2), .inr (none, σ5), .inr (none, σ8)] [E0 D 6 [.ref 20, .ref 20] σ (none) σ2, E0 D 14 [.ref 27, .ref 27] σ2 (none) σ5, E0 D 21 [.ref 34, .ref 34] σ5 (none) σ8, ¬ (0 : Int32) < 0 ∧ ¬ (0 : Int32) < 0 ∧ ¬ (nI 999) < 0 ∧ (0 : Int32).toNatClampNeg + (nI 999).toNatClampNeg ≤ 999 ∧ (0 : Int32).toNatClampNeg + (nI 999).toNatClampNeg ≤ 999] rfl ⟨(ww_Fo_copy D (by omega) 20 20 σ () σ2 (Or.inr rfl) (Or.inr rfl) h3), (ww_Ni_copy D (by omega) 27 27 σ2 () σ5 (Or.inr (Or.inl rfl)) (Or.inr rfl) h6), (ww_St_copy D (by omega) 34 34 σ5 () σ8 (Or.inr rfl) (Or.inr rfl) h9), (z_cpk_in h10), trivial⟩
set_option maxHeartbeats 16000000 in
set_option maxRecDepth 20000 in
theorem ww_Va_copy_19_19 (D : Nat) (hD : 2 ≤ D) (σ : gx_R) (rr : Unit) (σ' : gx_R) (hf : Va_copy 19 19 σ = some (rr, σ')) : E0 D 23 [.ref 19, .ref 19] σ none σ' := by
  cases D with
  | zero => omega
  | succ D => exact Or.inl ⟨Nat.le_of_ble_eq_true rfl, vv_Va_copy_E_19_19 D hD rr σ' σ hf⟩
set_option maxHeartbeats 16000000 in
set_option maxRecDepth 20000 in
theorem ww_Va_copy (D : Nat) (hD : 2 ≤ D) (b0 : Nat) (b1 : Nat) (σ : gx_R) (rr : Unit) (σ' : gx_R) (hb0 : b0 = 1 ∨ b0 = 19) (hb1 : b1 = 1 ∨ b1 = 19) (hf : Va_copy b0 b1 σ = some (rr, σ')) : E0 D 23 [.ref b0, .ref b1] σ none σ' := by
  rcases hb0 with rfl | rfl <;> rcases hb1 with rfl | rfl
  · exact ww_Va_copy_1_1 D hD σ rr σ' hf
  · exact ww_Va_copy_1_19 D hD σ rr σ' hf
  · exact ww_Va_copy_19_1 D hD σ rr σ' hf
  · exact ww_Va_copy_19_19 D hD σ rr σ' hf
set_option maxHeartbeats 16000000 in
set_option maxRecDepth 20000 in
theorem vv_La_isLaw_E (D : Nat) (hD : 1 ≤ D + 1) (rr : Int32) (σ' : gx_R) (a1 : Int32) (σ : gx_R) (hf : La_isLaw a1 σ = some (rr, σ')) : gx_Ev lay0 (E0 D) tt_31 (some (.int rr)) σ' 0 [.ref 50, .int a1, .null] [] σ := by
  unfold La_isLaw at hf
  rcases z_if_inv hf with ⟨h1, hf⟩ | ⟨h1, hf⟩
  · obtain ⟨e1, e2⟩ := z_ret hf
    subst e1
    subst e2
    exact gx_end 8 [.inl 1] [(σ 1 5) < 0, (0 : Int32) &&& 1 = (0 : Int32)] rfl ⟨h1, rfl, trivial⟩
  · rcases z_if_inv hf with ⟨h2, hf⟩ | ⟨h2, hf⟩
    · obtain ⟨e1, e2⟩ := z_ret hf
      subst e1
      subst e2
      exact gx_end 13 [.inl 0, .inl 1] [¬ ((σ 1 5) < 0), (nI 4) ≤ (σ 1 5), (0 : Int32) &&& 1 = (0 : Int32)] rfl ⟨h1, h2, rfl, trivial⟩
    · obtain ⟨h3, hf⟩ := z_ck_inv hf
      rcases z_ix4 h3 with h3 | h3 | h3 | h3
      · have he : (81 + 7 * (σ 1 5).toNatClampNeg) = 81 := by rw [h3]; rfl
        rw [he] at hf
        obtain ⟨h6, hf⟩ := z_ck_inv hf
        rcases z_if_inv hf with ⟨h7, hf⟩ | ⟨h7, hf⟩
        · obtain ⟨e1, e2⟩ := z_ret hf
          subst e1
          subst e2
          exact gx_end 22 [.inl 0, .inl 0, .inl 0, .inl 1] [¬ ((σ 1 5) < 0), ¬ ((nI 4) ≤ (σ 1 5)), (σ 1 5) = nI 0 ∧ 0 < 4 ∧ 4 < 2 ^ 31, vp_in a1 4, (σ 86 a1.toNatClampNeg) = (-1 : Int32), (0 : Int32) &&& 1 = (0 : Int32)] rfl ⟨h1, h2, ⟨h3, by decide, by decide⟩, (z_ix_in h6), h7, rfl, trivial⟩
        · obtain ⟨e1, e2⟩ := z_ret hf
          subst e1
          subst e2
          exact gx_end 23 [.inl 0, .inl 0, .inl 0, .inl 0] [¬ ((σ 1 5) < 0), ¬ ((nI 4) ≤ (σ 1 5)), (σ 1 5) = nI 0 ∧ 0 < 4 ∧ 4 < 2 ^ 31, vp_in a1 4, ¬ ((σ 86 a1.toNatClampNeg) = (-1 : Int32)), (1 : Int32) &&& 1 = (1 : Int32)] rfl ⟨h1, h2, ⟨h3, by decide, by decide⟩, (z_ix_in h6), h7, rfl, trivial⟩
      · have he : (81 + 7 * (σ 1 5).toNatClampNeg) = 88 := by rw [h3]; rfl
        rw [he] at hf
        obtain ⟨h8, hf⟩ := z_ck_inv hf
        rcases z_if_inv hf with ⟨h9, hf⟩ | ⟨h9, hf⟩
        · obtain ⟨e1, e2⟩ := z_ret hf
          subst e1
          subst e2
          exact gx_end 22 [.inl 0, .inl 0, .inl 1, .inl 1] [¬ ((σ 1 5) < 0), ¬ ((nI 4) ≤ (σ 1 5)), (σ 1 5) = nI 1 ∧ 1 < 4 ∧ 4 < 2 ^ 31, vp_in a1 4, (σ 93 a1.toNatClampNeg) = (-1 : Int32), (0 : Int32) &&& 1 = (0 : Int32)] rfl ⟨h1, h2, ⟨h3, by decide, by decide⟩, (z_ix_in h8), h9, rfl, trivial⟩
        · obtain ⟨e1, e2⟩ := z_ret hf
          subst e1
          subst e2
          exact gx_end 23 [.inl 0, .inl 0, .inl 1, .inl 0] [¬ ((σ 1 5) < 0), ¬ ((nI 4) ≤ (σ 1 5)), (σ 1 5) = nI 1 ∧ 1 < 4 ∧ 4 < 2 ^ 31, vp_in a1 4, ¬ ((σ 93 a1.toNatClampNeg) = (-1 : Int32)), (1 : Int32) &&& 1 = (1 : Int32)] rfl ⟨h1, h2, ⟨h3, by decide, by decide⟩, (z_ix_in h8), h9, rfl, trivial⟩
      · have he : (81 + 7 * (σ 1 5).toNatClampNeg) = 95 := by rw [h3]; rfl
        rw [he] at hf
        obtain ⟨h10, hf⟩ := z_ck_inv hf
        rcases z_if_inv hf with ⟨h11, hf⟩ | ⟨h11, hf⟩
        · obtain ⟨e1, e2⟩ := z_ret hf
          subst e1
          subst e2
          exact gx_end 22 [.inl 0, .inl 0, .inl 2, .inl 1] [¬ ((σ 1 5) < 0), ¬ ((nI 4) ≤ (σ 1 5)), (σ 1 5) = nI 2 ∧ 2 < 4 ∧ 4 < 2 ^ 31, vp_in a1 4, (σ 100 a1.toNatClampNeg) = (-1 : Int32), (0 : Int32) &&& 1 = (0 : Int32)] rfl ⟨h1, h2, ⟨h3, by decide, by decide⟩, (z_ix_in h10), h11, rfl, trivial⟩
        · obtain ⟨e1, e2⟩ := z_ret hf
          subst e1
          subst e2
          exact gx_end 23 [.inl 0, .inl 0, .inl 2, .inl 0] [¬ ((σ 1 5) < 0), ¬ ((nI 4) ≤ (σ 1 5)), (σ 1 5) = nI 2 ∧ 2 < 4 ∧ 4 < 2 ^ 31, vp_in a1 4, ¬ ((σ 100 a1.toNatClampNeg) = (-1 : Int32)), (1 : Int32) &&& 1 = (1 : Int32)] rfl ⟨h1, h2, ⟨h3, by decide, by decide⟩, (z_ix_in h10), h11, rfl, trivial⟩
      · have he : (81 + 7 * (σ 1 5).toNatClampNeg) = 102 := by rw [h3]; rfl
        rw [he] at hf
        obtain ⟨h12, hf⟩ := z_ck_inv hf
        rcases z_if_inv hf with ⟨h13, hf⟩ | ⟨h13, hf⟩
        · obtain ⟨e1, e2⟩ := z_ret hf
          subst e1
          subst e2
          exact gx_end 22 [.inl 0, .inl 0, .inl 3, .inl 1] [¬ ((σ 1 5) < 0), ¬ ((nI 4) ≤ (σ 1 5)), (σ 1 5) = nI 3 ∧ 3 < 4 ∧ 4 < 2 ^ 31, vp_in a1 4, (σ 107 a1.toNatClampNeg) = (-1 : Int32), (0 : Int32) &&& 1 = (0 : Int32)] rfl ⟨h1, h2, ⟨h3, by decide, by decide⟩, (z_ix_in h12), h13, rfl, trivial⟩
        · obtain ⟨e1, e2⟩ := z_ret hf
          subst e1
          subst e2
          exact gx_end 23 [.inl 0, .inl 0, .inl 3, .inl 0] [¬ ((σ 1 5) < 0), ¬ ((nI 4) ≤ (σ 1 5)), (σ 1 5) = nI 3 ∧ 3 < 4 ∧ 4 < 2 ^ 31, vp_in a1 4, ¬ ((σ 107 a1.toNatClampNeg) = (-1 : Int32)), (1 : Int32) &&& 1 = (1 : Int32)] rfl ⟨h1, h2, ⟨h3, by decide, by decide⟩, (z_ix_in h12), h13, rfl, trivial⟩
set_option maxHeartbeats 16000000 in
set_option maxRecDepth 20000 in
theorem ww_La_isLaw (D : Nat) (hD : 1 ≤ D) (a1 : Int32) (σ : gx_R) (rr : Int32) (σ' : gx_R) (hf : La_isLaw a1 σ = some (rr, σ')) : E0 D 31 [.ref 50, .int a1] σ (some (.int rr)) σ' := by
  cases D with
  | zero => omega
  | succ D => exact Or.inl ⟨Nat.le_of_ble_eq_true rfl, vv_La_isLaw_E D hD rr σ' a1 σ hf⟩
set_option maxHeartbeats 16000000 in
set_option maxRecDepth 20000 in
theorem vv_La_joined_39 (D : Nat) (hD : 1 ≤ D + 1) (rr : Int32) (σ' : gx_R) (K93 : Int64 → gx_R → Option (Int32 × gx_R)) (hK93 : ∀ (l3 : Int64) (σ : gx_R), K93 l3 σ = some (rr, σ') → gx_Ev lay0 (E0 D) tt_33 (some (.int rr)) σ' 93 [.null, .null, .null, .long l3, .null] [] σ) (s0 : Int64) (σ : gx_R) (hf : La_joined_39 K93 s0 σ = some (rr, σ')) : gx_Ev lay0 (E0 D) tt_33 (some (.int rr)) σ' 39 [.null, .null, .null, .null, .null] [.long s0] σ := by
  unfold La_joined_39 at hf
  exact gx_go_ 2 [] [] 93 [.null, .null, .null, .long s0, .null] [] σ rfl trivial (gx_fgt (ls' := [.null, .null, .null, .long s0, .null]) ⟨Or.inl rfl, Or.inl rfl, Or.inl rfl, Or.inr rfl, Or.inl rfl, trivial⟩ (hK93 s0 σ hf))
set_option maxHeartbeats 16000000 in
set_option maxRecDepth 20000 in
theorem vv_La_joined_47 (D : Nat) (hD : 1 ≤ D + 1) (rr : Int32) (σ' : gx_R) (K93 : Int64 → gx_R → Option (Int32 × gx_R)) (hK93 : ∀ (l3 : Int64) (σ : gx_R), K93 l3 σ = some (rr, σ') → gx_Ev lay0 (E0 D) tt_33 (some (.int rr)) σ' 93 [.null, .null, .null, .long l3, .null] [] σ) (s0 : Int64) (σ : gx_R) (hf : La_joined_47 K93 s0 σ = some (rr, σ')) : gx_Ev lay0 (E0 D) tt_33 (some (.int rr)) σ' 47 [.null, .null, .null, .null, .null] [.long s0] σ := by
  unfold La_joined_47 at hf
  exact gx_go_ 2 [] [] 93 [.null, .null, .null, .long s0, .null] [] σ rfl trivial (gx_fgt (ls' := [.null, .null, .null, .long s0, .null]) ⟨Or.inl rfl, Or.inl rfl, Or.inl rfl, Or.inr rfl, Or.inl rfl, trivial⟩ (hK93 s0 σ hf))
set_option maxHeartbeats 16000000 in
set_option maxRecDepth 20000 in
theorem vv_La_joined_55 (D : Nat) (hD : 1 ≤ D + 1) (rr : Int32) (σ' : gx_R) (K93 : Int64 → gx_R → Option (Int32 × gx_R)) (hK93 : ∀ (l3 : Int64) (σ : gx_R), K93 l3 σ = some (rr, σ') → gx_Ev lay0 (E0 D) tt_33 (some (.int rr)) σ' 93 [.null, .null, .null, .long l3, .null] [] σ) (s0 : Int64) (σ : gx_R) (hf : La_joined_55 K93 s0 σ = some (rr, σ')) : gx_Ev lay0 (E0 D) tt_33 (some (.int rr)) σ' 55 [.null, .null, .null, .null, .null] [.long s0] σ := by
  unfold La_joined_55 at hf
  exact gx_go_ 2 [] [] 93 [.null, .null, .null, .long s0, .null] [] σ rfl trivial (gx_fgt (ls' := [.null, .null, .null, .long s0, .null]) ⟨Or.inl rfl, Or.inl rfl, Or.inl rfl, Or.inr rfl, Or.inl rfl, trivial⟩ (hK93 s0 σ hf))
set_option maxHeartbeats 16000000 in
set_option maxRecDepth 20000 in
theorem vv_La_joined_63 (D : Nat) (hD : 1 ≤ D + 1) (rr : Int32) (σ' : gx_R) (K93 : Int64 → gx_R → Option (Int32 × gx_R)) (hK93 : ∀ (l3 : Int64) (σ : gx_R), K93 l3 σ = some (rr, σ') → gx_Ev lay0 (E0 D) tt_33 (some (.int rr)) σ' 93 [.null, .null, .null, .long l3, .null] [] σ) (s0 : Int64) (σ : gx_R) (hf : La_joined_63 K93 s0 σ = some (rr, σ')) : gx_Ev lay0 (E0 D) tt_33 (some (.int rr)) σ' 63 [.null, .null, .null, .null, .null] [.long s0] σ := by
  unfold La_joined_63 at hf
  exact gx_go_ 2 [] [] 93 [.null, .null, .null, .long s0, .null] [] σ rfl trivial (gx_fgt (ls' := [.null, .null, .null, .long s0, .null]) ⟨Or.inl rfl, Or.inl rfl, Or.inl rfl, Or.inr rfl, Or.inl rfl, trivial⟩ (hK93 s0 σ hf))
set_option maxHeartbeats 16000000 in
set_option maxRecDepth 20000 in
theorem vv_La_joined_71 (D : Nat) (hD : 1 ≤ D + 1) (rr : Int32) (σ' : gx_R) (K93 : Int64 → gx_R → Option (Int32 × gx_R)) (hK93 : ∀ (l3 : Int64) (σ : gx_R), K93 l3 σ = some (rr, σ') → gx_Ev lay0 (E0 D) tt_33 (some (.int rr)) σ' 93 [.null, .null, .null, .long l3, .null] [] σ) (s0 : Int64) (σ : gx_R) (hf : La_joined_71 K93 s0 σ = some (rr, σ')) : gx_Ev lay0 (E0 D) tt_33 (some (.int rr)) σ' 71 [.null, .null, .null, .null, .null] [.long s0] σ := by
  unfold La_joined_71 at hf
  exact gx_go_ 2 [] [] 93 [.null, .null, .null, .long s0, .null] [] σ rfl trivial (gx_fgt (ls' := [.null, .null, .null, .long s0, .null]) ⟨Or.inl rfl, Or.inl rfl, Or.inl rfl, Or.inr rfl, Or.inl rfl, trivial⟩ (hK93 s0 σ hf))
set_option maxHeartbeats 16000000 in
set_option maxRecDepth 20000 in
theorem vv_La_joined_79 (D : Nat) (hD : 1 ≤ D + 1) (rr : Int32) (σ' : gx_R) (K93 : Int64 → gx_R → Option (Int32 × gx_R)) (hK93 : ∀ (l3 : Int64) (σ : gx_R), K93 l3 σ = some (rr, σ') → gx_Ev lay0 (E0 D) tt_33 (some (.int rr)) σ' 93 [.null, .null, .null, .long l3, .null] [] σ) (s0 : Int64) (σ : gx_R) (hf : La_joined_79 K93 s0 σ = some (rr, σ')) : gx_Ev lay0 (E0 D) tt_33 (some (.int rr)) σ' 79 [.null, .null, .null, .null, .null] [.long s0] σ := by
  unfold La_joined_79 at hf
  exact gx_go_ 2 [] [] 93 [.null, .null, .null, .long s0, .null] [] σ rfl trivial (gx_fgt (ls' := [.null, .null, .null, .long s0, .null]) ⟨Or.inl rfl, Or.inl rfl, Or.inl rfl, Or.inr rfl, Or.inl rfl, trivial⟩ (hK93 s0 σ hf))
set_option maxHeartbeats 16000000 in
set_option maxRecDepth 20000 in
theorem vv_La_joined_31 (D : Nat) (hD : 1 ≤ D + 1) (rr : Int32) (σ' : gx_R) (K93 : Int64 → gx_R → Option (Int32 × gx_R)) (hK93 : ∀ (l3 : Int64) (σ : gx_R), K93 l3 σ = some (rr, σ') → gx_Ev lay0 (E0 D) tt_33 (some (.int rr)) σ' 93 [.null, .null, .null, .long l3, .null] [] σ) (s0 : Int64) (σ : gx_R) (hf : La_joined_31 K93 s0 σ = some (rr, σ')) : gx_Ev lay0 (E0 D) tt_33 (some (.int rr)) σ' 31 [.null, .null, .null, .null, .null] [.long s0] σ := by
  unfold La_joined_31 at hf
  exact gx_go_ 2 [] [] 93 [.null, .null, .null, .long s0, .null] [] σ rfl trivial (gx_fgt (ls' := [.null, .null, .null, .long s0, .null]) ⟨Or.inl rfl, Or.inl rfl, Or.inl rfl, Or.inr rfl, Or.inl rfl, trivial⟩ (hK93 s0 σ hf))
set_option maxHeartbeats 16000000 in
set_option maxRecDepth 20000 in
theorem vv_La_joined_93 (D : Nat) (hD : 1 ≤ D + 1) (rr : Int32) (σ' : gx_R) (l3 : Int64) (σ : gx_R) (hf : La_joined_93 l3 σ = some (rr, σ')) : gx_Ev lay0 (E0 D) tt_33 (some (.int rr)) σ' 93 [.null, .null, .null, .long l3, .null] [] σ := by
  unfold La_joined_93 at hf
  rcases z_if_inv hf with ⟨h1, hf⟩ | ⟨h1, hf⟩
  · rcases z_if_inv hf with ⟨h2, hf⟩ | ⟨h2, hf⟩
    · obtain ⟨e1, e2⟩ := z_ret hf
      subst e1
      subst e2
      exact gx_end 11 [.inl 1, .inl 1] [(lg_cmp l3 (1000000 : Int64)) ≤ 0, 0 ≤ (lg_cmp l3 (-1000000 : Int64))] rfl ⟨h1, h2, trivial⟩
    · obtain ⟨e1, e2⟩ := z_ret hf
      subst e1
      subst e2
      exact gx_end 11 [.inl 1, .inl 0] [(lg_cmp l3 (1000000 : Int64)) ≤ 0, ¬ (0 ≤ (lg_cmp l3 (-1000000 : Int64)))] rfl ⟨h1, h2, trivial⟩
  · obtain ⟨e1, e2⟩ := z_ret hf
    subst e1
    subst e2
    exact gx_end 6 [.inl 0] [¬ ((lg_cmp l3 (1000000 : Int64)) ≤ 0)] rfl ⟨h1, trivial⟩
set_option maxHeartbeats 16000000 in
set_option maxRecDepth 20000 in
theorem vv_La_joined_E (D : Nat) (hD : 1 ≤ D + 1) (rr : Int32) (σ' : gx_R) (a0 : Int32) (a1 : Int32) (a2 : Int32) (σ : gx_R) (hf : La_joined a0 a1 a2 σ = some (rr, σ')) : gx_Ev lay0 (E0 D) tt_33 (some (.int rr)) σ' 0 [.int a0, .int a1, .int a2, .null, .null] [] σ := by
  unfold La_joined at hf
  rcases z_if_inv hf with ⟨h1, hf⟩ | ⟨h1, hf⟩
  · exact gx_go_ 10 [.inl 1] [a0.toInt = 18 + (0 : Nat)] 93 [.int a0, .int a1, .int a2, .long ((a1 ||| a2).toInt64), .null] [] σ rfl ⟨(z_sw_in h1 (by decide)), trivial⟩ (gx_fgt (ls' := [.null, .null, .null, .long ((a1 ||| a2).toInt64), .null]) ⟨Or.inl rfl, Or.inl rfl, Or.inl rfl, Or.inr rfl, Or.inl rfl, trivial⟩ (vv_La_joined_93 D hD rr σ' ((a1 ||| a2).toInt64) σ hf))
  · skip
    rcases z_if_inv hf with ⟨h2, hf⟩ | ⟨h2, hf⟩
    · exact gx_go_ 10 [.inl 2] [a0.toInt = 18 + (1 : Nat)] 93 [.int a0, .int a1, .int a2, .long ((a1 &&& a2).toInt64), .null] [] σ rfl ⟨(z_sw_in h2 (by decide)), trivial⟩ (gx_fgt (ls' := [.null, .null, .null, .long ((a1 &&& a2).toInt64), .null]) ⟨Or.inl rfl, Or.inl rfl, Or.inl rfl, Or.inr rfl, Or.inl rfl, trivial⟩ (vv_La_joined_93 D hD rr σ' ((a1 &&& a2).toInt64) σ hf))
    · skip
      rcases z_if_inv hf with ⟨h3, hf⟩ | ⟨h3, hf⟩
      · rcases z_if_inv hf with ⟨h4, hf⟩ | ⟨h4, hf⟩
        · exact gx_go_ 8 [.inl 14, .inl 1] [a0.toInt = 18 + (13 : Nat), a2 ≤ a1] 39 [.int a0, .int a1, .int a2, .long (0 : Int64), .null] [.long (0 : Int64)] σ rfl ⟨(z_sw_in h3 (by decide)), h4, trivial⟩ (gx_fgt (ls' := [.null, .null, .null, .null, .null]) ⟨Or.inl rfl, Or.inl rfl, Or.inl rfl, Or.inl rfl, Or.inl rfl, trivial⟩ (vv_La_joined_39 D hD rr σ' (La_joined_93) (vv_La_joined_93 D hD rr σ') (0 : Int64) σ hf))
        · exact gx_go_ 9 [.inl 14, .inl 0] [a0.toInt = 18 + (13 : Nat), ¬ (a2 ≤ a1)] 39 [.int a0, .int a1, .int a2, .long (0 : Int64), .null] [.long (1 : Int64)] σ rfl ⟨(z_sw_in h3 (by decide)), h4, trivial⟩ (gx_fgt (ls' := [.null, .null, .null, .null, .null]) ⟨Or.inl rfl, Or.inl rfl, Or.inl rfl, Or.inl rfl, Or.inl rfl, trivial⟩ (vv_La_joined_39 D hD rr σ' (La_joined_93) (vv_La_joined_93 D hD rr σ') (1 : Int64) σ hf))
      · skip
        rcases z_if_inv hf with ⟨h5, hf⟩ | ⟨h5, hf⟩
        · rcases z_if_inv hf with ⟨h6, hf⟩ | ⟨h6, hf⟩
          · exact gx_go_ 8 [.inl 15, .inl 1] [a0.toInt = 18 + (14 : Nat), a2 < a1] 47 [.int a0, .int a1, .int a2, .long (0 : Int64), .null] [.long (0 : Int64)] σ rfl ⟨(z_sw_in h5 (by decide)), h6, trivial⟩ (gx_fgt (ls' := [.null, .null, .null, .null, .null]) ⟨Or.inl rfl, Or.inl rfl, Or.inl rfl, Or.inl rfl, Or.inl rfl, trivial⟩ (vv_La_joined_47 D hD rr σ' (La_joined_93) (vv_La_joined_93 D hD rr σ') (0 : Int64) σ hf))
          · exact gx_go_ 9 [.inl 15, .inl 0] [a0.toInt = 18 + (14 : Nat), ¬ (a2 < a1)] 47 [.int a0, .int a1, .int a2, .long (0 : Int64), .null] [.long (1 : Int64)] σ rfl ⟨(z_sw_in h5 (by decide)), h6, trivial⟩ (gx_fgt (ls' := [.null, .null, .null, .null, .null]) ⟨Or.inl rfl, Or.inl rfl, Or.inl rfl, Or.inl rfl, Or.inl rfl, trivial⟩ (vv_La_joined_47 D hD rr σ' (La_joined_93) (vv_La_joined_93 D hD rr σ') (1 : Int64) σ hf))
        · skip
          rcases z_if_inv hf with ⟨h7, hf⟩ | ⟨h7, hf⟩
          · rcases z_if_inv hf with ⟨h8, hf⟩ | ⟨h8, hf⟩
            · exact gx_go_ 8 [.inl 16, .inl 1] [a0.toInt = 18 + (15 : Nat), a1 ≤ a2] 55 [.int a0, .int a1, .int a2, .long (0 : Int64), .null] [.long (0 : Int64)] σ rfl ⟨(z_sw_in h7 (by decide)), h8, trivial⟩ (gx_fgt (ls' := [.null, .null, .null, .null, .null]) ⟨Or.inl rfl, Or.inl rfl, Or.inl rfl, Or.inl rfl, Or.inl rfl, trivial⟩ (vv_La_joined_55 D hD rr σ' (La_joined_93) (vv_La_joined_93 D hD rr σ') (0 : Int64) σ hf))
            · exact gx_go_ 9 [.inl 16, .inl 0] [a0.toInt = 18 + (15 : Nat), ¬ (a1 ≤ a2)] 55 [.int a0, .int a1, .int a2, .long (0 : Int64), .null] [.long (1 : Int64)] σ rfl ⟨(z_sw_in h7 (by decide)), h8, trivial⟩ (gx_fgt (ls' := [.null, .null, .null, .null, .null]) ⟨Or.inl rfl, Or.inl rfl, Or.inl rfl, Or.inl rfl, Or.inl rfl, trivial⟩ (vv_La_joined_55 D hD rr σ' (La_joined_93) (vv_La_joined_93 D hD rr σ') (1 : Int64) σ hf))
          · skip
            rcases z_if_inv hf with ⟨h9, hf⟩ | ⟨h9, hf⟩
            · rcases z_if_inv hf with ⟨h10, hf⟩ | ⟨h10, hf⟩
              · exact gx_go_ 8 [.inl 17, .inl 1] [a0.toInt = 18 + (16 : Nat), a1 < a2] 63 [.int a0, .int a1, .int a2, .long (0 : Int64), .null] [.long (0 : Int64)] σ rfl ⟨(z_sw_in h9 (by decide)), h10, trivial⟩ (gx_fgt (ls' := [.null, .null, .null, .null, .null]) ⟨Or.inl rfl, Or.inl rfl, Or.inl rfl, Or.inl rfl, Or.inl rfl, trivial⟩ (vv_La_joined_63 D hD rr σ' (La_joined_93) (vv_La_joined_93 D hD rr σ') (0 : Int64) σ hf))
              · exact gx_go_ 9 [.inl 17, .inl 0] [a0.toInt = 18 + (16 : Nat), ¬ (a1 < a2)] 63 [.int a0, .int a1, .int a2, .long (0 : Int64), .null] [.long (1 : Int64)] σ rfl ⟨(z_sw_in h9 (by decide)), h10, trivial⟩ (gx_fgt (ls' := [.null, .null, .null, .null, .null]) ⟨Or.inl rfl, Or.inl rfl, Or.inl rfl, Or.inl rfl, Or.inl rfl, trivial⟩ (vv_La_joined_63 D hD rr σ' (La_joined_93) (vv_La_joined_93 D hD rr σ') (1 : Int64) σ hf))
            · skip
              rcases z_if_inv hf with ⟨h11, hf⟩ | ⟨h11, hf⟩
              · rcases z_if_inv hf with ⟨h12, hf⟩ | ⟨h12, hf⟩
                · exact gx_go_ 9 [.inl 18, .inl 0] [a0.toInt = 18 + (17 : Nat), ¬ ¬ (a1 = a2)] 71 [.int a0, .int a1, .int a2, .long (0 : Int64), .null] [.long (1 : Int64)] σ rfl ⟨(z_sw_in h11 (by decide)), (fun q => q h12), trivial⟩ (gx_fgt (ls' := [.null, .null, .null, .null, .null]) ⟨Or.inl rfl, Or.inl rfl, Or.inl rfl, Or.inl rfl, Or.inl rfl, trivial⟩ (vv_La_joined_71 D hD rr σ' (La_joined_93) (vv_La_joined_93 D hD rr σ') (1 : Int64) σ hf))
                · exact gx_go_ 8 [.inl 18, .inl 1] [a0.toInt = 18 + (17 : Nat), ¬ (a1 = a2)] 71 [.int a0, .int a1, .int a2, .long (0 : Int64), .null] [.long (0 : Int64)] σ rfl ⟨(z_sw_in h11 (by decide)), h12, trivial⟩ (gx_fgt (ls' := [.null, .null, .null, .null, .null]) ⟨Or.inl rfl, Or.inl rfl, Or.inl rfl, Or.inl rfl, Or.inl rfl, trivial⟩ (vv_La_joined_71 D hD rr σ' (La_joined_93) (vv_La_joined_93 D hD rr σ') (0 : Int64) σ hf))
              · skip
                rcases z_if_inv hf with ⟨h13, hf⟩ | ⟨h13, hf⟩
                · rcases z_if_inv hf with ⟨h14, hf⟩ | ⟨h14, hf⟩
                  · exact gx_go_ 8 [.inl 19, .inl 1] [a0.toInt = 18 + (18 : Nat), a1 = a2] 79 [.int a0, .int a1, .int a2, .long (0 : Int64), .null] [.long (0 : Int64)] σ rfl ⟨(z_sw_in h13 (by decide)), h14, trivial⟩ (gx_fgt (ls' := [.null, .null, .null, .null, .null]) ⟨Or.inl rfl, Or.inl rfl, Or.inl rfl, Or.inl rfl, Or.inl rfl, trivial⟩ (vv_La_joined_79 D hD rr σ' (La_joined_93) (vv_La_joined_93 D hD rr σ') (0 : Int64) σ hf))
                  · exact gx_go_ 9 [.inl 19, .inl 0] [a0.toInt = 18 + (18 : Nat), ¬ (a1 = a2)] 79 [.int a0, .int a1, .int a2, .long (0 : Int64), .null] [.long (1 : Int64)] σ rfl ⟨(z_sw_in h13 (by decide)), h14, trivial⟩ (gx_fgt (ls' := [.null, .null, .null, .null, .null]) ⟨Or.inl rfl, Or.inl rfl, Or.inl rfl, Or.inl rfl, Or.inl rfl, trivial⟩ (vv_La_joined_79 D hD rr σ' (La_joined_93) (vv_La_joined_93 D hD rr σ') (1 : Int64) σ hf))
                · skip
                  rcases z_if_inv hf with ⟨h15, hf⟩ | ⟨h15, hf⟩
                  · exact gx_go_ 10 [.inl 20] [a0.toInt = 18 + (19 : Nat)] 93 [.int a0, .int a1, .int a2, .long ((a1 + a2).toInt64), .null] [] σ rfl ⟨(z_sw_in h15 (by decide)), trivial⟩ (gx_fgt (ls' := [.null, .null, .null, .long ((a1 + a2).toInt64), .null]) ⟨Or.inl rfl, Or.inl rfl, Or.inl rfl, Or.inr rfl, Or.inl rfl, trivial⟩ (vv_La_joined_93 D hD rr σ' ((a1 + a2).toInt64) σ hf))
                  · skip
                    rcases z_if_inv hf with ⟨h16, hf⟩ | ⟨h16, hf⟩
                    · exact gx_go_ 10 [.inl 21] [a0.toInt = 18 + (20 : Nat)] 93 [.int a0, .int a1, .int a2, .long ((a1 - a2).toInt64), .null] [] σ rfl ⟨(z_sw_in h16 (by decide)), trivial⟩ (gx_fgt (ls' := [.null, .null, .null, .long ((a1 - a2).toInt64), .null]) ⟨Or.inl rfl, Or.inl rfl, Or.inl rfl, Or.inr rfl, Or.inl rfl, trivial⟩ (vv_La_joined_93 D hD rr σ' ((a1 - a2).toInt64) σ hf))
                    · skip
                      rcases z_if_inv hf with ⟨h17, hf⟩ | ⟨h17, hf⟩
                      · exact gx_go_ 11 [.inl 22] [a0.toInt = 18 + (21 : Nat)] 93 [.int a0, .int a1, .int a2, .long (a1.toInt64 * a2.toInt64), .null] [] σ rfl ⟨(z_sw_in h17 (by decide)), trivial⟩ (gx_fgt (ls' := [.null, .null, .null, .long (a1.toInt64 * a2.toInt64), .null]) ⟨Or.inl rfl, Or.inl rfl, Or.inl rfl, Or.inr rfl, Or.inl rfl, trivial⟩ (vv_La_joined_93 D hD rr σ' (a1.toInt64 * a2.toInt64) σ hf))
                      · skip
                        rcases z_if_inv hf with ⟨h18, hf⟩ | ⟨h18, hf⟩
                        · rcases z_if_inv hf with ⟨h19, hf⟩ | ⟨h19, hf⟩
                          · exact gx_go_ 8 [.inl 23, .inl 0] [a0.toInt = 18 + (22 : Nat), ¬ ¬ (a2 = 0)] 31 [.int a0, .int a1, .int a2, .long (0 : Int64), .null] [.long (0 : Int64)] σ rfl ⟨(z_sw_in h18 (by decide)), (fun q => q h19), trivial⟩ (gx_fgt (ls' := [.null, .null, .null, .null, .null]) ⟨Or.inl rfl, Or.inl rfl, Or.inl rfl, Or.inl rfl, Or.inl rfl, trivial⟩ (vv_La_joined_31 D hD rr σ' (La_joined_93) (vv_La_joined_93 D hD rr σ') (0 : Int64) σ hf))
                          · obtain ⟨h20, hf⟩ := z_ck_inv hf
                            exact gx_go_ 10 [.inl 23, .inl 1] [a0.toInt = 18 + (22 : Nat), ¬ (a2 = 0), ¬ a2 = 0] 31 [.int a0, .int a1, .int a2, .long (0 : Int64), .null] [.long ((a1 / a2).toInt64)] σ rfl ⟨(z_sw_in h18 (by decide)), h19, (z_nzi_in h20), trivial⟩ (gx_fgt (ls' := [.null, .null, .null, .null, .null]) ⟨Or.inl rfl, Or.inl rfl, Or.inl rfl, Or.inl rfl, Or.inl rfl, trivial⟩ (vv_La_joined_31 D hD rr σ' (La_joined_93) (vv_La_joined_93 D hD rr σ') ((a1 / a2).toInt64) σ hf))
                        · skip
                          refine gx_go_ 3 [] [] 3 [.int a0, .int a1, .int a2, .long (0 : Int64), .null] [.int a0] σ rfl trivial ?_
                          refine gx_sw (td := 93) (tt := [81, 87, 93, 93, 93, 93, 93, 93, 93, 93, 93, 93, 93, 33, 41, 49, 57, 65, 73, 4, 10, 16, 23]) (lo := 18) rfl rfl ?_
                          rw [gx_swt_df (td := 93) (tt := [81, 87, 93, 93, 93, 93, 93, 93, 93, 93, 93, 93, 93, 33, 41, 49, 57, 65, 73, 4, 10, 16, 23]) (lo := 18) ⟨Or.inr (z_sw_ne h1 (by decide)), Or.inr (z_sw_ne h2 (by decide)), Or.inl rfl, Or.inl rfl, Or.inl rfl, Or.inl rfl, Or.inl rfl, Or.inl rfl, Or.inl rfl, Or.inl rfl, Or.inl rfl, Or.inl rfl, Or.inl rfl, Or.inr (z_sw_ne h3 (by decide)), Or.inr (z_sw_ne h5 (by decide)), Or.inr (z_sw_ne h7 (by decide)), Or.inr (z_sw_ne h9 (by decide)), Or.inr (z_sw_ne h11 (by decide)), Or.inr (z_sw_ne h13 (by decide)), Or.inr (z_sw_ne h15 (by decide)), Or.inr (z_sw_ne h16 (by decide)), Or.inr (z_sw_ne h17 (by decide)), Or.inr (z_sw_ne h18 (by decide)), trivial⟩]
                          exact gx_fgt (ls' := [.null, .null, .null, .long (0 : Int64), .null]) ⟨Or.inl rfl, Or.inl rfl, Or.inl rfl, Or.inr rfl, Or.inl rfl, trivial⟩ (vv_La_joined_93 D hD rr σ' (0 : Int64) σ hf)
set_option maxHeartbeats 16000000 in
set_option maxRecDepth 20000 in
theorem ww_La_joined (D : Nat) (hD : 1 ≤ D) (a0 : Int32) (a1 : Int32) (a2 : Int32) (σ : gx_R) (rr : Int32) (σ' : gx_R) (hf : La_joined a0 a1 a2 σ = some (rr, σ')) : E0 D 33 [.int a0, .int a1, .int a2] σ (some (.int rr)) σ' := by
  cases D with
  | zero => omega
  | succ D => exact Or.inl ⟨Nat.le_of_ble_eq_true rfl, vv_La_joined_E D hD rr σ' a0 a1 a2 σ hf⟩
set_option maxHeartbeats 16000000 in
set_option maxRecDepth 20000 in
theorem vv_La_valueOf_98_81 (D : Nat) (hD : 2 ≤ D + 1) (rr : Int32) (σ' : gx_R) (K161 : Int32 → Nat → Int32 → Int32 → Int32 → gx_R → Option (Int32 × gx_R)) (hK161 : ∀ (a2 : Int32) (b3 : Nat) (a4 : Int32) (a5 : Int32) (a6 : Int32) (σ : gx_R), (b3 = 81 ∨ b3 = 88 ∨ b3 = 95 ∨ b3 = 102) → K161 a2 b3 a4 a5 a6 σ = some (rr, σ') → gx_Ev lay0 (E0 D) tt_32 (some (.int rr)) σ' 161 [.ref 50, .null, .int a2, .ref b3, .int a4, .int a5, .int a6, .null, .null] [] σ) (a2 : Int32) (a5 : Int32) (a6 : Int32) (s0 : Int32) (σ : gx_R) (hf : La_valueOf_98 K161 a2 81 a5 a6 s0 σ = some (rr, σ')) : gx_Ev lay0 (E0 D) tt_32 (some (.int rr)) σ' 98 [.ref 50, .null, .int a2, .ref 81, .null, .int a5, .int a6, .null, .null] [.int s0] σ := by
  unfold La_valueOf_98 at hf
  exact gx_go_ 2 [] [] 161 [.ref 50, .null, .int a2, .ref 81, .int s0, .int a5, .int a6, .null, .null] [] σ rfl trivial (gx_fgt (ls' := [.ref 50, .null, .int a2, .ref 81, .int s0, .int a5, .int a6, .null, .null]) ⟨Or.inr rfl, Or.inl rfl, Or.inr rfl, Or.inr rfl, Or.inr rfl, Or.inr rfl, Or.inr rfl, Or.inl rfl, Or.inl rfl, trivial⟩ (hK161 a2 81 s0 a5 a6 σ (Or.inl rfl) hf))
set_option maxHeartbeats 16000000 in
set_option maxRecDepth 20000 in
theorem vv_La_valueOf_98_88 (D : Nat) (hD : 2 ≤ D + 1) (rr : Int32) (σ' : gx_R) (K161 : Int32 → Nat → Int32 → Int32 → Int32 → gx_R → Option (Int32 × gx_R)) (hK161 : ∀ (a2 : Int32) (b3 : Nat) (a4 : Int32) (a5 : Int32) (a6 : Int32) (σ : gx_R), (b3 = 81 ∨ b3 = 88 ∨ b3 = 95 ∨ b3 = 102) → K161 a2 b3 a4 a5 a6 σ = some (rr, σ') → gx_Ev lay0 (E0 D) tt_32 (some (.int rr)) σ' 161 [.ref 50, .null, .int a2, .ref b3, .int a4, .int a5, .int a6, .null, .null] [] σ) (a2 : Int32) (a5 : Int32) (a6 : Int32) (s0 : Int32) (σ : gx_R) (hf : La_valueOf_98 K161 a2 88 a5 a6 s0 σ = some (rr, σ')) : gx_Ev lay0 (E0 D) tt_32 (some (.int rr)) σ' 98 [.ref 50, .null, .int a2, .ref 88, .null, .int a5, .int a6, .null, .null] [.int s0] σ := by
  unfold La_valueOf_98 at hf
  exact gx_go_ 2 [] [] 161 [.ref 50, .null, .int a2, .ref 88, .int s0, .int a5, .int a6, .null, .null] [] σ rfl trivial (gx_fgt (ls' := [.ref 50, .null, .int a2, .ref 88, .int s0, .int a5, .int a6, .null, .null]) ⟨Or.inr rfl, Or.inl rfl, Or.inr rfl, Or.inr rfl, Or.inr rfl, Or.inr rfl, Or.inr rfl, Or.inl rfl, Or.inl rfl, trivial⟩ (hK161 a2 88 s0 a5 a6 σ (Or.inr (Or.inl rfl)) hf))
set_option maxHeartbeats 16000000 in
set_option maxRecDepth 20000 in
theorem vv_La_valueOf_98_95 (D : Nat) (hD : 2 ≤ D + 1) (rr : Int32) (σ' : gx_R) (K161 : Int32 → Nat → Int32 → Int32 → Int32 → gx_R → Option (Int32 × gx_R)) (hK161 : ∀ (a2 : Int32) (b3 : Nat) (a4 : Int32) (a5 : Int32) (a6 : Int32) (σ : gx_R), (b3 = 81 ∨ b3 = 88 ∨ b3 = 95 ∨ b3 = 102) → K161 a2 b3 a4 a5 a6 σ = some (rr, σ') → gx_Ev lay0 (E0 D) tt_32 (some (.int rr)) σ' 161 [.ref 50, .null, .int a2, .ref b3, .int a4, .int a5, .int a6, .null, .null] [] σ) (a2 : Int32) (a5 : Int32) (a6 : Int32) (s0 : Int32) (σ : gx_R) (hf : La_valueOf_98 K161 a2 95 a5 a6 s0 σ = some (rr, σ')) : gx_Ev lay0 (E0 D) tt_32 (some (.int rr)) σ' 98 [.ref 50, .null, .int a2, .ref 95, .null, .int a5, .int a6, .null, .null] [.int s0] σ := by
  unfold La_valueOf_98 at hf
  exact gx_go_ 2 [] [] 161 [.ref 50, .null, .int a2, .ref 95, .int s0, .int a5, .int a6, .null, .null] [] σ rfl trivial (gx_fgt (ls' := [.ref 50, .null, .int a2, .ref 95, .int s0, .int a5, .int a6, .null, .null]) ⟨Or.inr rfl, Or.inl rfl, Or.inr rfl, Or.inr rfl, Or.inr rfl, Or.inr rfl, Or.inr rfl, Or.inl rfl, Or.inl rfl, trivial⟩ (hK161 a2 95 s0 a5 a6 σ (Or.inr (Or.inr (Or.inl rfl))) hf))
set_option maxHeartbeats 16000000 in
set_option maxRecDepth 20000 in
theorem vv_La_valueOf_98_102 (D : Nat) (hD : 2 ≤ D + 1) (rr : Int32) (σ' : gx_R) (K161 : Int32 → Nat → Int32 → Int32 → Int32 → gx_R → Option (Int32 × gx_R)) (hK161 : ∀ (a2 : Int32) (b3 : Nat) (a4 : Int32) (a5 : Int32) (a6 : Int32) (σ : gx_R), (b3 = 81 ∨ b3 = 88 ∨ b3 = 95 ∨ b3 = 102) → K161 a2 b3 a4 a5 a6 σ = some (rr, σ') → gx_Ev lay0 (E0 D) tt_32 (some (.int rr)) σ' 161 [.ref 50, .null, .int a2, .ref b3, .int a4, .int a5, .int a6, .null, .null] [] σ) (a2 : Int32) (a5 : Int32) (a6 : Int32) (s0 : Int32) (σ : gx_R) (hf : La_valueOf_98 K161 a2 102 a5 a6 s0 σ = some (rr, σ')) : gx_Ev lay0 (E0 D) tt_32 (some (.int rr)) σ' 98 [.ref 50, .null, .int a2, .ref 102, .null, .int a5, .int a6, .null, .null] [.int s0] σ := by
  unfold La_valueOf_98 at hf
  exact gx_go_ 2 [] [] 161 [.ref 50, .null, .int a2, .ref 102, .int s0, .int a5, .int a6, .null, .null] [] σ rfl trivial (gx_fgt (ls' := [.ref 50, .null, .int a2, .ref 102, .int s0, .int a5, .int a6, .null, .null]) ⟨Or.inr rfl, Or.inl rfl, Or.inr rfl, Or.inr rfl, Or.inr rfl, Or.inr rfl, Or.inr rfl, Or.inl rfl, Or.inl rfl, trivial⟩ (hK161 a2 102 s0 a5 a6 σ (Or.inr (Or.inr (Or.inr rfl))) hf))
set_option maxHeartbeats 16000000 in
set_option maxRecDepth 20000 in
theorem vv_La_valueOf_98 (D : Nat) (hD : 2 ≤ D + 1) (rr : Int32) (σ' : gx_R) (K161 : Int32 → Nat → Int32 → Int32 → Int32 → gx_R → Option (Int32 × gx_R)) (hK161 : ∀ (a2 : Int32) (b3 : Nat) (a4 : Int32) (a5 : Int32) (a6 : Int32) (σ : gx_R), (b3 = 81 ∨ b3 = 88 ∨ b3 = 95 ∨ b3 = 102) → K161 a2 b3 a4 a5 a6 σ = some (rr, σ') → gx_Ev lay0 (E0 D) tt_32 (some (.int rr)) σ' 161 [.ref 50, .null, .int a2, .ref b3, .int a4, .int a5, .int a6, .null, .null] [] σ) (a2 : Int32) (b3 : Nat) (a5 : Int32) (a6 : Int32) (s0 : Int32) (σ : gx_R) (hb3 : b3 = 81 ∨ b3 = 88 ∨ b3 = 95 ∨ b3 = 102) (hf : La_valueOf_98 K161 a2 b3 a5 a6 s0 σ = some (rr, σ')) : gx_Ev lay0 (E0 D) tt_32 (some (.int rr)) σ' 98 [.ref 50, .null, .int a2, .ref b3, .null, .int a5, .int a6, .null, .null] [.int s0] σ := by
  rcases hb3 with rfl | rfl | rfl | rfl
  · exact vv_La_valueOf_98_81 D hD rr σ'  K161 hK161 a2 a5 a6 s0 σ hf
  · exact vv_La_valueOf_98_88 D hD rr σ'  K161 hK161 a2 a5 a6 s0 σ hf
  · exact vv_La_valueOf_98_95 D hD rr σ'  K161 hK161 a2 a5 a6 s0 σ hf
  · exact vv_La_valueOf_98_102 D hD rr σ'  K161 hK161 a2 a5 a6 s0 σ hf
set_option maxHeartbeats 16000000 in
set_option maxRecDepth 20000 in
theorem vv_La_valueOf_139_81 (D : Nat) (hD : 2 ≤ D + 1) (rr : Int32) (σ' : gx_R) (K161 : Int32 → Nat → Int32 → Int32 → Int32 → gx_R → Option (Int32 × gx_R)) (hK161 : ∀ (a2 : Int32) (b3 : Nat) (a4 : Int32) (a5 : Int32) (a6 : Int32) (σ : gx_R), (b3 = 81 ∨ b3 = 88 ∨ b3 = 95 ∨ b3 = 102) → K161 a2 b3 a4 a5 a6 σ = some (rr, σ') → gx_Ev lay0 (E0 D) tt_32 (some (.int rr)) σ' 161 [.ref 50, .null, .int a2, .ref b3, .int a4, .int a5, .int a6, .null, .null] [] σ) (a2 : Int32) (a4 : Int32) (a5 : Int32) (a6 : Int32) (a8 : Int32) (σ : gx_R) (hf : La_valueOf_139 K161 a2 81 a4 a5 a6 a8 σ = some (rr, σ')) : gx_Ev lay0 (E0 D) tt_32 (some (.int rr)) σ' 139 [.ref 50, .null, .int a2, .ref 81, .int a4, .int a5, .int a6, .null, .int a8] [] σ := by
  unfold La_valueOf_139 at hf
  rcases z_if_inv hf with ⟨h1, hf⟩ | ⟨h1, hf⟩
  · exact gx_go_ 3 [.inl 1] [a5 ≤ (1 : Int32)] 161 [.ref 50, .null, .int a2, .ref 81, .int a4, .int a5, .int a6, .null, .int a8] [] σ rfl ⟨h1, trivial⟩ (gx_fgt (ls' := [.ref 50, .null, .int a2, .ref 81, .int a4, .int a5, .int a6, .null, .null]) ⟨Or.inr rfl, Or.inl rfl, Or.inr rfl, Or.inr rfl, Or.inr rfl, Or.inr rfl, Or.inr rfl, Or.inl rfl, Or.inl rfl, trivial⟩ (hK161 a2 81 a4 a5 a6 σ (Or.inl rfl) hf))
  · obtain ⟨h2, hf⟩ := z_ck_inv hf
    obtain ⟨h3, hf⟩ := z_ck_inv hf
    obtain ⟨r4, σ5, h6, hf⟩ := z_bd_inv hf
    obtain ⟨h7, hf⟩ := z_ck_inv hf
    exact gx_go_ 22 [.inl 0, .inr (some (.int r4), σ5)] [¬ (a5 ≤ (1 : Int32)), vp_in ((a5 + (-1)) - (1 : Int32)) 64, vp_in (a5 + (-1)) 64, E0 D 33 [.int a8, .int (σ 52 (((a5 + (-1)) - (1 : Int32)).toNatClampNeg)), .int (σ 52 ((a5 + (-1)).toNatClampNeg))] σ (some (.int r4)) σ5, vp_in ((a5 + (-1)) - (1 : Int32)) 64] 161 [.ref 50, .null, .int a2, .ref 81, .int a4, .int (a5 + (-1)), .int a6, .null, .int a8] [] (gx_up σ5 52 ((a5 + (-1)) - (1 : Int32)).toNatClampNeg r4) rfl ⟨h1, (z_ix_in h2), (z_ix_in h3), (ww_La_joined D (by omega) a8 (σ 52 (((a5 + (-1)) - (1 : Int32)).toNatClampNeg)) (σ 52 ((a5 + (-1)).toNatClampNeg)) σ r4 σ5 h6), (z_ix_in h7), trivial⟩ (gx_fgt (ls' := [.ref 50, .null, .int a2, .ref 81, .int a4, .int (a5 + (-1)), .int a6, .null, .null]) ⟨Or.inr rfl, Or.inl rfl, Or.inr rfl, Or.inr rfl, Or.inr rfl, Or.inr rfl, Or.inr rfl, Or.inl rfl, Or.inl rfl, trivial⟩ (hK161 a2 81 a4 (a5 + (-1)) a6 (gx_up σ5 52 ((a5 + (-1)) - (1 : Int32)).toNatClampNeg r4) (Or.inl rfl) hf))
set_option maxHeartbeats 16000000 in
set_option maxRecDepth 20000 in
theorem vv_La_valueOf_139_88 (D : Nat) (hD : 2 ≤ D + 1) (rr : Int32) (σ' : gx_R) (K161 : Int32 → Nat → Int32 → Int32 → Int32 → gx_R → Option (Int32 × gx_R)) (hK161 : ∀ (a2 : Int32) (b3 : Nat) (a4 : Int32) (a5 : Int32) (a6 : Int32) (σ : gx_R), (b3 = 81 ∨ b3 = 88 ∨ b3 = 95 ∨ b3 = 102) → K161 a2 b3 a4 a5 a6 σ = some (rr, σ') → gx_Ev lay0 (E0 D) tt_32 (some (.int rr)) σ' 161 [.ref 50, .null, .int a2, .ref b3, .int a4, .int a5, .int a6, .null, .null] [] σ) (a2 : Int32) (a4 : Int32) (a5 : Int32) (a6 : Int32) (a8 : Int32) (σ : gx_R) (hf : La_valueOf_139 K161 a2 88 a4 a5 a6 a8 σ = some (rr, σ')) : gx_Ev lay0 (E0 D) tt_32 (some (.int rr)) σ' 139 [.ref 50, .null, .int a2, .ref 88, .int a4, .int a5, .int a6, .null, .int a8] [] σ := by
  unfold La_valueOf_139 at hf
  rcases z_if_inv hf with ⟨h1, hf⟩ | ⟨h1, hf⟩
  · exact gx_go_ 3 [.inl 1] [a5 ≤ (1 : Int32)] 161 [.ref 50, .null, .int a2, .ref 88, .int a4, .int a5, .int a6, .null, .int a8] [] σ rfl ⟨h1, trivial⟩ (gx_fgt (ls' := [.ref 50, .null, .int a2, .ref 88, .int a4, .int a5, .int a6, .null, .null]) ⟨Or.inr rfl, Or.inl rfl, Or.inr rfl, Or.inr rfl, Or.inr rfl, Or.inr rfl, Or.inr rfl, Or.inl rfl, Or.inl rfl, trivial⟩ (hK161 a2 88 a4 a5 a6 σ (Or.inr (Or.inl rfl)) hf))
  · obtain ⟨h2, hf⟩ := z_ck_inv hf
    obtain ⟨h3, hf⟩ := z_ck_inv hf
    obtain ⟨r4, σ5, h6, hf⟩ := z_bd_inv hf
    obtain ⟨h7, hf⟩ := z_ck_inv hf
    exact gx_go_ 22 [.inl 0, .inr (some (.int r4), σ5)] [¬ (a5 ≤ (1 : Int32)), vp_in ((a5 + (-1)) - (1 : Int32)) 64, vp_in (a5 + (-1)) 64, E0 D 33 [.int a8, .int (σ 52 (((a5 + (-1)) - (1 : Int32)).toNatClampNeg)), .int (σ 52 ((a5 + (-1)).toNatClampNeg))] σ (some (.int r4)) σ5, vp_in ((a5 + (-1)) - (1 : Int32)) 64] 161 [.ref 50, .null, .int a2, .ref 88, .int a4, .int (a5 + (-1)), .int a6, .null, .int a8] [] (gx_up σ5 52 ((a5 + (-1)) - (1 : Int32)).toNatClampNeg r4) rfl ⟨h1, (z_ix_in h2), (z_ix_in h3), (ww_La_joined D (by omega) a8 (σ 52 (((a5 + (-1)) - (1 : Int32)).toNatClampNeg)) (σ 52 ((a5 + (-1)).toNatClampNeg)) σ r4 σ5 h6), (z_ix_in h7), trivial⟩ (gx_fgt (ls' := [.ref 50, .null, .int a2, .ref 88, .int a4, .int (a5 + (-1)), .int a6, .null, .null]) ⟨Or.inr rfl, Or.inl rfl, Or.inr rfl, Or.inr rfl, Or.inr rfl, Or.inr rfl, Or.inr rfl, Or.inl rfl, Or.inl rfl, trivial⟩ (hK161 a2 88 a4 (a5 + (-1)) a6 (gx_up σ5 52 ((a5 + (-1)) - (1 : Int32)).toNatClampNeg r4) (Or.inr (Or.inl rfl)) hf))
set_option maxHeartbeats 16000000 in
set_option maxRecDepth 20000 in
theorem vv_La_valueOf_139_95 (D : Nat) (hD : 2 ≤ D + 1) (rr : Int32) (σ' : gx_R) (K161 : Int32 → Nat → Int32 → Int32 → Int32 → gx_R → Option (Int32 × gx_R)) (hK161 : ∀ (a2 : Int32) (b3 : Nat) (a4 : Int32) (a5 : Int32) (a6 : Int32) (σ : gx_R), (b3 = 81 ∨ b3 = 88 ∨ b3 = 95 ∨ b3 = 102) → K161 a2 b3 a4 a5 a6 σ = some (rr, σ') → gx_Ev lay0 (E0 D) tt_32 (some (.int rr)) σ' 161 [.ref 50, .null, .int a2, .ref b3, .int a4, .int a5, .int a6, .null, .null] [] σ) (a2 : Int32) (a4 : Int32) (a5 : Int32) (a6 : Int32) (a8 : Int32) (σ : gx_R) (hf : La_valueOf_139 K161 a2 95 a4 a5 a6 a8 σ = some (rr, σ')) : gx_Ev lay0 (E0 D) tt_32 (some (.int rr)) σ' 139 [.ref 50, .null, .int a2, .ref 95, .int a4, .int a5, .int a6, .null, .int a8] [] σ := by
  unfold La_valueOf_139 at hf
  rcases z_if_inv hf with ⟨h1, hf⟩ | ⟨h1, hf⟩
  · exact gx_go_ 3 [.inl 1] [a5 ≤ (1 : Int32)] 161 [.ref 50, .null, .int a2, .ref 95, .int a4, .int a5, .int a6, .null, .int a8] [] σ rfl ⟨h1, trivial⟩ (gx_fgt (ls' := [.ref 50, .null, .int a2, .ref 95, .int a4, .int a5, .int a6, .null, .null]) ⟨Or.inr rfl, Or.inl rfl, Or.inr rfl, Or.inr rfl, Or.inr rfl, Or.inr rfl, Or.inr rfl, Or.inl rfl, Or.inl rfl, trivial⟩ (hK161 a2 95 a4 a5 a6 σ (Or.inr (Or.inr (Or.inl rfl))) hf))
  · obtain ⟨h2, hf⟩ := z_ck_inv hf
    obtain ⟨h3, hf⟩ := z_ck_inv hf
    obtain ⟨r4, σ5, h6, hf⟩ := z_bd_inv hf
    obtain ⟨h7, hf⟩ := z_ck_inv hf
    exact gx_go_ 22 [.inl 0, .inr (some (.int r4), σ5)] [¬ (a5 ≤ (1 : Int32)), vp_in ((a5 + (-1)) - (1 : Int32)) 64, vp_in (a5 + (-1)) 64, E0 D 33 [.int a8, .int (σ 52 (((a5 + (-1)) - (1 : Int32)).toNatClampNeg)), .int (σ 52 ((a5 + (-1)).toNatClampNeg))] σ (some (.int r4)) σ5, vp_in ((a5 + (-1)) - (1 : Int32)) 64] 161 [.ref 50, .null, .int a2, .ref 95, .int a4, .int (a5 + (-1)), .int a6, .null, .int a8] [] (gx_up σ5 52 ((a5 + (-1)) - (1 : Int32)).toNatClampNeg r4) rfl ⟨h1, (z_ix_in h2), (z_ix_in h3), (ww_La_joined D (by omega) a8 (σ 52 (((a5 + (-1)) - (1 : Int32)).toNatClampNeg)) (σ 52 ((a5 + (-1)).toNatClampNeg)) σ r4 σ5 h6), (z_ix_in h7), trivial⟩ (gx_fgt (ls' := [.ref 50, .null, .int a2, .ref 95, .int a4, .int (a5 + (-1)), .int a6, .null, .null]) ⟨Or.inr rfl, Or.inl rfl, Or.inr rfl, Or.inr rfl, Or.inr rfl, Or.inr rfl, Or.inr rfl, Or.inl rfl, Or.inl rfl, trivial⟩ (hK161 a2 95 a4 (a5 + (-1)) a6 (gx_up σ5 52 ((a5 + (-1)) - (1 : Int32)).toNatClampNeg r4) (Or.inr (Or.inr (Or.inl rfl))) hf))
set_option maxHeartbeats 16000000 in
set_option maxRecDepth 20000 in
theorem vv_La_valueOf_139_102 (D : Nat) (hD : 2 ≤ D + 1) (rr : Int32) (σ' : gx_R) (K161 : Int32 → Nat → Int32 → Int32 → Int32 → gx_R → Option (Int32 × gx_R)) (hK161 : ∀ (a2 : Int32) (b3 : Nat) (a4 : Int32) (a5 : Int32) (a6 : Int32) (σ : gx_R), (b3 = 81 ∨ b3 = 88 ∨ b3 = 95 ∨ b3 = 102) → K161 a2 b3 a4 a5 a6 σ = some (rr, σ') → gx_Ev lay0 (E0 D) tt_32 (some (.int rr)) σ' 161 [.ref 50, .null, .int a2, .ref b3, .int a4, .int a5, .int a6, .null, .null] [] σ) (a2 : Int32) (a4 : Int32) (a5 : Int32) (a6 : Int32) (a8 : Int32) (σ : gx_R) (hf : La_valueOf_139 K161 a2 102 a4 a5 a6 a8 σ = some (rr, σ')) : gx_Ev lay0 (E0 D) tt_32 (some (.int rr)) σ' 139 [.ref 50, .null, .int a2, .ref 102, .int a4, .int a5, .int a6, .null, .int a8] [] σ := by
  unfold La_valueOf_139 at hf
  rcases z_if_inv hf with ⟨h1, hf⟩ | ⟨h1, hf⟩
  · exact gx_go_ 3 [.inl 1] [a5 ≤ (1 : Int32)] 161 [.ref 50, .null, .int a2, .ref 102, .int a4, .int a5, .int a6, .null, .int a8] [] σ rfl ⟨h1, trivial⟩ (gx_fgt (ls' := [.ref 50, .null, .int a2, .ref 102, .int a4, .int a5, .int a6, .null, .null]) ⟨Or.inr rfl, Or.inl rfl, Or.inr rfl, Or.inr rfl, Or.inr rfl, Or.inr rfl, Or.inr rfl, Or.inl rfl, Or.inl rfl, trivial⟩ (hK161 a2 102 a4 a5 a6 σ (Or.inr (Or.inr (Or.inr rfl))) hf))
  · obtain ⟨h2, hf⟩ := z_ck_inv hf
    obtain ⟨h3, hf⟩ := z_ck_inv hf
    obtain ⟨r4, σ5, h6, hf⟩ := z_bd_inv hf
    obtain ⟨h7, hf⟩ := z_ck_inv hf
    exact gx_go_ 22 [.inl 0, .inr (some (.int r4), σ5)] [¬ (a5 ≤ (1 : Int32)), vp_in ((a5 + (-1)) - (1 : Int32)) 64, vp_in (a5 + (-1)) 64, E0 D 33 [.int a8, .int (σ 52 (((a5 + (-1)) - (1 : Int32)).toNatClampNeg)), .int (σ 52 ((a5 + (-1)).toNatClampNeg))] σ (some (.int r4)) σ5, vp_in ((a5 + (-1)) - (1 : Int32)) 64] 161 [.ref 50, .null, .int a2, .ref 102, .int a4, .int (a5 + (-1)), .int a6, .null, .int a8] [] (gx_up σ5 52 ((a5 + (-1)) - (1 : Int32)).toNatClampNeg r4) rfl ⟨h1, (z_ix_in h2), (z_ix_in h3), (ww_La_joined D (by omega) a8 (σ 52 (((a5 + (-1)) - (1 : Int32)).toNatClampNeg)) (σ 52 ((a5 + (-1)).toNatClampNeg)) σ r4 σ5 h6), (z_ix_in h7), trivial⟩ (gx_fgt (ls' := [.ref 50, .null, .int a2, .ref 102, .int a4, .int (a5 + (-1)), .int a6, .null, .null]) ⟨Or.inr rfl, Or.inl rfl, Or.inr rfl, Or.inr rfl, Or.inr rfl, Or.inr rfl, Or.inr rfl, Or.inl rfl, Or.inl rfl, trivial⟩ (hK161 a2 102 a4 (a5 + (-1)) a6 (gx_up σ5 52 ((a5 + (-1)) - (1 : Int32)).toNatClampNeg r4) (Or.inr (Or.inr (Or.inr rfl))) hf))
set_option maxHeartbeats 16000000 in
set_option maxRecDepth 20000 in
theorem vv_La_valueOf_139 (D : Nat) (hD : 2 ≤ D + 1) (rr : Int32) (σ' : gx_R) (K161 : Int32 → Nat → Int32 → Int32 → Int32 → gx_R → Option (Int32 × gx_R)) (hK161 : ∀ (a2 : Int32) (b3 : Nat) (a4 : Int32) (a5 : Int32) (a6 : Int32) (σ : gx_R), (b3 = 81 ∨ b3 = 88 ∨ b3 = 95 ∨ b3 = 102) → K161 a2 b3 a4 a5 a6 σ = some (rr, σ') → gx_Ev lay0 (E0 D) tt_32 (some (.int rr)) σ' 161 [.ref 50, .null, .int a2, .ref b3, .int a4, .int a5, .int a6, .null, .null] [] σ) (a2 : Int32) (b3 : Nat) (a4 : Int32) (a5 : Int32) (a6 : Int32) (a8 : Int32) (σ : gx_R) (hb3 : b3 = 81 ∨ b3 = 88 ∨ b3 = 95 ∨ b3 = 102) (hf : La_valueOf_139 K161 a2 b3 a4 a5 a6 a8 σ = some (rr, σ')) : gx_Ev lay0 (E0 D) tt_32 (some (.int rr)) σ' 139 [.ref 50, .null, .int a2, .ref b3, .int a4, .int a5, .int a6, .null, .int a8] [] σ := by
  rcases hb3 with rfl | rfl | rfl | rfl
  · exact vv_La_valueOf_139_81 D hD rr σ'  K161 hK161 a2 a4 a5 a6 a8 σ hf
  · exact vv_La_valueOf_139_88 D hD rr σ'  K161 hK161 a2 a4 a5 a6 a8 σ hf
  · exact vv_La_valueOf_139_95 D hD rr σ'  K161 hK161 a2 a4 a5 a6 a8 σ hf
  · exact vv_La_valueOf_139_102 D hD rr σ'  K161 hK161 a2 a4 a5 a6 a8 σ hf
set_option maxHeartbeats 16000000 in
set_option maxRecDepth 20000 in
theorem vv_La_valueOf_119_81 (D : Nat) (hD : 2 ≤ D + 1) (rr : Int32) (σ' : gx_R) (K161 : Int32 → Nat → Int32 → Int32 → Int32 → gx_R → Option (Int32 × gx_R)) (hK161 : ∀ (a2 : Int32) (b3 : Nat) (a4 : Int32) (a5 : Int32) (a6 : Int32) (σ : gx_R), (b3 = 81 ∨ b3 = 88 ∨ b3 = 95 ∨ b3 = 102) → K161 a2 b3 a4 a5 a6 σ = some (rr, σ') → gx_Ev lay0 (E0 D) tt_32 (some (.int rr)) σ' 161 [.ref 50, .null, .int a2, .ref b3, .int a4, .int a5, .int a6, .null, .null] [] σ) (a2 : Int32) (a4 : Int32) (a5 : Int32) (a6 : Int32) (a8 : Int32) (σ : gx_R) (hf : La_valueOf_119 K161 a2 81 a4 a5 a6 a8 σ = some (rr, σ')) : gx_Ev lay0 (E0 D) tt_32 (some (.int rr)) σ' 119 [.ref 50, .null, .int a2, .ref 81, .int a4, .int a5, .int a6, .null, .int a8] [] σ := by
  unfold La_valueOf_119 at hf
  rcases z_if_inv hf with ⟨h1, hf⟩ | ⟨h1, hf⟩
  · rcases z_if_inv hf with ⟨h2, hf⟩ | ⟨h2, hf⟩
    · exact gx_go_ 5 [.inl 0, .inl 1] [¬ ¬ (a8 = (20 : Int32)), a5 ≤ 0] 139 [.ref 50, .null, .int a2, .ref 81, .int a4, .int a5, .int a6, .null, .int a8] [] σ rfl ⟨(fun q => q h1), h2, trivial⟩ (gx_fgt (ls' := [.ref 50, .null, .int a2, .ref 81, .int a4, .int a5, .int a6, .null, .int a8]) ⟨Or.inr rfl, Or.inl rfl, Or.inr rfl, Or.inr rfl, Or.inr rfl, Or.inr rfl, Or.inr rfl, Or.inl rfl, Or.inr rfl, trivial⟩ (vv_La_valueOf_139 D hD rr σ' K161 hK161 a2 81 a4 a5 a6 a8 σ (Or.inl rfl) hf))
    · obtain ⟨h3, hf⟩ := z_ck_inv hf
      obtain ⟨h4, hf⟩ := z_ck_inv hf
      exact gx_go_ 20 [.inl 0, .inl 0] [¬ ¬ (a8 = (20 : Int32)), ¬ (a5 ≤ 0), vp_in (a5 - (1 : Int32)) 64, vp_in (a5 - (1 : Int32)) 64] 161 [.ref 50, .null, .int a2, .ref 81, .int a4, .int a5, .int a6, .null, .int a8] [] (gx_up σ 52 (a5 - (1 : Int32)).toNatClampNeg ((1 : Int32) - (σ 52 ((a5 - (1 : Int32)).toNatClampNeg)))) rfl ⟨(fun q => q h1), h2, (z_ix_in h3), (z_ix_in h4), trivial⟩ (gx_fgt (ls' := [.ref 50, .null, .int a2, .ref 81, .int a4, .int a5, .int a6, .null, .null]) ⟨Or.inr rfl, Or.inl rfl, Or.inr rfl, Or.inr rfl, Or.inr rfl, Or.inr rfl, Or.inr rfl, Or.inl rfl, Or.inl rfl, trivial⟩ (hK161 a2 81 a4 a5 a6 (gx_up σ 52 (a5 - (1 : Int32)).toNatClampNeg ((1 : Int32) - (σ 52 ((a5 - (1 : Int32)).toNatClampNeg)))) (Or.inl rfl) hf))
  · exact gx_go_ 3 [.inl 1] [¬ (a8 = (20 : Int32))] 139 [.ref 50, .null, .int a2, .ref 81, .int a4, .int a5, .int a6, .null, .int a8] [] σ rfl ⟨h1, trivial⟩ (gx_fgt (ls' := [.ref 50, .null, .int a2, .ref 81, .int a4, .int a5, .int a6, .null, .int a8]) ⟨Or.inr rfl, Or.inl rfl, Or.inr rfl, Or.inr rfl, Or.inr rfl, Or.inr rfl, Or.inr rfl, Or.inl rfl, Or.inr rfl, trivial⟩ (vv_La_valueOf_139 D hD rr σ' K161 hK161 a2 81 a4 a5 a6 a8 σ (Or.inl rfl) hf))
set_option maxHeartbeats 16000000 in
set_option maxRecDepth 20000 in
theorem vv_La_valueOf_119_88 (D : Nat) (hD : 2 ≤ D + 1) (rr : Int32) (σ' : gx_R) (K161 : Int32 → Nat → Int32 → Int32 → Int32 → gx_R → Option (Int32 × gx_R)) (hK161 : ∀ (a2 : Int32) (b3 : Nat) (a4 : Int32) (a5 : Int32) (a6 : Int32) (σ : gx_R), (b3 = 81 ∨ b3 = 88 ∨ b3 = 95 ∨ b3 = 102) → K161 a2 b3 a4 a5 a6 σ = some (rr, σ') → gx_Ev lay0 (E0 D) tt_32 (some (.int rr)) σ' 161 [.ref 50, .null, .int a2, .ref b3, .int a4, .int a5, .int a6, .null, .null] [] σ) (a2 : Int32) (a4 : Int32) (a5 : Int32) (a6 : Int32) (a8 : Int32) (σ : gx_R) (hf : La_valueOf_119 K161 a2 88 a4 a5 a6 a8 σ = some (rr, σ')) : gx_Ev lay0 (E0 D) tt_32 (some (.int rr)) σ' 119 [.ref 50, .null, .int a2, .ref 88, .int a4, .int a5, .int a6, .null, .int a8] [] σ := by
  unfold La_valueOf_119 at hf
  rcases z_if_inv hf with ⟨h1, hf⟩ | ⟨h1, hf⟩
  · rcases z_if_inv hf with ⟨h2, hf⟩ | ⟨h2, hf⟩
    · exact gx_go_ 5 [.inl 0, .inl 1] [¬ ¬ (a8 = (20 : Int32)), a5 ≤ 0] 139 [.ref 50, .null, .int a2, .ref 88, .int a4, .int a5, .int a6, .null, .int a8] [] σ rfl ⟨(fun q => q h1), h2, trivial⟩ (gx_fgt (ls' := [.ref 50, .null, .int a2, .ref 88, .int a4, .int a5, .int a6, .null, .int a8]) ⟨Or.inr rfl, Or.inl rfl, Or.inr rfl, Or.inr rfl, Or.inr rfl, Or.inr rfl, Or.inr rfl, Or.inl rfl, Or.inr rfl, trivial⟩ (vv_La_valueOf_139 D hD rr σ' K161 hK161 a2 88 a4 a5 a6 a8 σ (Or.inr (Or.inl rfl)) hf))
    · obtain ⟨h3, hf⟩ := z_ck_inv hf
      obtain ⟨h4, hf⟩ := z_ck_inv hf
      exact gx_go_ 20 [.inl 0, .inl 0] [¬ ¬ (a8 = (20 : Int32)), ¬ (a5 ≤ 0), vp_in (a5 - (1 : Int32)) 64, vp_in (a5 - (1 : Int32)) 64] 161 [.ref 50, .null, .int a2, .ref 88, .int a4, .int a5, .int a6, .null, .int a8] [] (gx_up σ 52 (a5 - (1 : Int32)).toNatClampNeg ((1 : Int32) - (σ 52 ((a5 - (1 : Int32)).toNatClampNeg)))) rfl ⟨(fun q => q h1), h2, (z_ix_in h3), (z_ix_in h4), trivial⟩ (gx_fgt (ls' := [.ref 50, .null, .int a2, .ref 88, .int a4, .int a5, .int a6, .null, .null]) ⟨Or.inr rfl, Or.inl rfl, Or.inr rfl, Or.inr rfl, Or.inr rfl, Or.inr rfl, Or.inr rfl, Or.inl rfl, Or.inl rfl, trivial⟩ (hK161 a2 88 a4 a5 a6 (gx_up σ 52 (a5 - (1 : Int32)).toNatClampNeg ((1 : Int32) - (σ 52 ((a5 - (1 : Int32)).toNatClampNeg)))) (Or.inr (Or.inl rfl)) hf))
  · exact gx_go_ 3 [.inl 1] [¬ (a8 = (20 : Int32))] 139 [.ref 50, .null, .int a2, .ref 88, .int a4, .int a5, .int a6, .null, .int a8] [] σ rfl ⟨h1, trivial⟩ (gx_fgt (ls' := [.ref 50, .null, .int a2, .ref 88, .int a4, .int a5, .int a6, .null, .int a8]) ⟨Or.inr rfl, Or.inl rfl, Or.inr rfl, Or.inr rfl, Or.inr rfl, Or.inr rfl, Or.inr rfl, Or.inl rfl, Or.inr rfl, trivial⟩ (vv_La_valueOf_139 D hD rr σ' K161 hK161 a2 88 a4 a5 a6 a8 σ (Or.inr (Or.inl rfl)) hf))
set_option maxHeartbeats 16000000 in
set_option maxRecDepth 20000 in
theorem vv_La_valueOf_119_95 (D : Nat) (hD : 2 ≤ D + 1) (rr : Int32) (σ' : gx_R) (K161 : Int32 → Nat → Int32 → Int32 → Int32 → gx_R → Option (Int32 × gx_R)) (hK161 : ∀ (a2 : Int32) (b3 : Nat) (a4 : Int32) (a5 : Int32) (a6 : Int32) (σ : gx_R), (b3 = 81 ∨ b3 = 88 ∨ b3 = 95 ∨ b3 = 102) → K161 a2 b3 a4 a5 a6 σ = some (rr, σ') → gx_Ev lay0 (E0 D) tt_32 (some (.int rr)) σ' 161 [.ref 50, .null, .int a2, .ref b3, .int a4, .int a5, .int a6, .null, .null] [] σ) (a2 : Int32) (a4 : Int32) (a5 : Int32) (a6 : Int32) (a8 : Int32) (σ : gx_R) (hf : La_valueOf_119 K161 a2 95 a4 a5 a6 a8 σ = some (rr, σ')) : gx_Ev lay0 (E0 D) tt_32 (some (.int rr)) σ' 119 [.ref 50, .null, .int a2, .ref 95, .int a4, .int a5, .int a6, .null, .int a8] [] σ := by
  unfold La_valueOf_119 at hf
  rcases z_if_inv hf with ⟨h1, hf⟩ | ⟨h1, hf⟩
  · rcases z_if_inv hf with ⟨h2, hf⟩ | ⟨h2, hf⟩
    · exact gx_go_ 5 [.inl 0, .inl 1] [¬ ¬ (a8 = (20 : Int32)), a5 ≤ 0] 139 [.ref 50, .null, .int a2, .ref 95, .int a4, .int a5, .int a6, .null, .int a8] [] σ rfl ⟨(fun q => q h1), h2, trivial⟩ (gx_fgt (ls' := [.ref 50, .null, .int a2, .ref 95, .int a4, .int a5, .int a6, .null, .int a8]) ⟨Or.inr rfl, Or.inl rfl, Or.inr rfl, Or.inr rfl, Or.inr rfl, Or.inr rfl, Or.inr rfl, Or.inl rfl, Or.inr rfl, trivial⟩ (vv_La_valueOf_139 D hD rr σ' K161 hK161 a2 95 a4 a5 a6 a8 σ (Or.inr (Or.inr (Or.inl rfl))) hf))
    · obtain ⟨h3, hf⟩ := z_ck_inv hf
      obtain ⟨h4, hf⟩ := z_ck_inv hf
      exact gx_go_ 20 [.inl 0, .inl 0] [¬ ¬ (a8 = (20 : Int32)), ¬ (a5 ≤ 0), vp_in (a5 - (1 : Int32)) 64, vp_in (a5 - (1 : Int32)) 64] 161 [.ref 50, .null, .int a2, .ref 95, .int a4, .int a5, .int a6, .null, .int a8] [] (gx_up σ 52 (a5 - (1 : Int32)).toNatClampNeg ((1 : Int32) - (σ 52 ((a5 - (1 : Int32)).toNatClampNeg)))) rfl ⟨(fun q => q h1), h2, (z_ix_in h3), (z_ix_in h4), trivial⟩ (gx_fgt (ls' := [.ref 50, .null, .int a2, .ref 95, .int a4, .int a5, .int a6, .null, .null]) ⟨Or.inr rfl, Or.inl rfl, Or.inr rfl, Or.inr rfl, Or.inr rfl, Or.inr rfl, Or.inr rfl, Or.inl rfl, Or.inl rfl, trivial⟩ (hK161 a2 95 a4 a5 a6 (gx_up σ 52 (a5 - (1 : Int32)).toNatClampNeg ((1 : Int32) - (σ 52 ((a5 - (1 : Int32)).toNatClampNeg)))) (Or.inr (Or.inr (Or.inl rfl))) hf))
  · exact gx_go_ 3 [.inl 1] [¬ (a8 = (20 : Int32))] 139 [.ref 50, .null, .int a2, .ref 95, .int a4, .int a5, .int a6, .null, .int a8] [] σ rfl ⟨h1, trivial⟩ (gx_fgt (ls' := [.ref 50, .null, .int a2, .ref 95, .int a4, .int a5, .int a6, .null, .int a8]) ⟨Or.inr rfl, Or.inl rfl, Or.inr rfl, Or.inr rfl, Or.inr rfl, Or.inr rfl, Or.inr rfl, Or.inl rfl, Or.inr rfl, trivial⟩ (vv_La_valueOf_139 D hD rr σ' K161 hK161 a2 95 a4 a5 a6 a8 σ (Or.inr (Or.inr (Or.inl rfl))) hf))
set_option maxHeartbeats 16000000 in
set_option maxRecDepth 20000 in
theorem vv_La_valueOf_119_102 (D : Nat) (hD : 2 ≤ D + 1) (rr : Int32) (σ' : gx_R) (K161 : Int32 → Nat → Int32 → Int32 → Int32 → gx_R → Option (Int32 × gx_R)) (hK161 : ∀ (a2 : Int32) (b3 : Nat) (a4 : Int32) (a5 : Int32) (a6 : Int32) (σ : gx_R), (b3 = 81 ∨ b3 = 88 ∨ b3 = 95 ∨ b3 = 102) → K161 a2 b3 a4 a5 a6 σ = some (rr, σ') → gx_Ev lay0 (E0 D) tt_32 (some (.int rr)) σ' 161 [.ref 50, .null, .int a2, .ref b3, .int a4, .int a5, .int a6, .null, .null] [] σ) (a2 : Int32) (a4 : Int32) (a5 : Int32) (a6 : Int32) (a8 : Int32) (σ : gx_R) (hf : La_valueOf_119 K161 a2 102 a4 a5 a6 a8 σ = some (rr, σ')) : gx_Ev lay0 (E0 D) tt_32 (some (.int rr)) σ' 119 [.ref 50, .null, .int a2, .ref 102, .int a4, .int a5, .int a6, .null, .int a8] [] σ := by
  unfold La_valueOf_119 at hf
  rcases z_if_inv hf with ⟨h1, hf⟩ | ⟨h1, hf⟩
  · rcases z_if_inv hf with ⟨h2, hf⟩ | ⟨h2, hf⟩
    · exact gx_go_ 5 [.inl 0, .inl 1] [¬ ¬ (a8 = (20 : Int32)), a5 ≤ 0] 139 [.ref 50, .null, .int a2, .ref 102, .int a4, .int a5, .int a6, .null, .int a8] [] σ rfl ⟨(fun q => q h1), h2, trivial⟩ (gx_fgt (ls' := [.ref 50, .null, .int a2, .ref 102, .int a4, .int a5, .int a6, .null, .int a8]) ⟨Or.inr rfl, Or.inl rfl, Or.inr rfl, Or.inr rfl, Or.inr rfl, Or.inr rfl, Or.inr rfl, Or.inl rfl, Or.inr rfl, trivial⟩ (vv_La_valueOf_139 D hD rr σ' K161 hK161 a2 102 a4 a5 a6 a8 σ (Or.inr (Or.inr (Or.inr rfl))) hf))
    · obtain ⟨h3, hf⟩ := z_ck_inv hf
      obtain ⟨h4, hf⟩ := z_ck_inv hf
      exact gx_go_ 20 [.inl 0, .inl 0] [¬ ¬ (a8 = (20 : Int32)), ¬ (a5 ≤ 0), vp_in (a5 - (1 : Int32)) 64, vp_in (a5 - (1 : Int32)) 64] 161 [.ref 50, .null, .int a2, .ref 102, .int a4, .int a5, .int a6, .null, .int a8] [] (gx_up σ 52 (a5 - (1 : Int32)).toNatClampNeg ((1 : Int32) - (σ 52 ((a5 - (1 : Int32)).toNatClampNeg)))) rfl ⟨(fun q => q h1), h2, (z_ix_in h3), (z_ix_in h4), trivial⟩ (gx_fgt (ls' := [.ref 50, .null, .int a2, .ref 102, .int a4, .int a5, .int a6, .null, .null]) ⟨Or.inr rfl, Or.inl rfl, Or.inr rfl, Or.inr rfl, Or.inr rfl, Or.inr rfl, Or.inr rfl, Or.inl rfl, Or.inl rfl, trivial⟩ (hK161 a2 102 a4 a5 a6 (gx_up σ 52 (a5 - (1 : Int32)).toNatClampNeg ((1 : Int32) - (σ 52 ((a5 - (1 : Int32)).toNatClampNeg)))) (Or.inr (Or.inr (Or.inr rfl))) hf))
  · exact gx_go_ 3 [.inl 1] [¬ (a8 = (20 : Int32))] 139 [.ref 50, .null, .int a2, .ref 102, .int a4, .int a5, .int a6, .null, .int a8] [] σ rfl ⟨h1, trivial⟩ (gx_fgt (ls' := [.ref 50, .null, .int a2, .ref 102, .int a4, .int a5, .int a6, .null, .int a8]) ⟨Or.inr rfl, Or.inl rfl, Or.inr rfl, Or.inr rfl, Or.inr rfl, Or.inr rfl, Or.inr rfl, Or.inl rfl, Or.inr rfl, trivial⟩ (vv_La_valueOf_139 D hD rr σ' K161 hK161 a2 102 a4 a5 a6 a8 σ (Or.inr (Or.inr (Or.inr rfl))) hf))
set_option maxHeartbeats 16000000 in
set_option maxRecDepth 20000 in
theorem vv_La_valueOf_119 (D : Nat) (hD : 2 ≤ D + 1) (rr : Int32) (σ' : gx_R) (K161 : Int32 → Nat → Int32 → Int32 → Int32 → gx_R → Option (Int32 × gx_R)) (hK161 : ∀ (a2 : Int32) (b3 : Nat) (a4 : Int32) (a5 : Int32) (a6 : Int32) (σ : gx_R), (b3 = 81 ∨ b3 = 88 ∨ b3 = 95 ∨ b3 = 102) → K161 a2 b3 a4 a5 a6 σ = some (rr, σ') → gx_Ev lay0 (E0 D) tt_32 (some (.int rr)) σ' 161 [.ref 50, .null, .int a2, .ref b3, .int a4, .int a5, .int a6, .null, .null] [] σ) (a2 : Int32) (b3 : Nat) (a4 : Int32) (a5 : Int32) (a6 : Int32) (a8 : Int32) (σ : gx_R) (hb3 : b3 = 81 ∨ b3 = 88 ∨ b3 = 95 ∨ b3 = 102) (hf : La_valueOf_119 K161 a2 b3 a4 a5 a6 a8 σ = some (rr, σ')) : gx_Ev lay0 (E0 D) tt_32 (some (.int rr)) σ' 119 [.ref 50, .null, .int a2, .ref b3, .int a4, .int a5, .int a6, .null, .int a8] [] σ := by
  rcases hb3 with rfl | rfl | rfl | rfl
  · exact vv_La_valueOf_119_81 D hD rr σ'  K161 hK161 a2 a4 a5 a6 a8 σ hf
  · exact vv_La_valueOf_119_88 D hD rr σ'  K161 hK161 a2 a4 a5 a6 a8 σ hf
  · exact vv_La_valueOf_119_95 D hD rr σ'  K161 hK161 a2 a4 a5 a6 a8 σ hf
  · exact vv_La_valueOf_119_102 D hD rr σ'  K161 hK161 a2 a4 a5 a6 a8 σ hf
set_option maxHeartbeats 16000000 in
set_option maxRecDepth 20000 in
theorem vv_La_valueOf_71_81 (D : Nat) (hD : 2 ≤ D + 1) (rr : Int32) (σ' : gx_R) (K161 : Int32 → Nat → Int32 → Int32 → Int32 → gx_R → Option (Int32 × gx_R)) (hK161 : ∀ (a2 : Int32) (b3 : Nat) (a4 : Int32) (a5 : Int32) (a6 : Int32) (σ : gx_R), (b3 = 81 ∨ b3 = 88 ∨ b3 = 95 ∨ b3 = 102) → K161 a2 b3 a4 a5 a6 σ = some (rr, σ') → gx_Ev lay0 (E0 D) tt_32 (some (.int rr)) σ' 161 [.ref 50, .null, .int a2, .ref b3, .int a4, .int a5, .int a6, .null, .null] [] σ) (a2 : Int32) (a4 : Int32) (a5 : Int32) (a6 : Int32) (s1 : Int32) (s2 : Int32) (σ : gx_R) (hf : La_valueOf_71 K161 a2 81 a4 a5 a6 s1 s2 σ = some (rr, σ')) : gx_Ev lay0 (E0 D) tt_32 (some (.int rr)) σ' 71 [.ref 50, .null, .int a2, .ref 81, .int a4, .int a5, .int a6, .null, .null] [.int s2, .int s1, .ref 52] σ := by
  unfold La_valueOf_71 at hf
  obtain ⟨h1, hf⟩ := z_ck_inv hf
  exact gx_go_ 3 [] [vp_in s1 64] 161 [.ref 50, .null, .int a2, .ref 81, .int a4, .int (a5 + 1), .int a6, .null, .null] [] (gx_up σ 52 s1.toNatClampNeg s2) rfl ⟨(z_ix_in h1), trivial⟩ (gx_fgt (ls' := [.ref 50, .null, .int a2, .ref 81, .int a4, .int (a5 + 1), .int a6, .null, .null]) ⟨Or.inr rfl, Or.inl rfl, Or.inr rfl, Or.inr rfl, Or.inr rfl, Or.inr rfl, Or.inr rfl, Or.inl rfl, Or.inl rfl, trivial⟩ (hK161 a2 81 a4 (a5 + 1) a6 (gx_up σ 52 s1.toNatClampNeg s2) (Or.inl rfl) hf))
set_option maxHeartbeats 16000000 in
set_option maxRecDepth 20000 in
theorem vv_La_valueOf_71_88 (D : Nat) (hD : 2 ≤ D + 1) (rr : Int32) (σ' : gx_R) (K161 : Int32 → Nat → Int32 → Int32 → Int32 → gx_R → Option (Int32 × gx_R)) (hK161 : ∀ (a2 : Int32) (b3 : Nat) (a4 : Int32) (a5 : Int32) (a6 : Int32) (σ : gx_R), (b3 = 81 ∨ b3 = 88 ∨ b3 = 95 ∨ b3 = 102) → K161 a2 b3 a4 a5 a6 σ = some (rr, σ') → gx_Ev lay0 (E0 D) tt_32 (some (.int rr)) σ' 161 [.ref 50, .null, .int a2, .ref b3, .int a4, .int a5, .int a6, .null, .null] [] σ) (a2 : Int32) (a4 : Int32) (a5 : Int32) (a6 : Int32) (s1 : Int32) (s2 : Int32) (σ : gx_R) (hf : La_valueOf_71 K161 a2 88 a4 a5 a6 s1 s2 σ = some (rr, σ')) : gx_Ev lay0 (E0 D) tt_32 (some (.int rr)) σ' 71 [.ref 50, .null, .int a2, .ref 88, .int a4, .int a5, .int a6, .null, .null] [.int s2, .int s1, .ref 52] σ := by
  unfold La_valueOf_71 at hf
  obtain ⟨h1, hf⟩ := z_ck_inv hf
  exact gx_go_ 3 [] [vp_in s1 64] 161 [.ref 50, .null, .int a2, .ref 88, .int a4, .int (a5 + 1), .int a6, .null, .null] [] (gx_up σ 52 s1.toNatClampNeg s2) rfl ⟨(z_ix_in h1), trivial⟩ (gx_fgt (ls' := [.ref 50, .null, .int a2, .ref 88, .int a4, .int (a5 + 1), .int a6, .null, .null]) ⟨Or.inr rfl, Or.inl rfl, Or.inr rfl, Or.inr rfl, Or.inr rfl, Or.inr rfl, Or.inr rfl, Or.inl rfl, Or.inl rfl, trivial⟩ (hK161 a2 88 a4 (a5 + 1) a6 (gx_up σ 52 s1.toNatClampNeg s2) (Or.inr (Or.inl rfl)) hf))
set_option maxHeartbeats 16000000 in
set_option maxRecDepth 20000 in
theorem vv_La_valueOf_71_95 (D : Nat) (hD : 2 ≤ D + 1) (rr : Int32) (σ' : gx_R) (K161 : Int32 → Nat → Int32 → Int32 → Int32 → gx_R → Option (Int32 × gx_R)) (hK161 : ∀ (a2 : Int32) (b3 : Nat) (a4 : Int32) (a5 : Int32) (a6 : Int32) (σ : gx_R), (b3 = 81 ∨ b3 = 88 ∨ b3 = 95 ∨ b3 = 102) → K161 a2 b3 a4 a5 a6 σ = some (rr, σ') → gx_Ev lay0 (E0 D) tt_32 (some (.int rr)) σ' 161 [.ref 50, .null, .int a2, .ref b3, .int a4, .int a5, .int a6, .null, .null] [] σ) (a2 : Int32) (a4 : Int32) (a5 : Int32) (a6 : Int32) (s1 : Int32) (s2 : Int32) (σ : gx_R) (hf : La_valueOf_71 K161 a2 95 a4 a5 a6 s1 s2 σ = some (rr, σ')) : gx_Ev lay0 (E0 D) tt_32 (some (.int rr)) σ' 71 [.ref 50, .null, .int a2, .ref 95, .int a4, .int a5, .int a6, .null, .null] [.int s2, .int s1, .ref 52] σ := by
  unfold La_valueOf_71 at hf
  obtain ⟨h1, hf⟩ := z_ck_inv hf
  exact gx_go_ 3 [] [vp_in s1 64] 161 [.ref 50, .null, .int a2, .ref 95, .int a4, .int (a5 + 1), .int a6, .null, .null] [] (gx_up σ 52 s1.toNatClampNeg s2) rfl ⟨(z_ix_in h1), trivial⟩ (gx_fgt (ls' := [.ref 50, .null, .int a2, .ref 95, .int a4, .int (a5 + 1), .int a6, .null, .null]) ⟨Or.inr rfl, Or.inl rfl, Or.inr rfl, Or.inr rfl, Or.inr rfl, Or.inr rfl, Or.inr rfl, Or.inl rfl, Or.inl rfl, trivial⟩ (hK161 a2 95 a4 (a5 + 1) a6 (gx_up σ 52 s1.toNatClampNeg s2) (Or.inr (Or.inr (Or.inl rfl))) hf))
set_option maxHeartbeats 16000000 in
set_option maxRecDepth 20000 in
theorem vv_La_valueOf_71_102 (D : Nat) (hD : 2 ≤ D + 1) (rr : Int32) (σ' : gx_R) (K161 : Int32 → Nat → Int32 → Int32 → Int32 → gx_R → Option (Int32 × gx_R)) (hK161 : ∀ (a2 : Int32) (b3 : Nat) (a4 : Int32) (a5 : Int32) (a6 : Int32) (σ : gx_R), (b3 = 81 ∨ b3 = 88 ∨ b3 = 95 ∨ b3 = 102) → K161 a2 b3 a4 a5 a6 σ = some (rr, σ') → gx_Ev lay0 (E0 D) tt_32 (some (.int rr)) σ' 161 [.ref 50, .null, .int a2, .ref b3, .int a4, .int a5, .int a6, .null, .null] [] σ) (a2 : Int32) (a4 : Int32) (a5 : Int32) (a6 : Int32) (s1 : Int32) (s2 : Int32) (σ : gx_R) (hf : La_valueOf_71 K161 a2 102 a4 a5 a6 s1 s2 σ = some (rr, σ')) : gx_Ev lay0 (E0 D) tt_32 (some (.int rr)) σ' 71 [.ref 50, .null, .int a2, .ref 102, .int a4, .int a5, .int a6, .null, .null] [.int s2, .int s1, .ref 52] σ := by
  unfold La_valueOf_71 at hf
  obtain ⟨h1, hf⟩ := z_ck_inv hf
  exact gx_go_ 3 [] [vp_in s1 64] 161 [.ref 50, .null, .int a2, .ref 102, .int a4, .int (a5 + 1), .int a6, .null, .null] [] (gx_up σ 52 s1.toNatClampNeg s2) rfl ⟨(z_ix_in h1), trivial⟩ (gx_fgt (ls' := [.ref 50, .null, .int a2, .ref 102, .int a4, .int (a5 + 1), .int a6, .null, .null]) ⟨Or.inr rfl, Or.inl rfl, Or.inr rfl, Or.inr rfl, Or.inr rfl, Or.inr rfl, Or.inr rfl, Or.inl rfl, Or.inl rfl, trivial⟩ (hK161 a2 102 a4 (a5 + 1) a6 (gx_up σ 52 s1.toNatClampNeg s2) (Or.inr (Or.inr (Or.inr rfl))) hf))
set_option maxHeartbeats 16000000 in
set_option maxRecDepth 20000 in
theorem vv_La_valueOf_71 (D : Nat) (hD : 2 ≤ D + 1) (rr : Int32) (σ' : gx_R) (K161 : Int32 → Nat → Int32 → Int32 → Int32 → gx_R → Option (Int32 × gx_R)) (hK161 : ∀ (a2 : Int32) (b3 : Nat) (a4 : Int32) (a5 : Int32) (a6 : Int32) (σ : gx_R), (b3 = 81 ∨ b3 = 88 ∨ b3 = 95 ∨ b3 = 102) → K161 a2 b3 a4 a5 a6 σ = some (rr, σ') → gx_Ev lay0 (E0 D) tt_32 (some (.int rr)) σ' 161 [.ref 50, .null, .int a2, .ref b3, .int a4, .int a5, .int a6, .null, .null] [] σ) (a2 : Int32) (b3 : Nat) (a4 : Int32) (a5 : Int32) (a6 : Int32) (s1 : Int32) (s2 : Int32) (σ : gx_R) (hb3 : b3 = 81 ∨ b3 = 88 ∨ b3 = 95 ∨ b3 = 102) (hf : La_valueOf_71 K161 a2 b3 a4 a5 a6 s1 s2 σ = some (rr, σ')) : gx_Ev lay0 (E0 D) tt_32 (some (.int rr)) σ' 71 [.ref 50, .null, .int a2, .ref b3, .int a4, .int a5, .int a6, .null, .null] [.int s2, .int s1, .ref 52] σ := by
  rcases hb3 with rfl | rfl | rfl | rfl
  · exact vv_La_valueOf_71_81 D hD rr σ'  K161 hK161 a2 a4 a5 a6 s1 s2 σ hf
  · exact vv_La_valueOf_71_88 D hD rr σ'  K161 hK161 a2 a4 a5 a6 s1 s2 σ hf
  · exact vv_La_valueOf_71_95 D hD rr σ'  K161 hK161 a2 a4 a5 a6 s1 s2 σ hf
  · exact vv_La_valueOf_71_102 D hD rr σ'  K161 hK161 a2 a4 a5 a6 s1 s2 σ hf
set_option maxHeartbeats 16000000 in
set_option maxRecDepth 20000 in
theorem vv_La_valueOf_100_81 (D : Nat) (hD : 2 ≤ D + 1) (rr : Int32) (σ' : gx_R) (K161 : Int32 → Nat → Int32 → Int32 → Int32 → gx_R → Option (Int32 × gx_R)) (hK161 : ∀ (a2 : Int32) (b3 : Nat) (a4 : Int32) (a5 : Int32) (a6 : Int32) (σ : gx_R), (b3 = 81 ∨ b3 = 88 ∨ b3 = 95 ∨ b3 = 102) → K161 a2 b3 a4 a5 a6 σ = some (rr, σ') → gx_Ev lay0 (E0 D) tt_32 (some (.int rr)) σ' 161 [.ref 50, .null, .int a2, .ref b3, .int a4, .int a5, .int a6, .null, .null] [] σ) (a2 : Int32) (a4 : Int32) (a5 : Int32) (a6 : Int32) (a8 : Int32) (σ : gx_R) (hf : La_valueOf_100 K161 a2 81 a4 a5 a6 a8 σ = some (rr, σ')) : gx_Ev lay0 (E0 D) tt_32 (some (.int rr)) σ' 100 [.ref 50, .null, .int a2, .ref 81, .int a4, .int a5, .int a6, .null, .int a8] [] σ := by
  unfold La_valueOf_100 at hf
  rcases z_if_inv hf with ⟨h1, hf⟩ | ⟨h1, hf⟩
  · rcases z_if_inv hf with ⟨h2, hf⟩ | ⟨h2, hf⟩
    · exact gx_go_ 5 [.inl 0, .inl 1] [¬ ¬ (a8 = (46 : Int32)), a5 ≤ 0] 119 [.ref 50, .null, .int a2, .ref 81, .int a4, .int a5, .int a6, .null, .int a8] [] σ rfl ⟨(fun q => q h1), h2, trivial⟩ (gx_fgt (ls' := [.ref 50, .null, .int a2, .ref 81, .int a4, .int a5, .int a6, .null, .int a8]) ⟨Or.inr rfl, Or.inl rfl, Or.inr rfl, Or.inr rfl, Or.inr rfl, Or.inr rfl, Or.inr rfl, Or.inl rfl, Or.inr rfl, trivial⟩ (vv_La_valueOf_119 D hD rr σ' K161 hK161 a2 81 a4 a5 a6 a8 σ (Or.inl rfl) hf))
    · obtain ⟨h3, hf⟩ := z_ck_inv hf
      obtain ⟨h4, hf⟩ := z_ck_inv hf
      exact gx_go_ 19 [.inl 0, .inl 0] [¬ ¬ (a8 = (46 : Int32)), ¬ (a5 ≤ 0), vp_in (a5 - (1 : Int32)) 64, vp_in (a5 - (1 : Int32)) 64] 161 [.ref 50, .null, .int a2, .ref 81, .int a4, .int a5, .int a6, .null, .int a8] [] (gx_up σ 52 (a5 - (1 : Int32)).toNatClampNeg (-(σ 52 ((a5 - (1 : Int32)).toNatClampNeg)))) rfl ⟨(fun q => q h1), h2, (z_ix_in h3), (z_ix_in h4), trivial⟩ (gx_fgt (ls' := [.ref 50, .null, .int a2, .ref 81, .int a4, .int a5, .int a6, .null, .null]) ⟨Or.inr rfl, Or.inl rfl, Or.inr rfl, Or.inr rfl, Or.inr rfl, Or.inr rfl, Or.inr rfl, Or.inl rfl, Or.inl rfl, trivial⟩ (hK161 a2 81 a4 a5 a6 (gx_up σ 52 (a5 - (1 : Int32)).toNatClampNeg (-(σ 52 ((a5 - (1 : Int32)).toNatClampNeg)))) (Or.inl rfl) hf))
  · exact gx_go_ 3 [.inl 1] [¬ (a8 = (46 : Int32))] 119 [.ref 50, .null, .int a2, .ref 81, .int a4, .int a5, .int a6, .null, .int a8] [] σ rfl ⟨h1, trivial⟩ (gx_fgt (ls' := [.ref 50, .null, .int a2, .ref 81, .int a4, .int a5, .int a6, .null, .int a8]) ⟨Or.inr rfl, Or.inl rfl, Or.inr rfl, Or.inr rfl, Or.inr rfl, Or.inr rfl, Or.inr rfl, Or.inl rfl, Or.inr rfl, trivial⟩ (vv_La_valueOf_119 D hD rr σ' K161 hK161 a2 81 a4 a5 a6 a8 σ (Or.inl rfl) hf))
set_option maxHeartbeats 16000000 in
set_option maxRecDepth 20000 in
theorem vv_La_valueOf_100_88 (D : Nat) (hD : 2 ≤ D + 1) (rr : Int32) (σ' : gx_R) (K161 : Int32 → Nat → Int32 → Int32 → Int32 → gx_R → Option (Int32 × gx_R)) (hK161 : ∀ (a2 : Int32) (b3 : Nat) (a4 : Int32) (a5 : Int32) (a6 : Int32) (σ : gx_R), (b3 = 81 ∨ b3 = 88 ∨ b3 = 95 ∨ b3 = 102) → K161 a2 b3 a4 a5 a6 σ = some (rr, σ') → gx_Ev lay0 (E0 D) tt_32 (some (.int rr)) σ' 161 [.ref 50, .null, .int a2, .ref b3, .int a4, .int a5, .int a6, .null, .null] [] σ) (a2 : Int32) (a4 : Int32) (a5 : Int32) (a6 : Int32) (a8 : Int32) (σ : gx_R) (hf : La_valueOf_100 K161 a2 88 a4 a5 a6 a8 σ = some (rr, σ')) : gx_Ev lay0 (E0 D) tt_32 (some (.int rr)) σ' 100 [.ref 50, .null, .int a2, .ref 88, .int a4, .int a5, .int a6, .null, .int a8] [] σ := by
  unfold La_valueOf_100 at hf
  rcases z_if_inv hf with ⟨h1, hf⟩ | ⟨h1, hf⟩
  · rcases z_if_inv hf with ⟨h2, hf⟩ | ⟨h2, hf⟩
    · exact gx_go_ 5 [.inl 0, .inl 1] [¬ ¬ (a8 = (46 : Int32)), a5 ≤ 0] 119 [.ref 50, .null, .int a2, .ref 88, .int a4, .int a5, .int a6, .null, .int a8] [] σ rfl ⟨(fun q => q h1), h2, trivial⟩ (gx_fgt (ls' := [.ref 50, .null, .int a2, .ref 88, .int a4, .int a5, .int a6, .null, .int a8]) ⟨Or.inr rfl, Or.inl rfl, Or.inr rfl, Or.inr rfl, Or.inr rfl, Or.inr rfl, Or.inr rfl, Or.inl rfl, Or.inr rfl, trivial⟩ (vv_La_valueOf_119 D hD rr σ' K161 hK161 a2 88 a4 a5 a6 a8 σ (Or.inr (Or.inl rfl)) hf))
    · obtain ⟨h3, hf⟩ := z_ck_inv hf
      obtain ⟨h4, hf⟩ := z_ck_inv hf
      exact gx_go_ 19 [.inl 0, .inl 0] [¬ ¬ (a8 = (46 : Int32)), ¬ (a5 ≤ 0), vp_in (a5 - (1 : Int32)) 64, vp_in (a5 - (1 : Int32)) 64] 161 [.ref 50, .null, .int a2, .ref 88, .int a4, .int a5, .int a6, .null, .int a8] [] (gx_up σ 52 (a5 - (1 : Int32)).toNatClampNeg (-(σ 52 ((a5 - (1 : Int32)).toNatClampNeg)))) rfl ⟨(fun q => q h1), h2, (z_ix_in h3), (z_ix_in h4), trivial⟩ (gx_fgt (ls' := [.ref 50, .null, .int a2, .ref 88, .int a4, .int a5, .int a6, .null, .null]) ⟨Or.inr rfl, Or.inl rfl, Or.inr rfl, Or.inr rfl, Or.inr rfl, Or.inr rfl, Or.inr rfl, Or.inl rfl, Or.inl rfl, trivial⟩ (hK161 a2 88 a4 a5 a6 (gx_up σ 52 (a5 - (1 : Int32)).toNatClampNeg (-(σ 52 ((a5 - (1 : Int32)).toNatClampNeg)))) (Or.inr (Or.inl rfl)) hf))
  · exact gx_go_ 3 [.inl 1] [¬ (a8 = (46 : Int32))] 119 [.ref 50, .null, .int a2, .ref 88, .int a4, .int a5, .int a6, .null, .int a8] [] σ rfl ⟨h1, trivial⟩ (gx_fgt (ls' := [.ref 50, .null, .int a2, .ref 88, .int a4, .int a5, .int a6, .null, .int a8]) ⟨Or.inr rfl, Or.inl rfl, Or.inr rfl, Or.inr rfl, Or.inr rfl, Or.inr rfl, Or.inr rfl, Or.inl rfl, Or.inr rfl, trivial⟩ (vv_La_valueOf_119 D hD rr σ' K161 hK161 a2 88 a4 a5 a6 a8 σ (Or.inr (Or.inl rfl)) hf))
set_option maxHeartbeats 16000000 in
set_option maxRecDepth 20000 in
theorem vv_La_valueOf_100_95 (D : Nat) (hD : 2 ≤ D + 1) (rr : Int32) (σ' : gx_R) (K161 : Int32 → Nat → Int32 → Int32 → Int32 → gx_R → Option (Int32 × gx_R)) (hK161 : ∀ (a2 : Int32) (b3 : Nat) (a4 : Int32) (a5 : Int32) (a6 : Int32) (σ : gx_R), (b3 = 81 ∨ b3 = 88 ∨ b3 = 95 ∨ b3 = 102) → K161 a2 b3 a4 a5 a6 σ = some (rr, σ') → gx_Ev lay0 (E0 D) tt_32 (some (.int rr)) σ' 161 [.ref 50, .null, .int a2, .ref b3, .int a4, .int a5, .int a6, .null, .null] [] σ) (a2 : Int32) (a4 : Int32) (a5 : Int32) (a6 : Int32) (a8 : Int32) (σ : gx_R) (hf : La_valueOf_100 K161 a2 95 a4 a5 a6 a8 σ = some (rr, σ')) : gx_Ev lay0 (E0 D) tt_32 (some (.int rr)) σ' 100 [.ref 50, .null, .int a2, .ref 95, .int a4, .int a5, .int a6, .null, .int a8] [] σ := by
  unfold La_valueOf_100 at hf
  rcases z_if_inv hf with ⟨h1, hf⟩ | ⟨h1, hf⟩
  · rcases z_if_inv hf with ⟨h2, hf⟩ | ⟨h2, hf⟩
    · exact gx_go_ 5 [.inl 0, .inl 1] [¬ ¬ (a8 = (46 : Int32)), a5 ≤ 0] 119 [.ref 50, .null, .int a2, .ref 95, .int a4, .int a5, .int a6, .null, .int a8] [] σ rfl ⟨(fun q => q h1), h2, trivial⟩ (gx_fgt (ls' := [.ref 50, .null, .int a2, .ref 95, .int a4, .int a5, .int a6, .null, .int a8]) ⟨Or.inr rfl, Or.inl rfl, Or.inr rfl, Or.inr rfl, Or.inr rfl, Or.inr rfl, Or.inr rfl, Or.inl rfl, Or.inr rfl, trivial⟩ (vv_La_valueOf_119 D hD rr σ' K161 hK161 a2 95 a4 a5 a6 a8 σ (Or.inr (Or.inr (Or.inl rfl))) hf))
    · obtain ⟨h3, hf⟩ := z_ck_inv hf
      obtain ⟨h4, hf⟩ := z_ck_inv hf
      exact gx_go_ 19 [.inl 0, .inl 0] [¬ ¬ (a8 = (46 : Int32)), ¬ (a5 ≤ 0), vp_in (a5 - (1 : Int32)) 64, vp_in (a5 - (1 : Int32)) 64] 161 [.ref 50, .null, .int a2, .ref 95, .int a4, .int a5, .int a6, .null, .int a8] [] (gx_up σ 52 (a5 - (1 : Int32)).toNatClampNeg (-(σ 52 ((a5 - (1 : Int32)).toNatClampNeg)))) rfl ⟨(fun q => q h1), h2, (z_ix_in h3), (z_ix_in h4), trivial⟩ (gx_fgt (ls' := [.ref 50, .null, .int a2, .ref 95, .int a4, .int a5, .int a6, .null, .null]) ⟨Or.inr rfl, Or.inl rfl, Or.inr rfl, Or.inr rfl, Or.inr rfl, Or.inr rfl, Or.inr rfl, Or.inl rfl, Or.inl rfl, trivial⟩ (hK161 a2 95 a4 a5 a6 (gx_up σ 52 (a5 - (1 : Int32)).toNatClampNeg (-(σ 52 ((a5 - (1 : Int32)).toNatClampNeg)))) (Or.inr (Or.inr (Or.inl rfl))) hf))
  · exact gx_go_ 3 [.inl 1] [¬ (a8 = (46 : Int32))] 119 [.ref 50, .null, .int a2, .ref 95, .int a4, .int a5, .int a6, .null, .int a8] [] σ rfl ⟨h1, trivial⟩ (gx_fgt (ls' := [.ref 50, .null, .int a2, .ref 95, .int a4, .int a5, .int a6, .null, .int a8]) ⟨Or.inr rfl, Or.inl rfl, Or.inr rfl, Or.inr rfl, Or.inr rfl, Or.inr rfl, Or.inr rfl, Or.inl rfl, Or.inr rfl, trivial⟩ (vv_La_valueOf_119 D hD rr σ' K161 hK161 a2 95 a4 a5 a6 a8 σ (Or.inr (Or.inr (Or.inl rfl))) hf))
set_option maxHeartbeats 16000000 in
set_option maxRecDepth 20000 in
theorem vv_La_valueOf_100_102 (D : Nat) (hD : 2 ≤ D + 1) (rr : Int32) (σ' : gx_R) (K161 : Int32 → Nat → Int32 → Int32 → Int32 → gx_R → Option (Int32 × gx_R)) (hK161 : ∀ (a2 : Int32) (b3 : Nat) (a4 : Int32) (a5 : Int32) (a6 : Int32) (σ : gx_R), (b3 = 81 ∨ b3 = 88 ∨ b3 = 95 ∨ b3 = 102) → K161 a2 b3 a4 a5 a6 σ = some (rr, σ') → gx_Ev lay0 (E0 D) tt_32 (some (.int rr)) σ' 161 [.ref 50, .null, .int a2, .ref b3, .int a4, .int a5, .int a6, .null, .null] [] σ) (a2 : Int32) (a4 : Int32) (a5 : Int32) (a6 : Int32) (a8 : Int32) (σ : gx_R) (hf : La_valueOf_100 K161 a2 102 a4 a5 a6 a8 σ = some (rr, σ')) : gx_Ev lay0 (E0 D) tt_32 (some (.int rr)) σ' 100 [.ref 50, .null, .int a2, .ref 102, .int a4, .int a5, .int a6, .null, .int a8] [] σ := by
  unfold La_valueOf_100 at hf
  rcases z_if_inv hf with ⟨h1, hf⟩ | ⟨h1, hf⟩
  · rcases z_if_inv hf with ⟨h2, hf⟩ | ⟨h2, hf⟩
    · exact gx_go_ 5 [.inl 0, .inl 1] [¬ ¬ (a8 = (46 : Int32)), a5 ≤ 0] 119 [.ref 50, .null, .int a2, .ref 102, .int a4, .int a5, .int a6, .null, .int a8] [] σ rfl ⟨(fun q => q h1), h2, trivial⟩ (gx_fgt (ls' := [.ref 50, .null, .int a2, .ref 102, .int a4, .int a5, .int a6, .null, .int a8]) ⟨Or.inr rfl, Or.inl rfl, Or.inr rfl, Or.inr rfl, Or.inr rfl, Or.inr rfl, Or.inr rfl, Or.inl rfl, Or.inr rfl, trivial⟩ (vv_La_valueOf_119 D hD rr σ' K161 hK161 a2 102 a4 a5 a6 a8 σ (Or.inr (Or.inr (Or.inr rfl))) hf))
    · obtain ⟨h3, hf⟩ := z_ck_inv hf
      obtain ⟨h4, hf⟩ := z_ck_inv hf
      exact gx_go_ 19 [.inl 0, .inl 0] [¬ ¬ (a8 = (46 : Int32)), ¬ (a5 ≤ 0), vp_in (a5 - (1 : Int32)) 64, vp_in (a5 - (1 : Int32)) 64] 161 [.ref 50, .null, .int a2, .ref 102, .int a4, .int a5, .int a6, .null, .int a8] [] (gx_up σ 52 (a5 - (1 : Int32)).toNatClampNeg (-(σ 52 ((a5 - (1 : Int32)).toNatClampNeg)))) rfl ⟨(fun q => q h1), h2, (z_ix_in h3), (z_ix_in h4), trivial⟩ (gx_fgt (ls' := [.ref 50, .null, .int a2, .ref 102, .int a4, .int a5, .int a6, .null, .null]) ⟨Or.inr rfl, Or.inl rfl, Or.inr rfl, Or.inr rfl, Or.inr rfl, Or.inr rfl, Or.inr rfl, Or.inl rfl, Or.inl rfl, trivial⟩ (hK161 a2 102 a4 a5 a6 (gx_up σ 52 (a5 - (1 : Int32)).toNatClampNeg (-(σ 52 ((a5 - (1 : Int32)).toNatClampNeg)))) (Or.inr (Or.inr (Or.inr rfl))) hf))
  · exact gx_go_ 3 [.inl 1] [¬ (a8 = (46 : Int32))] 119 [.ref 50, .null, .int a2, .ref 102, .int a4, .int a5, .int a6, .null, .int a8] [] σ rfl ⟨h1, trivial⟩ (gx_fgt (ls' := [.ref 50, .null, .int a2, .ref 102, .int a4, .int a5, .int a6, .null, .int a8]) ⟨Or.inr rfl, Or.inl rfl, Or.inr rfl, Or.inr rfl, Or.inr rfl, Or.inr rfl, Or.inr rfl, Or.inl rfl, Or.inr rfl, trivial⟩ (vv_La_valueOf_119 D hD rr σ' K161 hK161 a2 102 a4 a5 a6 a8 σ (Or.inr (Or.inr (Or.inr rfl))) hf))
set_option maxHeartbeats 16000000 in
set_option maxRecDepth 20000 in
theorem vv_La_valueOf_100 (D : Nat) (hD : 2 ≤ D + 1) (rr : Int32) (σ' : gx_R) (K161 : Int32 → Nat → Int32 → Int32 → Int32 → gx_R → Option (Int32 × gx_R)) (hK161 : ∀ (a2 : Int32) (b3 : Nat) (a4 : Int32) (a5 : Int32) (a6 : Int32) (σ : gx_R), (b3 = 81 ∨ b3 = 88 ∨ b3 = 95 ∨ b3 = 102) → K161 a2 b3 a4 a5 a6 σ = some (rr, σ') → gx_Ev lay0 (E0 D) tt_32 (some (.int rr)) σ' 161 [.ref 50, .null, .int a2, .ref b3, .int a4, .int a5, .int a6, .null, .null] [] σ) (a2 : Int32) (b3 : Nat) (a4 : Int32) (a5 : Int32) (a6 : Int32) (a8 : Int32) (σ : gx_R) (hb3 : b3 = 81 ∨ b3 = 88 ∨ b3 = 95 ∨ b3 = 102) (hf : La_valueOf_100 K161 a2 b3 a4 a5 a6 a8 σ = some (rr, σ')) : gx_Ev lay0 (E0 D) tt_32 (some (.int rr)) σ' 100 [.ref 50, .null, .int a2, .ref b3, .int a4, .int a5, .int a6, .null, .int a8] [] σ := by
  rcases hb3 with rfl | rfl | rfl | rfl
  · exact vv_La_valueOf_100_81 D hD rr σ'  K161 hK161 a2 a4 a5 a6 a8 σ hf
  · exact vv_La_valueOf_100_88 D hD rr σ'  K161 hK161 a2 a4 a5 a6 a8 σ hf
  · exact vv_La_valueOf_100_95 D hD rr σ'  K161 hK161 a2 a4 a5 a6 a8 σ hf
  · exact vv_La_valueOf_100_102 D hD rr σ'  K161 hK161 a2 a4 a5 a6 a8 σ hf
set_option maxHeartbeats 16000000 in
set_option maxRecDepth 20000 in
theorem vv_La_valueOf_74_81 (D : Nat) (hD : 2 ≤ D + 1) (rr : Int32) (σ' : gx_R) (K161 : Int32 → Nat → Int32 → Int32 → Int32 → gx_R → Option (Int32 × gx_R)) (hK161 : ∀ (a2 : Int32) (b3 : Nat) (a4 : Int32) (a5 : Int32) (a6 : Int32) (σ : gx_R), (b3 = 81 ∨ b3 = 88 ∨ b3 = 95 ∨ b3 = 102) → K161 a2 b3 a4 a5 a6 σ = some (rr, σ') → gx_Ev lay0 (E0 D) tt_32 (some (.int rr)) σ' 161 [.ref 50, .null, .int a2, .ref b3, .int a4, .int a5, .int a6, .null, .null] [] σ) (a2 : Int32) (a4 : Int32) (a5 : Int32) (a6 : Int32) (a7 : Int32) (a8 : Int32) (σ : gx_R) (hf : La_valueOf_74 K161 a2 81 a4 a5 a6 a7 a8 σ = some (rr, σ')) : gx_Ev lay0 (E0 D) tt_32 (some (.int rr)) σ' 74 [.ref 50, .null, .int a2, .ref 81, .int a4, .int a5, .int a6, .int a7, .int a8] [] σ := by
  unfold La_valueOf_74 at hf
  rcases z_if_inv hf with ⟨h1, hf⟩ | ⟨h1, hf⟩
  · exact gx_go_ 8 [.inl 0] [¬ ¬ (a8 = (16 : Int32))] 161 [.ref 50, .null, .int a2, .ref 81, .int (a7 >>> ((6 : Int32) &&& 31)), .int a5, .int a6, .int a7, .int a8] [] σ rfl ⟨(fun q => q h1), trivial⟩ (gx_fgt (ls' := [.ref 50, .null, .int a2, .ref 81, .int (a7 >>> ((6 : Int32) &&& 31)), .int a5, .int a6, .null, .null]) ⟨Or.inr rfl, Or.inl rfl, Or.inr rfl, Or.inr rfl, Or.inr rfl, Or.inr rfl, Or.inr rfl, Or.inl rfl, Or.inl rfl, trivial⟩ (hK161 a2 81 (a7 >>> ((6 : Int32) &&& 31)) a5 a6 σ (Or.inl rfl) hf))
  · rcases z_if_inv hf with ⟨h2, hf⟩ | ⟨h2, hf⟩
    · rcases z_if_inv hf with ⟨h3, hf⟩ | ⟨h3, hf⟩
      · exact gx_go_ 8 [.inl 1, .inl 0, .inl 1] [¬ (a8 = (16 : Int32)), ¬ ¬ (a8 = (15 : Int32)), a5 ≤ 0] 100 [.ref 50, .null, .int a2, .ref 81, .int a4, .int a5, .int a6, .int a7, .int a8] [] σ rfl ⟨h1, (fun q => q h2), h3, trivial⟩ (gx_fgt (ls' := [.ref 50, .null, .int a2, .ref 81, .int a4, .int a5, .int a6, .null, .int a8]) ⟨Or.inr rfl, Or.inl rfl, Or.inr rfl, Or.inr rfl, Or.inr rfl, Or.inr rfl, Or.inr rfl, Or.inl rfl, Or.inr rfl, trivial⟩ (vv_La_valueOf_100 D hD rr σ' K161 hK161 a2 81 a4 a5 a6 a8 σ (Or.inl rfl) hf))
      · obtain ⟨h4, hf⟩ := z_ck_inv hf
        rcases z_if_inv hf with ⟨h5, hf⟩ | ⟨h5, hf⟩
        · exact gx_go_ 18 [.inl 1, .inl 0, .inl 0, .inl 0] [¬ (a8 = (16 : Int32)), ¬ ¬ (a8 = (15 : Int32)), ¬ (a5 ≤ 0), vp_in (a5 + (-1)) 64, ¬ ¬ ((σ 52 ((a5 + (-1)).toNatClampNeg)) = 0)] 98 [.ref 50, .null, .int a2, .ref 81, .int a4, .int (a5 + (-1)), .int a6, .int a7, .int a8] [.int (a7 >>> ((6 : Int32) &&& 31))] σ rfl ⟨h1, (fun q => q h2), h3, (z_ix_in h4), (fun q => q h5), trivial⟩ (gx_fgt (ls' := [.ref 50, .null, .int a2, .ref 81, .null, .int (a5 + (-1)), .int a6, .null, .null]) ⟨Or.inr rfl, Or.inl rfl, Or.inr rfl, Or.inr rfl, Or.inl rfl, Or.inr rfl, Or.inr rfl, Or.inl rfl, Or.inl rfl, trivial⟩ (vv_La_valueOf_98 D hD rr σ' K161 hK161 a2 81 (a5 + (-1)) a6 (a7 >>> ((6 : Int32) &&& 31)) σ (Or.inl rfl) hf))
        · exact gx_go_ 15 [.inl 1, .inl 0, .inl 0, .inl 1] [¬ (a8 = (16 : Int32)), ¬ ¬ (a8 = (15 : Int32)), ¬ (a5 ≤ 0), vp_in (a5 + (-1)) 64, ¬ ((σ 52 ((a5 + (-1)).toNatClampNeg)) = 0)] 98 [.ref 50, .null, .int a2, .ref 81, .int a4, .int (a5 + (-1)), .int a6, .int a7, .int a8] [.int a4] σ rfl ⟨h1, (fun q => q h2), h3, (z_ix_in h4), h5, trivial⟩ (gx_fgt (ls' := [.ref 50, .null, .int a2, .ref 81, .null, .int (a5 + (-1)), .int a6, .null, .null]) ⟨Or.inr rfl, Or.inl rfl, Or.inr rfl, Or.inr rfl, Or.inl rfl, Or.inr rfl, Or.inr rfl, Or.inl rfl, Or.inl rfl, trivial⟩ (vv_La_valueOf_98 D hD rr σ' K161 hK161 a2 81 (a5 + (-1)) a6 a4 σ (Or.inl rfl) hf))
    · exact gx_go_ 6 [.inl 1, .inl 1] [¬ (a8 = (16 : Int32)), ¬ (a8 = (15 : Int32))] 100 [.ref 50, .null, .int a2, .ref 81, .int a4, .int a5, .int a6, .int a7, .int a8] [] σ rfl ⟨h1, h2, trivial⟩ (gx_fgt (ls' := [.ref 50, .null, .int a2, .ref 81, .int a4, .int a5, .int a6, .null, .int a8]) ⟨Or.inr rfl, Or.inl rfl, Or.inr rfl, Or.inr rfl, Or.inr rfl, Or.inr rfl, Or.inr rfl, Or.inl rfl, Or.inr rfl, trivial⟩ (vv_La_valueOf_100 D hD rr σ' K161 hK161 a2 81 a4 a5 a6 a8 σ (Or.inl rfl) hf))
set_option maxHeartbeats 16000000 in
set_option maxRecDepth 20000 in
theorem vv_La_valueOf_74_88 (D : Nat) (hD : 2 ≤ D + 1) (rr : Int32) (σ' : gx_R) (K161 : Int32 → Nat → Int32 → Int32 → Int32 → gx_R → Option (Int32 × gx_R)) (hK161 : ∀ (a2 : Int32) (b3 : Nat) (a4 : Int32) (a5 : Int32) (a6 : Int32) (σ : gx_R), (b3 = 81 ∨ b3 = 88 ∨ b3 = 95 ∨ b3 = 102) → K161 a2 b3 a4 a5 a6 σ = some (rr, σ') → gx_Ev lay0 (E0 D) tt_32 (some (.int rr)) σ' 161 [.ref 50, .null, .int a2, .ref b3, .int a4, .int a5, .int a6, .null, .null] [] σ) (a2 : Int32) (a4 : Int32) (a5 : Int32) (a6 : Int32) (a7 : Int32) (a8 : Int32) (σ : gx_R) (hf : La_valueOf_74 K161 a2 88 a4 a5 a6 a7 a8 σ = some (rr, σ')) : gx_Ev lay0 (E0 D) tt_32 (some (.int rr)) σ' 74 [.ref 50, .null, .int a2, .ref 88, .int a4, .int a5, .int a6, .int a7, .int a8] [] σ := by
  unfold La_valueOf_74 at hf
  rcases z_if_inv hf with ⟨h1, hf⟩ | ⟨h1, hf⟩
  · exact gx_go_ 8 [.inl 0] [¬ ¬ (a8 = (16 : Int32))] 161 [.ref 50, .null, .int a2, .ref 88, .int (a7 >>> ((6 : Int32) &&& 31)), .int a5, .int a6, .int a7, .int a8] [] σ rfl ⟨(fun q => q h1), trivial⟩ (gx_fgt (ls' := [.ref 50, .null, .int a2, .ref 88, .int (a7 >>> ((6 : Int32) &&& 31)), .int a5, .int a6, .null, .null]) ⟨Or.inr rfl, Or.inl rfl, Or.inr rfl, Or.inr rfl, Or.inr rfl, Or.inr rfl, Or.inr rfl, Or.inl rfl, Or.inl rfl, trivial⟩ (hK161 a2 88 (a7 >>> ((6 : Int32) &&& 31)) a5 a6 σ (Or.inr (Or.inl rfl)) hf))
  · rcases z_if_inv hf with ⟨h2, hf⟩ | ⟨h2, hf⟩
    · rcases z_if_inv hf with ⟨h3, hf⟩ | ⟨h3, hf⟩
      · exact gx_go_ 8 [.inl 1, .inl 0, .inl 1] [¬ (a8 = (16 : Int32)), ¬ ¬ (a8 = (15 : Int32)), a5 ≤ 0] 100 [.ref 50, .null, .int a2, .ref 88, .int a4, .int a5, .int a6, .int a7, .int a8] [] σ rfl ⟨h1, (fun q => q h2), h3, trivial⟩ (gx_fgt (ls' := [.ref 50, .null, .int a2, .ref 88, .int a4, .int a5, .int a6, .null, .int a8]) ⟨Or.inr rfl, Or.inl rfl, Or.inr rfl, Or.inr rfl, Or.inr rfl, Or.inr rfl, Or.inr rfl, Or.inl rfl, Or.inr rfl, trivial⟩ (vv_La_valueOf_100 D hD rr σ' K161 hK161 a2 88 a4 a5 a6 a8 σ (Or.inr (Or.inl rfl)) hf))
      · obtain ⟨h4, hf⟩ := z_ck_inv hf
        rcases z_if_inv hf with ⟨h5, hf⟩ | ⟨h5, hf⟩
        · exact gx_go_ 18 [.inl 1, .inl 0, .inl 0, .inl 0] [¬ (a8 = (16 : Int32)), ¬ ¬ (a8 = (15 : Int32)), ¬ (a5 ≤ 0), vp_in (a5 + (-1)) 64, ¬ ¬ ((σ 52 ((a5 + (-1)).toNatClampNeg)) = 0)] 98 [.ref 50, .null, .int a2, .ref 88, .int a4, .int (a5 + (-1)), .int a6, .int a7, .int a8] [.int (a7 >>> ((6 : Int32) &&& 31))] σ rfl ⟨h1, (fun q => q h2), h3, (z_ix_in h4), (fun q => q h5), trivial⟩ (gx_fgt (ls' := [.ref 50, .null, .int a2, .ref 88, .null, .int (a5 + (-1)), .int a6, .null, .null]) ⟨Or.inr rfl, Or.inl rfl, Or.inr rfl, Or.inr rfl, Or.inl rfl, Or.inr rfl, Or.inr rfl, Or.inl rfl, Or.inl rfl, trivial⟩ (vv_La_valueOf_98 D hD rr σ' K161 hK161 a2 88 (a5 + (-1)) a6 (a7 >>> ((6 : Int32) &&& 31)) σ (Or.inr (Or.inl rfl)) hf))
        · exact gx_go_ 15 [.inl 1, .inl 0, .inl 0, .inl 1] [¬ (a8 = (16 : Int32)), ¬ ¬ (a8 = (15 : Int32)), ¬ (a5 ≤ 0), vp_in (a5 + (-1)) 64, ¬ ((σ 52 ((a5 + (-1)).toNatClampNeg)) = 0)] 98 [.ref 50, .null, .int a2, .ref 88, .int a4, .int (a5 + (-1)), .int a6, .int a7, .int a8] [.int a4] σ rfl ⟨h1, (fun q => q h2), h3, (z_ix_in h4), h5, trivial⟩ (gx_fgt (ls' := [.ref 50, .null, .int a2, .ref 88, .null, .int (a5 + (-1)), .int a6, .null, .null]) ⟨Or.inr rfl, Or.inl rfl, Or.inr rfl, Or.inr rfl, Or.inl rfl, Or.inr rfl, Or.inr rfl, Or.inl rfl, Or.inl rfl, trivial⟩ (vv_La_valueOf_98 D hD rr σ' K161 hK161 a2 88 (a5 + (-1)) a6 a4 σ (Or.inr (Or.inl rfl)) hf))
    · exact gx_go_ 6 [.inl 1, .inl 1] [¬ (a8 = (16 : Int32)), ¬ (a8 = (15 : Int32))] 100 [.ref 50, .null, .int a2, .ref 88, .int a4, .int a5, .int a6, .int a7, .int a8] [] σ rfl ⟨h1, h2, trivial⟩ (gx_fgt (ls' := [.ref 50, .null, .int a2, .ref 88, .int a4, .int a5, .int a6, .null, .int a8]) ⟨Or.inr rfl, Or.inl rfl, Or.inr rfl, Or.inr rfl, Or.inr rfl, Or.inr rfl, Or.inr rfl, Or.inl rfl, Or.inr rfl, trivial⟩ (vv_La_valueOf_100 D hD rr σ' K161 hK161 a2 88 a4 a5 a6 a8 σ (Or.inr (Or.inl rfl)) hf))
set_option maxHeartbeats 16000000 in
set_option maxRecDepth 20000 in
theorem vv_La_valueOf_74_95 (D : Nat) (hD : 2 ≤ D + 1) (rr : Int32) (σ' : gx_R) (K161 : Int32 → Nat → Int32 → Int32 → Int32 → gx_R → Option (Int32 × gx_R)) (hK161 : ∀ (a2 : Int32) (b3 : Nat) (a4 : Int32) (a5 : Int32) (a6 : Int32) (σ : gx_R), (b3 = 81 ∨ b3 = 88 ∨ b3 = 95 ∨ b3 = 102) → K161 a2 b3 a4 a5 a6 σ = some (rr, σ') → gx_Ev lay0 (E0 D) tt_32 (some (.int rr)) σ' 161 [.ref 50, .null, .int a2, .ref b3, .int a4, .int a5, .int a6, .null, .null] [] σ) (a2 : Int32) (a4 : Int32) (a5 : Int32) (a6 : Int32) (a7 : Int32) (a8 : Int32) (σ : gx_R) (hf : La_valueOf_74 K161 a2 95 a4 a5 a6 a7 a8 σ = some (rr, σ')) : gx_Ev lay0 (E0 D) tt_32 (some (.int rr)) σ' 74 [.ref 50, .null, .int a2, .ref 95, .int a4, .int a5, .int a6, .int a7, .int a8] [] σ := by
  unfold La_valueOf_74 at hf
  rcases z_if_inv hf with ⟨h1, hf⟩ | ⟨h1, hf⟩
  · exact gx_go_ 8 [.inl 0] [¬ ¬ (a8 = (16 : Int32))] 161 [.ref 50, .null, .int a2, .ref 95, .int (a7 >>> ((6 : Int32) &&& 31)), .int a5, .int a6, .int a7, .int a8] [] σ rfl ⟨(fun q => q h1), trivial⟩ (gx_fgt (ls' := [.ref 50, .null, .int a2, .ref 95, .int (a7 >>> ((6 : Int32) &&& 31)), .int a5, .int a6, .null, .null]) ⟨Or.inr rfl, Or.inl rfl, Or.inr rfl, Or.inr rfl, Or.inr rfl, Or.inr rfl, Or.inr rfl, Or.inl rfl, Or.inl rfl, trivial⟩ (hK161 a2 95 (a7 >>> ((6 : Int32) &&& 31)) a5 a6 σ (Or.inr (Or.inr (Or.inl rfl))) hf))
  · rcases z_if_inv hf with ⟨h2, hf⟩ | ⟨h2, hf⟩
    · rcases z_if_inv hf with ⟨h3, hf⟩ | ⟨h3, hf⟩
      · exact gx_go_ 8 [.inl 1, .inl 0, .inl 1] [¬ (a8 = (16 : Int32)), ¬ ¬ (a8 = (15 : Int32)), a5 ≤ 0] 100 [.ref 50, .null, .int a2, .ref 95, .int a4, .int a5, .int a6, .int a7, .int a8] [] σ rfl ⟨h1, (fun q => q h2), h3, trivial⟩ (gx_fgt (ls' := [.ref 50, .null, .int a2, .ref 95, .int a4, .int a5, .int a6, .null, .int a8]) ⟨Or.inr rfl, Or.inl rfl, Or.inr rfl, Or.inr rfl, Or.inr rfl, Or.inr rfl, Or.inr rfl, Or.inl rfl, Or.inr rfl, trivial⟩ (vv_La_valueOf_100 D hD rr σ' K161 hK161 a2 95 a4 a5 a6 a8 σ (Or.inr (Or.inr (Or.inl rfl))) hf))
      · obtain ⟨h4, hf⟩ := z_ck_inv hf
        rcases z_if_inv hf with ⟨h5, hf⟩ | ⟨h5, hf⟩
        · exact gx_go_ 18 [.inl 1, .inl 0, .inl 0, .inl 0] [¬ (a8 = (16 : Int32)), ¬ ¬ (a8 = (15 : Int32)), ¬ (a5 ≤ 0), vp_in (a5 + (-1)) 64, ¬ ¬ ((σ 52 ((a5 + (-1)).toNatClampNeg)) = 0)] 98 [.ref 50, .null, .int a2, .ref 95, .int a4, .int (a5 + (-1)), .int a6, .int a7, .int a8] [.int (a7 >>> ((6 : Int32) &&& 31))] σ rfl ⟨h1, (fun q => q h2), h3, (z_ix_in h4), (fun q => q h5), trivial⟩ (gx_fgt (ls' := [.ref 50, .null, .int a2, .ref 95, .null, .int (a5 + (-1)), .int a6, .null, .null]) ⟨Or.inr rfl, Or.inl rfl, Or.inr rfl, Or.inr rfl, Or.inl rfl, Or.inr rfl, Or.inr rfl, Or.inl rfl, Or.inl rfl, trivial⟩ (vv_La_valueOf_98 D hD rr σ' K161 hK161 a2 95 (a5 + (-1)) a6 (a7 >>> ((6 : Int32) &&& 31)) σ (Or.inr (Or.inr (Or.inl rfl))) hf))
        · exact gx_go_ 15 [.inl 1, .inl 0, .inl 0, .inl 1] [¬ (a8 = (16 : Int32)), ¬ ¬ (a8 = (15 : Int32)), ¬ (a5 ≤ 0), vp_in (a5 + (-1)) 64, ¬ ((σ 52 ((a5 + (-1)).toNatClampNeg)) = 0)] 98 [.ref 50, .null, .int a2, .ref 95, .int a4, .int (a5 + (-1)), .int a6, .int a7, .int a8] [.int a4] σ rfl ⟨h1, (fun q => q h2), h3, (z_ix_in h4), h5, trivial⟩ (gx_fgt (ls' := [.ref 50, .null, .int a2, .ref 95, .null, .int (a5 + (-1)), .int a6, .null, .null]) ⟨Or.inr rfl, Or.inl rfl, Or.inr rfl, Or.inr rfl, Or.inl rfl, Or.inr rfl, Or.inr rfl, Or.inl rfl, Or.inl rfl, trivial⟩ (vv_La_valueOf_98 D hD rr σ' K161 hK161 a2 95 (a5 + (-1)) a6 a4 σ (Or.inr (Or.inr (Or.inl rfl))) hf))
    · exact gx_go_ 6 [.inl 1, .inl 1] [¬ (a8 = (16 : Int32)), ¬ (a8 = (15 : Int32))] 100 [.ref 50, .null, .int a2, .ref 95, .int a4, .int a5, .int a6, .int a7, .int a8] [] σ rfl ⟨h1, h2, trivial⟩ (gx_fgt (ls' := [.ref 50, .null, .int a2, .ref 95, .int a4, .int a5, .int a6, .null, .int a8]) ⟨Or.inr rfl, Or.inl rfl, Or.inr rfl, Or.inr rfl, Or.inr rfl, Or.inr rfl, Or.inr rfl, Or.inl rfl, Or.inr rfl, trivial⟩ (vv_La_valueOf_100 D hD rr σ' K161 hK161 a2 95 a4 a5 a6 a8 σ (Or.inr (Or.inr (Or.inl rfl))) hf))
set_option maxHeartbeats 16000000 in
set_option maxRecDepth 20000 in
theorem vv_La_valueOf_74_102 (D : Nat) (hD : 2 ≤ D + 1) (rr : Int32) (σ' : gx_R) (K161 : Int32 → Nat → Int32 → Int32 → Int32 → gx_R → Option (Int32 × gx_R)) (hK161 : ∀ (a2 : Int32) (b3 : Nat) (a4 : Int32) (a5 : Int32) (a6 : Int32) (σ : gx_R), (b3 = 81 ∨ b3 = 88 ∨ b3 = 95 ∨ b3 = 102) → K161 a2 b3 a4 a5 a6 σ = some (rr, σ') → gx_Ev lay0 (E0 D) tt_32 (some (.int rr)) σ' 161 [.ref 50, .null, .int a2, .ref b3, .int a4, .int a5, .int a6, .null, .null] [] σ) (a2 : Int32) (a4 : Int32) (a5 : Int32) (a6 : Int32) (a7 : Int32) (a8 : Int32) (σ : gx_R) (hf : La_valueOf_74 K161 a2 102 a4 a5 a6 a7 a8 σ = some (rr, σ')) : gx_Ev lay0 (E0 D) tt_32 (some (.int rr)) σ' 74 [.ref 50, .null, .int a2, .ref 102, .int a4, .int a5, .int a6, .int a7, .int a8] [] σ := by
  unfold La_valueOf_74 at hf
  rcases z_if_inv hf with ⟨h1, hf⟩ | ⟨h1, hf⟩
  · exact gx_go_ 8 [.inl 0] [¬ ¬ (a8 = (16 : Int32))] 161 [.ref 50, .null, .int a2, .ref 102, .int (a7 >>> ((6 : Int32) &&& 31)), .int a5, .int a6, .int a7, .int a8] [] σ rfl ⟨(fun q => q h1), trivial⟩ (gx_fgt (ls' := [.ref 50, .null, .int a2, .ref 102, .int (a7 >>> ((6 : Int32) &&& 31)), .int a5, .int a6, .null, .null]) ⟨Or.inr rfl, Or.inl rfl, Or.inr rfl, Or.inr rfl, Or.inr rfl, Or.inr rfl, Or.inr rfl, Or.inl rfl, Or.inl rfl, trivial⟩ (hK161 a2 102 (a7 >>> ((6 : Int32) &&& 31)) a5 a6 σ (Or.inr (Or.inr (Or.inr rfl))) hf))
  · rcases z_if_inv hf with ⟨h2, hf⟩ | ⟨h2, hf⟩
    · rcases z_if_inv hf with ⟨h3, hf⟩ | ⟨h3, hf⟩
      · exact gx_go_ 8 [.inl 1, .inl 0, .inl 1] [¬ (a8 = (16 : Int32)), ¬ ¬ (a8 = (15 : Int32)), a5 ≤ 0] 100 [.ref 50, .null, .int a2, .ref 102, .int a4, .int a5, .int a6, .int a7, .int a8] [] σ rfl ⟨h1, (fun q => q h2), h3, trivial⟩ (gx_fgt (ls' := [.ref 50, .null, .int a2, .ref 102, .int a4, .int a5, .int a6, .null, .int a8]) ⟨Or.inr rfl, Or.inl rfl, Or.inr rfl, Or.inr rfl, Or.inr rfl, Or.inr rfl, Or.inr rfl, Or.inl rfl, Or.inr rfl, trivial⟩ (vv_La_valueOf_100 D hD rr σ' K161 hK161 a2 102 a4 a5 a6 a8 σ (Or.inr (Or.inr (Or.inr rfl))) hf))
      · obtain ⟨h4, hf⟩ := z_ck_inv hf
        rcases z_if_inv hf with ⟨h5, hf⟩ | ⟨h5, hf⟩
        · exact gx_go_ 18 [.inl 1, .inl 0, .inl 0, .inl 0] [¬ (a8 = (16 : Int32)), ¬ ¬ (a8 = (15 : Int32)), ¬ (a5 ≤ 0), vp_in (a5 + (-1)) 64, ¬ ¬ ((σ 52 ((a5 + (-1)).toNatClampNeg)) = 0)] 98 [.ref 50, .null, .int a2, .ref 102, .int a4, .int (a5 + (-1)), .int a6, .int a7, .int a8] [.int (a7 >>> ((6 : Int32) &&& 31))] σ rfl ⟨h1, (fun q => q h2), h3, (z_ix_in h4), (fun q => q h5), trivial⟩ (gx_fgt (ls' := [.ref 50, .null, .int a2, .ref 102, .null, .int (a5 + (-1)), .int a6, .null, .null]) ⟨Or.inr rfl, Or.inl rfl, Or.inr rfl, Or.inr rfl, Or.inl rfl, Or.inr rfl, Or.inr rfl, Or.inl rfl, Or.inl rfl, trivial⟩ (vv_La_valueOf_98 D hD rr σ' K161 hK161 a2 102 (a5 + (-1)) a6 (a7 >>> ((6 : Int32) &&& 31)) σ (Or.inr (Or.inr (Or.inr rfl))) hf))
        · exact gx_go_ 15 [.inl 1, .inl 0, .inl 0, .inl 1] [¬ (a8 = (16 : Int32)), ¬ ¬ (a8 = (15 : Int32)), ¬ (a5 ≤ 0), vp_in (a5 + (-1)) 64, ¬ ((σ 52 ((a5 + (-1)).toNatClampNeg)) = 0)] 98 [.ref 50, .null, .int a2, .ref 102, .int a4, .int (a5 + (-1)), .int a6, .int a7, .int a8] [.int a4] σ rfl ⟨h1, (fun q => q h2), h3, (z_ix_in h4), h5, trivial⟩ (gx_fgt (ls' := [.ref 50, .null, .int a2, .ref 102, .null, .int (a5 + (-1)), .int a6, .null, .null]) ⟨Or.inr rfl, Or.inl rfl, Or.inr rfl, Or.inr rfl, Or.inl rfl, Or.inr rfl, Or.inr rfl, Or.inl rfl, Or.inl rfl, trivial⟩ (vv_La_valueOf_98 D hD rr σ' K161 hK161 a2 102 (a5 + (-1)) a6 a4 σ (Or.inr (Or.inr (Or.inr rfl))) hf))
    · exact gx_go_ 6 [.inl 1, .inl 1] [¬ (a8 = (16 : Int32)), ¬ (a8 = (15 : Int32))] 100 [.ref 50, .null, .int a2, .ref 102, .int a4, .int a5, .int a6, .int a7, .int a8] [] σ rfl ⟨h1, h2, trivial⟩ (gx_fgt (ls' := [.ref 50, .null, .int a2, .ref 102, .int a4, .int a5, .int a6, .null, .int a8]) ⟨Or.inr rfl, Or.inl rfl, Or.inr rfl, Or.inr rfl, Or.inr rfl, Or.inr rfl, Or.inr rfl, Or.inl rfl, Or.inr rfl, trivial⟩ (vv_La_valueOf_100 D hD rr σ' K161 hK161 a2 102 a4 a5 a6 a8 σ (Or.inr (Or.inr (Or.inr rfl))) hf))
set_option maxHeartbeats 16000000 in
set_option maxRecDepth 20000 in
theorem vv_La_valueOf_74 (D : Nat) (hD : 2 ≤ D + 1) (rr : Int32) (σ' : gx_R) (K161 : Int32 → Nat → Int32 → Int32 → Int32 → gx_R → Option (Int32 × gx_R)) (hK161 : ∀ (a2 : Int32) (b3 : Nat) (a4 : Int32) (a5 : Int32) (a6 : Int32) (σ : gx_R), (b3 = 81 ∨ b3 = 88 ∨ b3 = 95 ∨ b3 = 102) → K161 a2 b3 a4 a5 a6 σ = some (rr, σ') → gx_Ev lay0 (E0 D) tt_32 (some (.int rr)) σ' 161 [.ref 50, .null, .int a2, .ref b3, .int a4, .int a5, .int a6, .null, .null] [] σ) (a2 : Int32) (b3 : Nat) (a4 : Int32) (a5 : Int32) (a6 : Int32) (a7 : Int32) (a8 : Int32) (σ : gx_R) (hb3 : b3 = 81 ∨ b3 = 88 ∨ b3 = 95 ∨ b3 = 102) (hf : La_valueOf_74 K161 a2 b3 a4 a5 a6 a7 a8 σ = some (rr, σ')) : gx_Ev lay0 (E0 D) tt_32 (some (.int rr)) σ' 74 [.ref 50, .null, .int a2, .ref b3, .int a4, .int a5, .int a6, .int a7, .int a8] [] σ := by
  rcases hb3 with rfl | rfl | rfl | rfl
  · exact vv_La_valueOf_74_81 D hD rr σ'  K161 hK161 a2 a4 a5 a6 a7 a8 σ hf
  · exact vv_La_valueOf_74_88 D hD rr σ'  K161 hK161 a2 a4 a5 a6 a7 a8 σ hf
  · exact vv_La_valueOf_74_95 D hD rr σ'  K161 hK161 a2 a4 a5 a6 a7 a8 σ hf
  · exact vv_La_valueOf_74_102 D hD rr σ'  K161 hK161 a2 a4 a5 a6 a7 a8 σ hf
set_option maxHeartbeats 16000000 in
set_option maxRecDepth 20000 in
theorem vv_La_valueOf_50_81 (D : Nat) (hD : 2 ≤ D + 1) (rr : Int32) (σ' : gx_R) (K161 : Int32 → Nat → Int32 → Int32 → Int32 → gx_R → Option (Int32 × gx_R)) (hK161 : ∀ (a2 : Int32) (b3 : Nat) (a4 : Int32) (a5 : Int32) (a6 : Int32) (σ : gx_R), (b3 = 81 ∨ b3 = 88 ∨ b3 = 95 ∨ b3 = 102) → K161 a2 b3 a4 a5 a6 σ = some (rr, σ') → gx_Ev lay0 (E0 D) tt_32 (some (.int rr)) σ' 161 [.ref 50, .null, .int a2, .ref b3, .int a4, .int a5, .int a6, .null, .null] [] σ) (a2 : Int32) (a4 : Int32) (a5 : Int32) (a6 : Int32) (a7 : Int32) (a8 : Int32) (σ : gx_R) (hf : La_valueOf_50 K161 a2 81 a4 a5 a6 a7 a8 σ = some (rr, σ')) : gx_Ev lay0 (E0 D) tt_32 (some (.int rr)) σ' 50 [.ref 50, .null, .int a2, .ref 81, .int a4, .int a5, .int a6, .int a7, .int a8] [] σ := by
  unfold La_valueOf_50 at hf
  rcases z_if_inv hf with ⟨h1, hf⟩ | ⟨h1, hf⟩
  · exact gx_go_ 5 [.inl 1] [(nI 64) ≤ a5] 161 [.ref 50, .null, .int a2, .ref 81, .int a4, .int a5, .int a6, .int a7, .int a8] [] σ rfl ⟨h1, trivial⟩ (gx_fgt (ls' := [.ref 50, .null, .int a2, .ref 81, .int a4, .int a5, .int a6, .null, .null]) ⟨Or.inr rfl, Or.inl rfl, Or.inr rfl, Or.inr rfl, Or.inr rfl, Or.inr rfl, Or.inr rfl, Or.inl rfl, Or.inl rfl, trivial⟩ (hK161 a2 81 a4 a5 a6 σ (Or.inl rfl) hf))
  · rcases z_if_inv hf with ⟨h2, hf⟩ | ⟨h2, hf⟩
    · exact gx_go_ 15 [.inl 0, .inl 0] [¬ ((nI 64) ≤ a5), ¬ ¬ (a8 = (30 : Int32))] 71 [.ref 50, .null, .int a2, .ref 81, .int a4, .int a5, .int a6, .int a7, .int a8] [.int (a7 >>> ((6 : Int32) &&& 31)), .int a5, .ref 52] σ rfl ⟨h1, (fun q => q h2), trivial⟩ (gx_fgt (ls' := [.ref 50, .null, .int a2, .ref 81, .int a4, .int a5, .int a6, .null, .null]) ⟨Or.inr rfl, Or.inl rfl, Or.inr rfl, Or.inr rfl, Or.inr rfl, Or.inr rfl, Or.inr rfl, Or.inl rfl, Or.inl rfl, trivial⟩ (vv_La_valueOf_71 D hD rr σ' K161 hK161 a2 81 a4 a5 a6 a5 (a7 >>> ((6 : Int32) &&& 31)) σ (Or.inl rfl) hf))
    · obtain ⟨h3, hf⟩ := z_ck_inv hf
      exact gx_go_ 17 [.inl 0, .inl 1] [¬ ((nI 64) ≤ a5), ¬ (a8 = (30 : Int32)), vp_in (a8 - (21 : Int32)) 9] 71 [.ref 50, .null, .int a2, .ref 81, .int a4, .int a5, .int a6, .int a7, .int a8] [.int (σ 51 ((a8 - (21 : Int32)).toNatClampNeg)), .int a5, .ref 52] σ rfl ⟨h1, h2, (z_ix_in h3), trivial⟩ (gx_fgt (ls' := [.ref 50, .null, .int a2, .ref 81, .int a4, .int a5, .int a6, .null, .null]) ⟨Or.inr rfl, Or.inl rfl, Or.inr rfl, Or.inr rfl, Or.inr rfl, Or.inr rfl, Or.inr rfl, Or.inl rfl, Or.inl rfl, trivial⟩ (vv_La_valueOf_71 D hD rr σ' K161 hK161 a2 81 a4 a5 a6 a5 (σ 51 ((a8 - (21 : Int32)).toNatClampNeg)) σ (Or.inl rfl) hf))
set_option maxHeartbeats 16000000 in
set_option maxRecDepth 20000 in
theorem vv_La_valueOf_50_88 (D : Nat) (hD : 2 ≤ D + 1) (rr : Int32) (σ' : gx_R) (K161 : Int32 → Nat → Int32 → Int32 → Int32 → gx_R → Option (Int32 × gx_R)) (hK161 : ∀ (a2 : Int32) (b3 : Nat) (a4 : Int32) (a5 : Int32) (a6 : Int32) (σ : gx_R), (b3 = 81 ∨ b3 = 88 ∨ b3 = 95 ∨ b3 = 102) → K161 a2 b3 a4 a5 a6 σ = some (rr, σ') → gx_Ev lay0 (E0 D) tt_32 (some (.int rr)) σ' 161 [.ref 50, .null, .int a2, .ref b3, .int a4, .int a5, .int a6, .null, .null] [] σ) (a2 : Int32) (a4 : Int32) (a5 : Int32) (a6 : Int32) (a7 : Int32) (a8 : Int32) (σ : gx_R) (hf : La_valueOf_50 K161 a2 88 a4 a5 a6 a7 a8 σ = some (rr, σ')) : gx_Ev lay0 (E0 D) tt_32 (some (.int rr)) σ' 50 [.ref 50, .null, .int a2, .ref 88, .int a4, .int a5, .int a6, .int a7, .int a8] [] σ := by
  unfold La_valueOf_50 at hf
  rcases z_if_inv hf with ⟨h1, hf⟩ | ⟨h1, hf⟩
  · exact gx_go_ 5 [.inl 1] [(nI 64) ≤ a5] 161 [.ref 50, .null, .int a2, .ref 88, .int a4, .int a5, .int a6, .int a7, .int a8] [] σ rfl ⟨h1, trivial⟩ (gx_fgt (ls' := [.ref 50, .null, .int a2, .ref 88, .int a4, .int a5, .int a6, .null, .null]) ⟨Or.inr rfl, Or.inl rfl, Or.inr rfl, Or.inr rfl, Or.inr rfl, Or.inr rfl, Or.inr rfl, Or.inl rfl, Or.inl rfl, trivial⟩ (hK161 a2 88 a4 a5 a6 σ (Or.inr (Or.inl rfl)) hf))
  · rcases z_if_inv hf with ⟨h2, hf⟩ | ⟨h2, hf⟩
    · exact gx_go_ 15 [.inl 0, .inl 0] [¬ ((nI 64) ≤ a5), ¬ ¬ (a8 = (30 : Int32))] 71 [.ref 50, .null, .int a2, .ref 88, .int a4, .int a5, .int a6, .int a7, .int a8] [.int (a7 >>> ((6 : Int32) &&& 31)), .int a5, .ref 52] σ rfl ⟨h1, (fun q => q h2), trivial⟩ (gx_fgt (ls' := [.ref 50, .null, .int a2, .ref 88, .int a4, .int a5, .int a6, .null, .null]) ⟨Or.inr rfl, Or.inl rfl, Or.inr rfl, Or.inr rfl, Or.inr rfl, Or.inr rfl, Or.inr rfl, Or.inl rfl, Or.inl rfl, trivial⟩ (vv_La_valueOf_71 D hD rr σ' K161 hK161 a2 88 a4 a5 a6 a5 (a7 >>> ((6 : Int32) &&& 31)) σ (Or.inr (Or.inl rfl)) hf))
    · obtain ⟨h3, hf⟩ := z_ck_inv hf
      exact gx_go_ 17 [.inl 0, .inl 1] [¬ ((nI 64) ≤ a5), ¬ (a8 = (30 : Int32)), vp_in (a8 - (21 : Int32)) 9] 71 [.ref 50, .null, .int a2, .ref 88, .int a4, .int a5, .int a6, .int a7, .int a8] [.int (σ 51 ((a8 - (21 : Int32)).toNatClampNeg)), .int a5, .ref 52] σ rfl ⟨h1, h2, (z_ix_in h3), trivial⟩ (gx_fgt (ls' := [.ref 50, .null, .int a2, .ref 88, .int a4, .int a5, .int a6, .null, .null]) ⟨Or.inr rfl, Or.inl rfl, Or.inr rfl, Or.inr rfl, Or.inr rfl, Or.inr rfl, Or.inr rfl, Or.inl rfl, Or.inl rfl, trivial⟩ (vv_La_valueOf_71 D hD rr σ' K161 hK161 a2 88 a4 a5 a6 a5 (σ 51 ((a8 - (21 : Int32)).toNatClampNeg)) σ (Or.inr (Or.inl rfl)) hf))
set_option maxHeartbeats 16000000 in
set_option maxRecDepth 20000 in
theorem vv_La_valueOf_50_95 (D : Nat) (hD : 2 ≤ D + 1) (rr : Int32) (σ' : gx_R) (K161 : Int32 → Nat → Int32 → Int32 → Int32 → gx_R → Option (Int32 × gx_R)) (hK161 : ∀ (a2 : Int32) (b3 : Nat) (a4 : Int32) (a5 : Int32) (a6 : Int32) (σ : gx_R), (b3 = 81 ∨ b3 = 88 ∨ b3 = 95 ∨ b3 = 102) → K161 a2 b3 a4 a5 a6 σ = some (rr, σ') → gx_Ev lay0 (E0 D) tt_32 (some (.int rr)) σ' 161 [.ref 50, .null, .int a2, .ref b3, .int a4, .int a5, .int a6, .null, .null] [] σ) (a2 : Int32) (a4 : Int32) (a5 : Int32) (a6 : Int32) (a7 : Int32) (a8 : Int32) (σ : gx_R) (hf : La_valueOf_50 K161 a2 95 a4 a5 a6 a7 a8 σ = some (rr, σ')) : gx_Ev lay0 (E0 D) tt_32 (some (.int rr)) σ' 50 [.ref 50, .null, .int a2, .ref 95, .int a4, .int a5, .int a6, .int a7, .int a8] [] σ := by
  unfold La_valueOf_50 at hf
  rcases z_if_inv hf with ⟨h1, hf⟩ | ⟨h1, hf⟩
  · exact gx_go_ 5 [.inl 1] [(nI 64) ≤ a5] 161 [.ref 50, .null, .int a2, .ref 95, .int a4, .int a5, .int a6, .int a7, .int a8] [] σ rfl ⟨h1, trivial⟩ (gx_fgt (ls' := [.ref 50, .null, .int a2, .ref 95, .int a4, .int a5, .int a6, .null, .null]) ⟨Or.inr rfl, Or.inl rfl, Or.inr rfl, Or.inr rfl, Or.inr rfl, Or.inr rfl, Or.inr rfl, Or.inl rfl, Or.inl rfl, trivial⟩ (hK161 a2 95 a4 a5 a6 σ (Or.inr (Or.inr (Or.inl rfl))) hf))
  · rcases z_if_inv hf with ⟨h2, hf⟩ | ⟨h2, hf⟩
    · exact gx_go_ 15 [.inl 0, .inl 0] [¬ ((nI 64) ≤ a5), ¬ ¬ (a8 = (30 : Int32))] 71 [.ref 50, .null, .int a2, .ref 95, .int a4, .int a5, .int a6, .int a7, .int a8] [.int (a7 >>> ((6 : Int32) &&& 31)), .int a5, .ref 52] σ rfl ⟨h1, (fun q => q h2), trivial⟩ (gx_fgt (ls' := [.ref 50, .null, .int a2, .ref 95, .int a4, .int a5, .int a6, .null, .null]) ⟨Or.inr rfl, Or.inl rfl, Or.inr rfl, Or.inr rfl, Or.inr rfl, Or.inr rfl, Or.inr rfl, Or.inl rfl, Or.inl rfl, trivial⟩ (vv_La_valueOf_71 D hD rr σ' K161 hK161 a2 95 a4 a5 a6 a5 (a7 >>> ((6 : Int32) &&& 31)) σ (Or.inr (Or.inr (Or.inl rfl))) hf))
    · obtain ⟨h3, hf⟩ := z_ck_inv hf
      exact gx_go_ 17 [.inl 0, .inl 1] [¬ ((nI 64) ≤ a5), ¬ (a8 = (30 : Int32)), vp_in (a8 - (21 : Int32)) 9] 71 [.ref 50, .null, .int a2, .ref 95, .int a4, .int a5, .int a6, .int a7, .int a8] [.int (σ 51 ((a8 - (21 : Int32)).toNatClampNeg)), .int a5, .ref 52] σ rfl ⟨h1, h2, (z_ix_in h3), trivial⟩ (gx_fgt (ls' := [.ref 50, .null, .int a2, .ref 95, .int a4, .int a5, .int a6, .null, .null]) ⟨Or.inr rfl, Or.inl rfl, Or.inr rfl, Or.inr rfl, Or.inr rfl, Or.inr rfl, Or.inr rfl, Or.inl rfl, Or.inl rfl, trivial⟩ (vv_La_valueOf_71 D hD rr σ' K161 hK161 a2 95 a4 a5 a6 a5 (σ 51 ((a8 - (21 : Int32)).toNatClampNeg)) σ (Or.inr (Or.inr (Or.inl rfl))) hf))
set_option maxHeartbeats 16000000 in
set_option maxRecDepth 20000 in
theorem vv_La_valueOf_50_102 (D : Nat) (hD : 2 ≤ D + 1) (rr : Int32) (σ' : gx_R) (K161 : Int32 → Nat → Int32 → Int32 → Int32 → gx_R → Option (Int32 × gx_R)) (hK161 : ∀ (a2 : Int32) (b3 : Nat) (a4 : Int32) (a5 : Int32) (a6 : Int32) (σ : gx_R), (b3 = 81 ∨ b3 = 88 ∨ b3 = 95 ∨ b3 = 102) → K161 a2 b3 a4 a5 a6 σ = some (rr, σ') → gx_Ev lay0 (E0 D) tt_32 (some (.int rr)) σ' 161 [.ref 50, .null, .int a2, .ref b3, .int a4, .int a5, .int a6, .null, .null] [] σ) (a2 : Int32) (a4 : Int32) (a5 : Int32) (a6 : Int32) (a7 : Int32) (a8 : Int32) (σ : gx_R) (hf : La_valueOf_50 K161 a2 102 a4 a5 a6 a7 a8 σ = some (rr, σ')) : gx_Ev lay0 (E0 D) tt_32 (some (.int rr)) σ' 50 [.ref 50, .null, .int a2, .ref 102, .int a4, .int a5, .int a6, .int a7, .int a8] [] σ := by
  unfold La_valueOf_50 at hf
  rcases z_if_inv hf with ⟨h1, hf⟩ | ⟨h1, hf⟩
  · exact gx_go_ 5 [.inl 1] [(nI 64) ≤ a5] 161 [.ref 50, .null, .int a2, .ref 102, .int a4, .int a5, .int a6, .int a7, .int a8] [] σ rfl ⟨h1, trivial⟩ (gx_fgt (ls' := [.ref 50, .null, .int a2, .ref 102, .int a4, .int a5, .int a6, .null, .null]) ⟨Or.inr rfl, Or.inl rfl, Or.inr rfl, Or.inr rfl, Or.inr rfl, Or.inr rfl, Or.inr rfl, Or.inl rfl, Or.inl rfl, trivial⟩ (hK161 a2 102 a4 a5 a6 σ (Or.inr (Or.inr (Or.inr rfl))) hf))
  · rcases z_if_inv hf with ⟨h2, hf⟩ | ⟨h2, hf⟩
    · exact gx_go_ 15 [.inl 0, .inl 0] [¬ ((nI 64) ≤ a5), ¬ ¬ (a8 = (30 : Int32))] 71 [.ref 50, .null, .int a2, .ref 102, .int a4, .int a5, .int a6, .int a7, .int a8] [.int (a7 >>> ((6 : Int32) &&& 31)), .int a5, .ref 52] σ rfl ⟨h1, (fun q => q h2), trivial⟩ (gx_fgt (ls' := [.ref 50, .null, .int a2, .ref 102, .int a4, .int a5, .int a6, .null, .null]) ⟨Or.inr rfl, Or.inl rfl, Or.inr rfl, Or.inr rfl, Or.inr rfl, Or.inr rfl, Or.inr rfl, Or.inl rfl, Or.inl rfl, trivial⟩ (vv_La_valueOf_71 D hD rr σ' K161 hK161 a2 102 a4 a5 a6 a5 (a7 >>> ((6 : Int32) &&& 31)) σ (Or.inr (Or.inr (Or.inr rfl))) hf))
    · obtain ⟨h3, hf⟩ := z_ck_inv hf
      exact gx_go_ 17 [.inl 0, .inl 1] [¬ ((nI 64) ≤ a5), ¬ (a8 = (30 : Int32)), vp_in (a8 - (21 : Int32)) 9] 71 [.ref 50, .null, .int a2, .ref 102, .int a4, .int a5, .int a6, .int a7, .int a8] [.int (σ 51 ((a8 - (21 : Int32)).toNatClampNeg)), .int a5, .ref 52] σ rfl ⟨h1, h2, (z_ix_in h3), trivial⟩ (gx_fgt (ls' := [.ref 50, .null, .int a2, .ref 102, .int a4, .int a5, .int a6, .null, .null]) ⟨Or.inr rfl, Or.inl rfl, Or.inr rfl, Or.inr rfl, Or.inr rfl, Or.inr rfl, Or.inr rfl, Or.inl rfl, Or.inl rfl, trivial⟩ (vv_La_valueOf_71 D hD rr σ' K161 hK161 a2 102 a4 a5 a6 a5 (σ 51 ((a8 - (21 : Int32)).toNatClampNeg)) σ (Or.inr (Or.inr (Or.inr rfl))) hf))
set_option maxHeartbeats 16000000 in
set_option maxRecDepth 20000 in
theorem vv_La_valueOf_50 (D : Nat) (hD : 2 ≤ D + 1) (rr : Int32) (σ' : gx_R) (K161 : Int32 → Nat → Int32 → Int32 → Int32 → gx_R → Option (Int32 × gx_R)) (hK161 : ∀ (a2 : Int32) (b3 : Nat) (a4 : Int32) (a5 : Int32) (a6 : Int32) (σ : gx_R), (b3 = 81 ∨ b3 = 88 ∨ b3 = 95 ∨ b3 = 102) → K161 a2 b3 a4 a5 a6 σ = some (rr, σ') → gx_Ev lay0 (E0 D) tt_32 (some (.int rr)) σ' 161 [.ref 50, .null, .int a2, .ref b3, .int a4, .int a5, .int a6, .null, .null] [] σ) (a2 : Int32) (b3 : Nat) (a4 : Int32) (a5 : Int32) (a6 : Int32) (a7 : Int32) (a8 : Int32) (σ : gx_R) (hb3 : b3 = 81 ∨ b3 = 88 ∨ b3 = 95 ∨ b3 = 102) (hf : La_valueOf_50 K161 a2 b3 a4 a5 a6 a7 a8 σ = some (rr, σ')) : gx_Ev lay0 (E0 D) tt_32 (some (.int rr)) σ' 50 [.ref 50, .null, .int a2, .ref b3, .int a4, .int a5, .int a6, .int a7, .int a8] [] σ := by
  rcases hb3 with rfl | rfl | rfl | rfl
  · exact vv_La_valueOf_50_81 D hD rr σ'  K161 hK161 a2 a4 a5 a6 a7 a8 σ hf
  · exact vv_La_valueOf_50_88 D hD rr σ'  K161 hK161 a2 a4 a5 a6 a7 a8 σ hf
  · exact vv_La_valueOf_50_95 D hD rr σ'  K161 hK161 a2 a4 a5 a6 a7 a8 σ hf
  · exact vv_La_valueOf_50_102 D hD rr σ'  K161 hK161 a2 a4 a5 a6 a7 a8 σ hf
set_option maxHeartbeats 16000000 in
set_option maxRecDepth 20000 in
theorem vv_La_valueOf_161_81 (D : Nat) (hD : 2 ≤ D + 1) (rr : Int32) (σ' : gx_R) (K16 : Int32 → Nat → Int32 → Int32 → Int32 → gx_R → Option (Int32 × gx_R)) (hK16 : ∀ (a2 : Int32) (b3 : Nat) (a4 : Int32) (a5 : Int32) (a6 : Int32) (σ : gx_R), (b3 = 81 ∨ b3 = 88 ∨ b3 = 95 ∨ b3 = 102) → K16 a2 b3 a4 a5 a6 σ = some (rr, σ') → gx_Ev lay0 (E0 D) tt_32 (some (.int rr)) σ' 16 [.ref 50, .null, .int a2, .ref b3, .int a4, .int a5, .int a6, .null, .null] [] σ) (a2 : Int32) (a4 : Int32) (a5 : Int32) (a6 : Int32) (σ : gx_R) (hf : La_valueOf_161 K16 a2 81 a4 a5 a6 σ = some (rr, σ')) : gx_Ev lay0 (E0 D) tt_32 (some (.int rr)) σ' 161 [.ref 50, .null, .int a2, .ref 81, .int a4, .int a5, .int a6, .null, .null] [] σ := by
  unfold La_valueOf_161 at hf
  exact gx_go_ 2 [] [] 16 [.ref 50, .null, .int a2, .ref 81, .int a4, .int a5, .int (a6 + 1), .null, .null] [] σ rfl trivial (gx_fgt (ls' := [.ref 50, .null, .int a2, .ref 81, .int a4, .int a5, .int (a6 + 1), .null, .null]) ⟨Or.inr rfl, Or.inl rfl, Or.inr rfl, Or.inr rfl, Or.inr rfl, Or.inr rfl, Or.inr rfl, Or.inl rfl, Or.inl rfl, trivial⟩ (hK16 a2 81 a4 a5 (a6 + 1) σ (Or.inl rfl) hf))
set_option maxHeartbeats 16000000 in
set_option maxRecDepth 20000 in
theorem vv_La_valueOf_161_88 (D : Nat) (hD : 2 ≤ D + 1) (rr : Int32) (σ' : gx_R) (K16 : Int32 → Nat → Int32 → Int32 → Int32 → gx_R → Option (Int32 × gx_R)) (hK16 : ∀ (a2 : Int32) (b3 : Nat) (a4 : Int32) (a5 : Int32) (a6 : Int32) (σ : gx_R), (b3 = 81 ∨ b3 = 88 ∨ b3 = 95 ∨ b3 = 102) → K16 a2 b3 a4 a5 a6 σ = some (rr, σ') → gx_Ev lay0 (E0 D) tt_32 (some (.int rr)) σ' 16 [.ref 50, .null, .int a2, .ref b3, .int a4, .int a5, .int a6, .null, .null] [] σ) (a2 : Int32) (a4 : Int32) (a5 : Int32) (a6 : Int32) (σ : gx_R) (hf : La_valueOf_161 K16 a2 88 a4 a5 a6 σ = some (rr, σ')) : gx_Ev lay0 (E0 D) tt_32 (some (.int rr)) σ' 161 [.ref 50, .null, .int a2, .ref 88, .int a4, .int a5, .int a6, .null, .null] [] σ := by
  unfold La_valueOf_161 at hf
  exact gx_go_ 2 [] [] 16 [.ref 50, .null, .int a2, .ref 88, .int a4, .int a5, .int (a6 + 1), .null, .null] [] σ rfl trivial (gx_fgt (ls' := [.ref 50, .null, .int a2, .ref 88, .int a4, .int a5, .int (a6 + 1), .null, .null]) ⟨Or.inr rfl, Or.inl rfl, Or.inr rfl, Or.inr rfl, Or.inr rfl, Or.inr rfl, Or.inr rfl, Or.inl rfl, Or.inl rfl, trivial⟩ (hK16 a2 88 a4 a5 (a6 + 1) σ (Or.inr (Or.inl rfl)) hf))
set_option maxHeartbeats 16000000 in
set_option maxRecDepth 20000 in
theorem vv_La_valueOf_161_95 (D : Nat) (hD : 2 ≤ D + 1) (rr : Int32) (σ' : gx_R) (K16 : Int32 → Nat → Int32 → Int32 → Int32 → gx_R → Option (Int32 × gx_R)) (hK16 : ∀ (a2 : Int32) (b3 : Nat) (a4 : Int32) (a5 : Int32) (a6 : Int32) (σ : gx_R), (b3 = 81 ∨ b3 = 88 ∨ b3 = 95 ∨ b3 = 102) → K16 a2 b3 a4 a5 a6 σ = some (rr, σ') → gx_Ev lay0 (E0 D) tt_32 (some (.int rr)) σ' 16 [.ref 50, .null, .int a2, .ref b3, .int a4, .int a5, .int a6, .null, .null] [] σ) (a2 : Int32) (a4 : Int32) (a5 : Int32) (a6 : Int32) (σ : gx_R) (hf : La_valueOf_161 K16 a2 95 a4 a5 a6 σ = some (rr, σ')) : gx_Ev lay0 (E0 D) tt_32 (some (.int rr)) σ' 161 [.ref 50, .null, .int a2, .ref 95, .int a4, .int a5, .int a6, .null, .null] [] σ := by
  unfold La_valueOf_161 at hf
  exact gx_go_ 2 [] [] 16 [.ref 50, .null, .int a2, .ref 95, .int a4, .int a5, .int (a6 + 1), .null, .null] [] σ rfl trivial (gx_fgt (ls' := [.ref 50, .null, .int a2, .ref 95, .int a4, .int a5, .int (a6 + 1), .null, .null]) ⟨Or.inr rfl, Or.inl rfl, Or.inr rfl, Or.inr rfl, Or.inr rfl, Or.inr rfl, Or.inr rfl, Or.inl rfl, Or.inl rfl, trivial⟩ (hK16 a2 95 a4 a5 (a6 + 1) σ (Or.inr (Or.inr (Or.inl rfl))) hf))
set_option maxHeartbeats 16000000 in
set_option maxRecDepth 20000 in
theorem vv_La_valueOf_161_102 (D : Nat) (hD : 2 ≤ D + 1) (rr : Int32) (σ' : gx_R) (K16 : Int32 → Nat → Int32 → Int32 → Int32 → gx_R → Option (Int32 × gx_R)) (hK16 : ∀ (a2 : Int32) (b3 : Nat) (a4 : Int32) (a5 : Int32) (a6 : Int32) (σ : gx_R), (b3 = 81 ∨ b3 = 88 ∨ b3 = 95 ∨ b3 = 102) → K16 a2 b3 a4 a5 a6 σ = some (rr, σ') → gx_Ev lay0 (E0 D) tt_32 (some (.int rr)) σ' 16 [.ref 50, .null, .int a2, .ref b3, .int a4, .int a5, .int a6, .null, .null] [] σ) (a2 : Int32) (a4 : Int32) (a5 : Int32) (a6 : Int32) (σ : gx_R) (hf : La_valueOf_161 K16 a2 102 a4 a5 a6 σ = some (rr, σ')) : gx_Ev lay0 (E0 D) tt_32 (some (.int rr)) σ' 161 [.ref 50, .null, .int a2, .ref 102, .int a4, .int a5, .int a6, .null, .null] [] σ := by
  unfold La_valueOf_161 at hf
  exact gx_go_ 2 [] [] 16 [.ref 50, .null, .int a2, .ref 102, .int a4, .int a5, .int (a6 + 1), .null, .null] [] σ rfl trivial (gx_fgt (ls' := [.ref 50, .null, .int a2, .ref 102, .int a4, .int a5, .int (a6 + 1), .null, .null]) ⟨Or.inr rfl, Or.inl rfl, Or.inr rfl, Or.inr rfl, Or.inr rfl, Or.inr rfl, Or.inr rfl, Or.inl rfl, Or.inl rfl, trivial⟩ (hK16 a2 102 a4 a5 (a6 + 1) σ (Or.inr (Or.inr (Or.inr rfl))) hf))
set_option maxHeartbeats 16000000 in
set_option maxRecDepth 20000 in
theorem vv_La_valueOf_161 (D : Nat) (hD : 2 ≤ D + 1) (rr : Int32) (σ' : gx_R) (K16 : Int32 → Nat → Int32 → Int32 → Int32 → gx_R → Option (Int32 × gx_R)) (hK16 : ∀ (a2 : Int32) (b3 : Nat) (a4 : Int32) (a5 : Int32) (a6 : Int32) (σ : gx_R), (b3 = 81 ∨ b3 = 88 ∨ b3 = 95 ∨ b3 = 102) → K16 a2 b3 a4 a5 a6 σ = some (rr, σ') → gx_Ev lay0 (E0 D) tt_32 (some (.int rr)) σ' 16 [.ref 50, .null, .int a2, .ref b3, .int a4, .int a5, .int a6, .null, .null] [] σ) (a2 : Int32) (b3 : Nat) (a4 : Int32) (a5 : Int32) (a6 : Int32) (σ : gx_R) (hb3 : b3 = 81 ∨ b3 = 88 ∨ b3 = 95 ∨ b3 = 102) (hf : La_valueOf_161 K16 a2 b3 a4 a5 a6 σ = some (rr, σ')) : gx_Ev lay0 (E0 D) tt_32 (some (.int rr)) σ' 161 [.ref 50, .null, .int a2, .ref b3, .int a4, .int a5, .int a6, .null, .null] [] σ := by
  rcases hb3 with rfl | rfl | rfl | rfl
  · exact vv_La_valueOf_161_81 D hD rr σ'  K16 hK16 a2 a4 a5 a6 σ hf
  · exact vv_La_valueOf_161_88 D hD rr σ'  K16 hK16 a2 a4 a5 a6 σ hf
  · exact vv_La_valueOf_161_95 D hD rr σ'  K16 hK16 a2 a4 a5 a6 σ hf
  · exact vv_La_valueOf_161_102 D hD rr σ'  K16 hK16 a2 a4 a5 a6 σ hf
set_option maxHeartbeats 16000000 in
set_option maxRecDepth 20000 in
theorem vv_La_valueOf_163 (D : Nat) (hD : 2 ≤ D + 1) (rr : Int32) (σ' : gx_R) (a2 : Int32) (a5 : Int32) (σ : gx_R) (hf : La_valueOf_163 a2 a5 σ = some (rr, σ')) : gx_Ev lay0 (E0 D) tt_32 (some (.int rr)) σ' 163 [.ref 50, .null, .int a2, .null, .null, .int a5, .null, .null, .null] [] σ := by
  unfold La_valueOf_163 at hf
  rcases z_if_inv hf with ⟨h1, hf⟩ | ⟨h1, hf⟩
  · obtain ⟨e1, e2⟩ := z_ret hf
    subst e1
    subst e2
    exact gx_end 4 [.inl 1] [a5 ≤ 0] rfl ⟨h1, trivial⟩
  · obtain ⟨h2, hf⟩ := z_ck_inv hf
    obtain ⟨e1, e2⟩ := z_ret hf
    subst e1
    subst e2
    exact gx_end 14 [.inl 0] [¬ (a5 ≤ 0), vp_in (a5 - (1 : Int32)) 64] rfl ⟨h1, (z_ix_in h2), trivial⟩
set_option maxHeartbeats 16000000 in
set_option maxRecDepth 20000 in
theorem vv_La_valueOf_16_B_81 (D : Nat) (hD : 2 ≤ D + 1) (rr : Int32) (σ' : gx_R) (K16 : Int32 → Nat → Int32 → Int32 → Int32 → gx_R → Option (Int32 × gx_R)) (hK16 : ∀ (a2 : Int32) (b3 : Nat) (a4 : Int32) (a5 : Int32) (a6 : Int32) (σ : gx_R), (b3 = 81 ∨ b3 = 88 ∨ b3 = 95 ∨ b3 = 102) → K16 a2 b3 a4 a5 a6 σ = some (rr, σ') → gx_Ev lay0 (E0 D) tt_32 (some (.int rr)) σ' 16 [.ref 50, .null, .int a2, .ref b3, .int a4, .int a5, .int a6, .null, .null] [] σ) (a2 : Int32) (a4 : Int32) (a5 : Int32) (a6 : Int32) (σ : gx_R) (hf : La_valueOf_16_B K16 a2 81 a4 a5 a6 σ = some (rr, σ')) : gx_Ev lay0 (E0 D) tt_32 (some (.int rr)) σ' 16 [.ref 50, .null, .int a2, .ref 81, .int a4, .int a5, .int a6, .null, .null] [] σ := by
  unfold La_valueOf_16_B at hf
  rcases z_if_inv hf with ⟨h1, hf⟩ | ⟨h1, hf⟩
  · exact gx_go_ 3 [.inl 1] [(300 : Int32) ≤ a6] 163 [.ref 50, .null, .int a2, .ref 81, .int a4, .int a5, .int a6, .null, .null] [] σ rfl ⟨h1, trivial⟩ (gx_fgt (ls' := [.ref 50, .null, .int a2, .null, .null, .int a5, .null, .null, .null]) ⟨Or.inr rfl, Or.inl rfl, Or.inr rfl, Or.inl rfl, Or.inl rfl, Or.inr rfl, Or.inl rfl, Or.inl rfl, Or.inl rfl, trivial⟩ (vv_La_valueOf_163 D hD rr σ' a2 a5 σ hf))
  · rcases z_if_inv hf with ⟨h2, hf⟩ | ⟨h2, hf⟩
    · exact gx_go_ 5 [.inl 0, .inl 1] [¬ ((300 : Int32) ≤ a6), a4 < 0] 163 [.ref 50, .null, .int a2, .ref 81, .int a4, .int a5, .int a6, .null, .null] [] σ rfl ⟨h1, h2, trivial⟩ (gx_fgt (ls' := [.ref 50, .null, .int a2, .null, .null, .int a5, .null, .null, .null]) ⟨Or.inr rfl, Or.inl rfl, Or.inr rfl, Or.inl rfl, Or.inl rfl, Or.inr rfl, Or.inl rfl, Or.inl rfl, Or.inl rfl, trivial⟩ (vv_La_valueOf_163 D hD rr σ' a2 a5 σ hf))
    · rcases z_if_inv hf with ⟨h3, hf⟩ | ⟨h3, hf⟩
      · exact gx_go_ 9 [.inl 0, .inl 0, .inl 1] [¬ ((300 : Int32) ≤ a6), ¬ (a4 < 0), (σ 81 7) ≤ a4] 163 [.ref 50, .null, .int a2, .ref 81, .int a4, .int a5, .int a6, .null, .null] [] σ rfl ⟨h1, h2, h3, trivial⟩ (gx_fgt (ls' := [.ref 50, .null, .int a2, .null, .null, .int a5, .null, .null, .null]) ⟨Or.inr rfl, Or.inl rfl, Or.inr rfl, Or.inl rfl, Or.inl rfl, Or.inr rfl, Or.inl rfl, Or.inl rfl, Or.inl rfl, trivial⟩ (vv_La_valueOf_163 D hD rr σ' a2 a5 σ hf))
      · obtain ⟨h4, hf⟩ := z_ck_inv hf
        rcases z_if_inv hf with ⟨h5, hf⟩ | ⟨h5, hf⟩
        · exact gx_go_ 15 [.inl 0, .inl 0, .inl 0, .inl 1] [¬ ((300 : Int32) ≤ a6), ¬ (a4 < 0), ¬ ((σ 81 7) ≤ a4), vp_in a4 300, (σ 87 a4.toNatClampNeg) = (43 : Int32)] 163 [.ref 50, .null, .int a2, .ref 81, .int a4, .int a5, .int a6, .null, .null] [] σ rfl ⟨h1, h2, h3, (z_ix_in h4), h5, trivial⟩ (gx_fgt (ls' := [.ref 50, .null, .int a2, .null, .null, .int a5, .null, .null, .null]) ⟨Or.inr rfl, Or.inl rfl, Or.inr rfl, Or.inl rfl, Or.inl rfl, Or.inr rfl, Or.inl rfl, Or.inl rfl, Or.inl rfl, trivial⟩ (vv_La_valueOf_163 D hD rr σ' a2 a5 σ hf))
        · obtain ⟨h6, hf⟩ := z_ck_inv hf
          rcases z_if_inv hf with ⟨h7, hf⟩ | ⟨h7, hf⟩
          · exact gx_go_ 28 [.inl 0, .inl 0, .inl 0, .inl 0, .inl 1] [¬ ((300 : Int32) ≤ a6), ¬ (a4 < 0), ¬ ((σ 81 7) ≤ a4), vp_in a4 300, ¬ ((σ 87 a4.toNatClampNeg) = (43 : Int32)), vp_in a4 300, ((σ 87 a4.toNatClampNeg) &&& (63 : Int32)) = (30 : Int32)] 50 [.ref 50, .null, .int a2, .ref 81, .int (a4 + 1), .int a5, .int a6, .int (σ 87 a4.toNatClampNeg), .int ((σ 87 a4.toNatClampNeg) &&& (63 : Int32))] [] σ rfl ⟨h1, h2, h3, (z_ix_in h4), h5, (z_ix_in h6), h7, trivial⟩ (gx_fgt (ls' := [.ref 50, .null, .int a2, .ref 81, .int (a4 + 1), .int a5, .int a6, .int (σ 87 a4.toNatClampNeg), .int ((σ 87 a4.toNatClampNeg) &&& (63 : Int32))]) ⟨Or.inr rfl, Or.inl rfl, Or.inr rfl, Or.inr rfl, Or.inr rfl, Or.inr rfl, Or.inr rfl, Or.inr rfl, Or.inr rfl, trivial⟩ (vv_La_valueOf_50 D hD rr σ' (La_valueOf_161 K16) (vv_La_valueOf_161 D hD rr σ' K16 hK16) a2 81 (a4 + 1) a5 a6 (σ 87 a4.toNatClampNeg) ((σ 87 a4.toNatClampNeg) &&& (63 : Int32)) σ (Or.inl rfl) hf))
          · rcases z_if_inv hf with ⟨h8, hf⟩ | ⟨h8, hf⟩
            · exact gx_go_ 31 [.inl 0, .inl 0, .inl 0, .inl 0, .inl 0, .inl 1] [¬ ((300 : Int32) ≤ a6), ¬ (a4 < 0), ¬ ((σ 81 7) ≤ a4), vp_in a4 300, ¬ ((σ 87 a4.toNatClampNeg) = (43 : Int32)), vp_in a4 300, ¬ (((σ 87 a4.toNatClampNeg) &&& (63 : Int32)) = (30 : Int32)), ((σ 87 a4.toNatClampNeg) &&& (63 : Int32)) < (21 : Int32)] 74 [.ref 50, .null, .int a2, .ref 81, .int (a4 + 1), .int a5, .int a6, .int (σ 87 a4.toNatClampNeg), .int ((σ 87 a4.toNatClampNeg) &&& (63 : Int32))] [] σ rfl ⟨h1, h2, h3, (z_ix_in h4), h5, (z_ix_in h6), h7, h8, trivial⟩ (gx_fgt (ls' := [.ref 50, .null, .int a2, .ref 81, .int (a4 + 1), .int a5, .int a6, .int (σ 87 a4.toNatClampNeg), .int ((σ 87 a4.toNatClampNeg) &&& (63 : Int32))]) ⟨Or.inr rfl, Or.inl rfl, Or.inr rfl, Or.inr rfl, Or.inr rfl, Or.inr rfl, Or.inr rfl, Or.inr rfl, Or.inr rfl, trivial⟩ (vv_La_valueOf_74 D hD rr σ' (La_valueOf_161 K16) (vv_La_valueOf_161 D hD rr σ' K16 hK16) a2 81 (a4 + 1) a5 a6 (σ 87 a4.toNatClampNeg) ((σ 87 a4.toNatClampNeg) &&& (63 : Int32)) σ (Or.inl rfl) hf))
            · rcases z_if_inv hf with ⟨h9, hf⟩ | ⟨h9, hf⟩
              · exact gx_go_ 34 [.inl 0, .inl 0, .inl 0, .inl 0, .inl 0, .inl 0, .inl 1] [¬ ((300 : Int32) ≤ a6), ¬ (a4 < 0), ¬ ((σ 81 7) ≤ a4), vp_in a4 300, ¬ ((σ 87 a4.toNatClampNeg) = (43 : Int32)), vp_in a4 300, ¬ (((σ 87 a4.toNatClampNeg) &&& (63 : Int32)) = (30 : Int32)), ¬ (((σ 87 a4.toNatClampNeg) &&& (63 : Int32)) < (21 : Int32)), (30 : Int32) ≤ ((σ 87 a4.toNatClampNeg) &&& (63 : Int32))] 74 [.ref 50, .null, .int a2, .ref 81, .int (a4 + 1), .int a5, .int a6, .int (σ 87 a4.toNatClampNeg), .int ((σ 87 a4.toNatClampNeg) &&& (63 : Int32))] [] σ rfl ⟨h1, h2, h3, (z_ix_in h4), h5, (z_ix_in h6), h7, h8, h9, trivial⟩ (gx_fgt (ls' := [.ref 50, .null, .int a2, .ref 81, .int (a4 + 1), .int a5, .int a6, .int (σ 87 a4.toNatClampNeg), .int ((σ 87 a4.toNatClampNeg) &&& (63 : Int32))]) ⟨Or.inr rfl, Or.inl rfl, Or.inr rfl, Or.inr rfl, Or.inr rfl, Or.inr rfl, Or.inr rfl, Or.inr rfl, Or.inr rfl, trivial⟩ (vv_La_valueOf_74 D hD rr σ' (La_valueOf_161 K16) (vv_La_valueOf_161 D hD rr σ' K16 hK16) a2 81 (a4 + 1) a5 a6 (σ 87 a4.toNatClampNeg) ((σ 87 a4.toNatClampNeg) &&& (63 : Int32)) σ (Or.inl rfl) hf))
              · exact gx_go_ 34 [.inl 0, .inl 0, .inl 0, .inl 0, .inl 0, .inl 0, .inl 0] [¬ ((300 : Int32) ≤ a6), ¬ (a4 < 0), ¬ ((σ 81 7) ≤ a4), vp_in a4 300, ¬ ((σ 87 a4.toNatClampNeg) = (43 : Int32)), vp_in a4 300, ¬ (((σ 87 a4.toNatClampNeg) &&& (63 : Int32)) = (30 : Int32)), ¬ (((σ 87 a4.toNatClampNeg) &&& (63 : Int32)) < (21 : Int32)), ¬ ((30 : Int32) ≤ ((σ 87 a4.toNatClampNeg) &&& (63 : Int32)))] 50 [.ref 50, .null, .int a2, .ref 81, .int (a4 + 1), .int a5, .int a6, .int (σ 87 a4.toNatClampNeg), .int ((σ 87 a4.toNatClampNeg) &&& (63 : Int32))] [] σ rfl ⟨h1, h2, h3, (z_ix_in h4), h5, (z_ix_in h6), h7, h8, h9, trivial⟩ (gx_fgt (ls' := [.ref 50, .null, .int a2, .ref 81, .int (a4 + 1), .int a5, .int a6, .int (σ 87 a4.toNatClampNeg), .int ((σ 87 a4.toNatClampNeg) &&& (63 : Int32))]) ⟨Or.inr rfl, Or.inl rfl, Or.inr rfl, Or.inr rfl, Or.inr rfl, Or.inr rfl, Or.inr rfl, Or.inr rfl, Or.inr rfl, trivial⟩ (vv_La_valueOf_50 D hD rr σ' (La_valueOf_161 K16) (vv_La_valueOf_161 D hD rr σ' K16 hK16) a2 81 (a4 + 1) a5 a6 (σ 87 a4.toNatClampNeg) ((σ 87 a4.toNatClampNeg) &&& (63 : Int32)) σ (Or.inl rfl) hf))
set_option maxHeartbeats 16000000 in
set_option maxRecDepth 20000 in
theorem vv_La_valueOf_16_B_88 (D : Nat) (hD : 2 ≤ D + 1) (rr : Int32) (σ' : gx_R) (K16 : Int32 → Nat → Int32 → Int32 → Int32 → gx_R → Option (Int32 × gx_R)) (hK16 : ∀ (a2 : Int32) (b3 : Nat) (a4 : Int32) (a5 : Int32) (a6 : Int32) (σ : gx_R), (b3 = 81 ∨ b3 = 88 ∨ b3 = 95 ∨ b3 = 102) → K16 a2 b3 a4 a5 a6 σ = some (rr, σ') → gx_Ev lay0 (E0 D) tt_32 (some (.int rr)) σ' 16 [.ref 50, .null, .int a2, .ref b3, .int a4, .int a5, .int a6, .null, .null] [] σ) (a2 : Int32) (a4 : Int32) (a5 : Int32) (a6 : Int32) (σ : gx_R) (hf : La_valueOf_16_B K16 a2 88 a4 a5 a6 σ = some (rr, σ')) : gx_Ev lay0 (E0 D) tt_32 (some (.int rr)) σ' 16 [.ref 50, .null, .int a2, .ref 88, .int a4, .int a5, .int a6, .null, .null] [] σ := by
  unfold La_valueOf_16_B at hf
  rcases z_if_inv hf with ⟨h1, hf⟩ | ⟨h1, hf⟩
  · exact gx_go_ 3 [.inl 1] [(300 : Int32) ≤ a6] 163 [.ref 50, .null, .int a2, .ref 88, .int a4, .int a5, .int a6, .null, .null] [] σ rfl ⟨h1, trivial⟩ (gx_fgt (ls' := [.ref 50, .null, .int a2, .null, .null, .int a5, .null, .null, .null]) ⟨Or.inr rfl, Or.inl rfl, Or.inr rfl, Or.inl rfl, Or.inl rfl, Or.inr rfl, Or.inl rfl, Or.inl rfl, Or.inl rfl, trivial⟩ (vv_La_valueOf_163 D hD rr σ' a2 a5 σ hf))
  · rcases z_if_inv hf with ⟨h2, hf⟩ | ⟨h2, hf⟩
    · exact gx_go_ 5 [.inl 0, .inl 1] [¬ ((300 : Int32) ≤ a6), a4 < 0] 163 [.ref 50, .null, .int a2, .ref 88, .int a4, .int a5, .int a6, .null, .null] [] σ rfl ⟨h1, h2, trivial⟩ (gx_fgt (ls' := [.ref 50, .null, .int a2, .null, .null, .int a5, .null, .null, .null]) ⟨Or.inr rfl, Or.inl rfl, Or.inr rfl, Or.inl rfl, Or.inl rfl, Or.inr rfl, Or.inl rfl, Or.inl rfl, Or.inl rfl, trivial⟩ (vv_La_valueOf_163 D hD rr σ' a2 a5 σ hf))
    · rcases z_if_inv hf with ⟨h3, hf⟩ | ⟨h3, hf⟩
      · exact gx_go_ 9 [.inl 0, .inl 0, .inl 1] [¬ ((300 : Int32) ≤ a6), ¬ (a4 < 0), (σ 88 7) ≤ a4] 163 [.ref 50, .null, .int a2, .ref 88, .int a4, .int a5, .int a6, .null, .null] [] σ rfl ⟨h1, h2, h3, trivial⟩ (gx_fgt (ls' := [.ref 50, .null, .int a2, .null, .null, .int a5, .null, .null, .null]) ⟨Or.inr rfl, Or.inl rfl, Or.inr rfl, Or.inl rfl, Or.inl rfl, Or.inr rfl, Or.inl rfl, Or.inl rfl, Or.inl rfl, trivial⟩ (vv_La_valueOf_163 D hD rr σ' a2 a5 σ hf))
      · obtain ⟨h4, hf⟩ := z_ck_inv hf
        rcases z_if_inv hf with ⟨h5, hf⟩ | ⟨h5, hf⟩
        · exact gx_go_ 15 [.inl 0, .inl 0, .inl 0, .inl 1] [¬ ((300 : Int32) ≤ a6), ¬ (a4 < 0), ¬ ((σ 88 7) ≤ a4), vp_in a4 300, (σ 94 a4.toNatClampNeg) = (43 : Int32)] 163 [.ref 50, .null, .int a2, .ref 88, .int a4, .int a5, .int a6, .null, .null] [] σ rfl ⟨h1, h2, h3, (z_ix_in h4), h5, trivial⟩ (gx_fgt (ls' := [.ref 50, .null, .int a2, .null, .null, .int a5, .null, .null, .null]) ⟨Or.inr rfl, Or.inl rfl, Or.inr rfl, Or.inl rfl, Or.inl rfl, Or.inr rfl, Or.inl rfl, Or.inl rfl, Or.inl rfl, trivial⟩ (vv_La_valueOf_163 D hD rr σ' a2 a5 σ hf))
        · obtain ⟨h6, hf⟩ := z_ck_inv hf
          rcases z_if_inv hf with ⟨h7, hf⟩ | ⟨h7, hf⟩
          · exact gx_go_ 28 [.inl 0, .inl 0, .inl 0, .inl 0, .inl 1] [¬ ((300 : Int32) ≤ a6), ¬ (a4 < 0), ¬ ((σ 88 7) ≤ a4), vp_in a4 300, ¬ ((σ 94 a4.toNatClampNeg) = (43 : Int32)), vp_in a4 300, ((σ 94 a4.toNatClampNeg) &&& (63 : Int32)) = (30 : Int32)] 50 [.ref 50, .null, .int a2, .ref 88, .int (a4 + 1), .int a5, .int a6, .int (σ 94 a4.toNatClampNeg), .int ((σ 94 a4.toNatClampNeg) &&& (63 : Int32))] [] σ rfl ⟨h1, h2, h3, (z_ix_in h4), h5, (z_ix_in h6), h7, trivial⟩ (gx_fgt (ls' := [.ref 50, .null, .int a2, .ref 88, .int (a4 + 1), .int a5, .int a6, .int (σ 94 a4.toNatClampNeg), .int ((σ 94 a4.toNatClampNeg) &&& (63 : Int32))]) ⟨Or.inr rfl, Or.inl rfl, Or.inr rfl, Or.inr rfl, Or.inr rfl, Or.inr rfl, Or.inr rfl, Or.inr rfl, Or.inr rfl, trivial⟩ (vv_La_valueOf_50 D hD rr σ' (La_valueOf_161 K16) (vv_La_valueOf_161 D hD rr σ' K16 hK16) a2 88 (a4 + 1) a5 a6 (σ 94 a4.toNatClampNeg) ((σ 94 a4.toNatClampNeg) &&& (63 : Int32)) σ (Or.inr (Or.inl rfl)) hf))
          · rcases z_if_inv hf with ⟨h8, hf⟩ | ⟨h8, hf⟩
            · exact gx_go_ 31 [.inl 0, .inl 0, .inl 0, .inl 0, .inl 0, .inl 1] [¬ ((300 : Int32) ≤ a6), ¬ (a4 < 0), ¬ ((σ 88 7) ≤ a4), vp_in a4 300, ¬ ((σ 94 a4.toNatClampNeg) = (43 : Int32)), vp_in a4 300, ¬ (((σ 94 a4.toNatClampNeg) &&& (63 : Int32)) = (30 : Int32)), ((σ 94 a4.toNatClampNeg) &&& (63 : Int32)) < (21 : Int32)] 74 [.ref 50, .null, .int a2, .ref 88, .int (a4 + 1), .int a5, .int a6, .int (σ 94 a4.toNatClampNeg), .int ((σ 94 a4.toNatClampNeg) &&& (63 : Int32))] [] σ rfl ⟨h1, h2, h3, (z_ix_in h4), h5, (z_ix_in h6), h7, h8, trivial⟩ (gx_fgt (ls' := [.ref 50, .null, .int a2, .ref 88, .int (a4 + 1), .int a5, .int a6, .int (σ 94 a4.toNatClampNeg), .int ((σ 94 a4.toNatClampNeg) &&& (63 : Int32))]) ⟨Or.inr rfl, Or.inl rfl, Or.inr rfl, Or.inr rfl, Or.inr rfl, Or.inr rfl, Or.inr rfl, Or.inr rfl, Or.inr rfl, trivial⟩ (vv_La_valueOf_74 D hD rr σ' (La_valueOf_161 K16) (vv_La_valueOf_161 D hD rr σ' K16 hK16) a2 88 (a4 + 1) a5 a6 (σ 94 a4.toNatClampNeg) ((σ 94 a4.toNatClampNeg) &&& (63 : Int32)) σ (Or.inr (Or.inl rfl)) hf))
            · rcases z_if_inv hf with ⟨h9, hf⟩ | ⟨h9, hf⟩
              · exact gx_go_ 34 [.inl 0, .inl 0, .inl 0, .inl 0, .inl 0, .inl 0, .inl 1] [¬ ((300 : Int32) ≤ a6), ¬ (a4 < 0), ¬ ((σ 88 7) ≤ a4), vp_in a4 300, ¬ ((σ 94 a4.toNatClampNeg) = (43 : Int32)), vp_in a4 300, ¬ (((σ 94 a4.toNatClampNeg) &&& (63 : Int32)) = (30 : Int32)), ¬ (((σ 94 a4.toNatClampNeg) &&& (63 : Int32)) < (21 : Int32)), (30 : Int32) ≤ ((σ 94 a4.toNatClampNeg) &&& (63 : Int32))] 74 [.ref 50, .null, .int a2, .ref 88, .int (a4 + 1), .int a5, .int a6, .int (σ 94 a4.toNatClampNeg), .int ((σ 94 a4.toNatClampNeg) &&& (63 : Int32))] [] σ rfl ⟨h1, h2, h3, (z_ix_in h4), h5, (z_ix_in h6), h7, h8, h9, trivial⟩ (gx_fgt (ls' := [.ref 50, .null, .int a2, .ref 88, .int (a4 + 1), .int a5, .int a6, .int (σ 94 a4.toNatClampNeg), .int ((σ 94 a4.toNatClampNeg) &&& (63 : Int32))]) ⟨Or.inr rfl, Or.inl rfl, Or.inr rfl, Or.inr rfl, Or.inr rfl, Or.inr rfl, Or.inr rfl, Or.inr rfl, Or.inr rfl, trivial⟩ (vv_La_valueOf_74 D hD rr σ' (La_valueOf_161 K16) (vv_La_valueOf_161 D hD rr σ' K16 hK16) a2 88 (a4 + 1) a5 a6 (σ 94 a4.toNatClampNeg) ((σ 94 a4.toNatClampNeg) &&& (63 : Int32)) σ (Or.inr (Or.inl rfl)) hf))
              · exact gx_go_ 34 [.inl 0, .inl 0, .inl 0, .inl 0, .inl 0, .inl 0, .inl 0] [¬ ((300 : Int32) ≤ a6), ¬ (a4 < 0), ¬ ((σ 88 7) ≤ a4), vp_in a4 300, ¬ ((σ 94 a4.toNatClampNeg) = (43 : Int32)), vp_in a4 300, ¬ (((σ 94 a4.toNatClampNeg) &&& (63 : Int32)) = (30 : Int32)), ¬ (((σ 94 a4.toNatClampNeg) &&& (63 : Int32)) < (21 : Int32)), ¬ ((30 : Int32) ≤ ((σ 94 a4.toNatClampNeg) &&& (63 : Int32)))] 50 [.ref 50, .null, .int a2, .ref 88, .int (a4 + 1), .int a5, .int a6, .int (σ 94 a4.toNatClampNeg), .int ((σ 94 a4.toNatClampNeg) &&& (63 : Int32))] [] σ rfl ⟨h1, h2, h3, (z_ix_in h4), h5, (z_ix_in h6), h7, h8, h9, trivial⟩ (gx_fgt (ls' := [.ref 50, .null, .int a2, .ref 88, .int (a4 + 1), .int a5, .int a6, .int (σ 94 a4.toNatClampNeg), .int ((σ 94 a4.toNatClampNeg) &&& (63 : Int32))]) ⟨Or.inr rfl, Or.inl rfl, Or.inr rfl, Or.inr rfl, Or.inr rfl, Or.inr rfl, Or.inr rfl, Or.inr rfl, Or.inr rfl, trivial⟩ (vv_La_valueOf_50 D hD rr σ' (La_valueOf_161 K16) (vv_La_valueOf_161 D hD rr σ' K16 hK16) a2 88 (a4 + 1) a5 a6 (σ 94 a4.toNatClampNeg) ((σ 94 a4.toNatClampNeg) &&& (63 : Int32)) σ (Or.inr (Or.inl rfl)) hf))
set_option maxHeartbeats 16000000 in
set_option maxRecDepth 20000 in
theorem vv_La_valueOf_16_B_95 (D : Nat) (hD : 2 ≤ D + 1) (rr : Int32) (σ' : gx_R) (K16 : Int32 → Nat → Int32 → Int32 → Int32 → gx_R → Option (Int32 × gx_R)) (hK16 : ∀ (a2 : Int32) (b3 : Nat) (a4 : Int32) (a5 : Int32) (a6 : Int32) (σ : gx_R), (b3 = 81 ∨ b3 = 88 ∨ b3 = 95 ∨ b3 = 102) → K16 a2 b3 a4 a5 a6 σ = some (rr, σ') → gx_Ev lay0 (E0 D) tt_32 (some (.int rr)) σ' 16 [.ref 50, .null, .int a2, .ref b3, .int a4, .int a5, .int a6, .null, .null] [] σ) (a2 : Int32) (a4 : Int32) (a5 : Int32) (a6 : Int32) (σ : gx_R) (hf : La_valueOf_16_B K16 a2 95 a4 a5 a6 σ = some (rr, σ')) : gx_Ev lay0 (E0 D) tt_32 (some (.int rr)) σ' 16 [.ref 50, .null, .int a2, .ref 95, .int a4, .int a5, .int a6, .null, .null] [] σ := by
  unfold La_valueOf_16_B at hf
  rcases z_if_inv hf with ⟨h1, hf⟩ | ⟨h1, hf⟩
  · exact gx_go_ 3 [.inl 1] [(300 : Int32) ≤ a6] 163 [.ref 50, .null, .int a2, .ref 95, .int a4, .int a5, .int a6, .null, .null] [] σ rfl ⟨h1, trivial⟩ (gx_fgt (ls' := [.ref 50, .null, .int a2, .null, .null, .int a5, .null, .null, .null]) ⟨Or.inr rfl, Or.inl rfl, Or.inr rfl, Or.inl rfl, Or.inl rfl, Or.inr rfl, Or.inl rfl, Or.inl rfl, Or.inl rfl, trivial⟩ (vv_La_valueOf_163 D hD rr σ' a2 a5 σ hf))
  · rcases z_if_inv hf with ⟨h2, hf⟩ | ⟨h2, hf⟩
    · exact gx_go_ 5 [.inl 0, .inl 1] [¬ ((300 : Int32) ≤ a6), a4 < 0] 163 [.ref 50, .null, .int a2, .ref 95, .int a4, .int a5, .int a6, .null, .null] [] σ rfl ⟨h1, h2, trivial⟩ (gx_fgt (ls' := [.ref 50, .null, .int a2, .null, .null, .int a5, .null, .null, .null]) ⟨Or.inr rfl, Or.inl rfl, Or.inr rfl, Or.inl rfl, Or.inl rfl, Or.inr rfl, Or.inl rfl, Or.inl rfl, Or.inl rfl, trivial⟩ (vv_La_valueOf_163 D hD rr σ' a2 a5 σ hf))
    · rcases z_if_inv hf with ⟨h3, hf⟩ | ⟨h3, hf⟩
      · exact gx_go_ 9 [.inl 0, .inl 0, .inl 1] [¬ ((300 : Int32) ≤ a6), ¬ (a4 < 0), (σ 95 7) ≤ a4] 163 [.ref 50, .null, .int a2, .ref 95, .int a4, .int a5, .int a6, .null, .null] [] σ rfl ⟨h1, h2, h3, trivial⟩ (gx_fgt (ls' := [.ref 50, .null, .int a2, .null, .null, .int a5, .null, .null, .null]) ⟨Or.inr rfl, Or.inl rfl, Or.inr rfl, Or.inl rfl, Or.inl rfl, Or.inr rfl, Or.inl rfl, Or.inl rfl, Or.inl rfl, trivial⟩ (vv_La_valueOf_163 D hD rr σ' a2 a5 σ hf))
      · obtain ⟨h4, hf⟩ := z_ck_inv hf
        rcases z_if_inv hf with ⟨h5, hf⟩ | ⟨h5, hf⟩
        · exact gx_go_ 15 [.inl 0, .inl 0, .inl 0, .inl 1] [¬ ((300 : Int32) ≤ a6), ¬ (a4 < 0), ¬ ((σ 95 7) ≤ a4), vp_in a4 300, (σ 101 a4.toNatClampNeg) = (43 : Int32)] 163 [.ref 50, .null, .int a2, .ref 95, .int a4, .int a5, .int a6, .null, .null] [] σ rfl ⟨h1, h2, h3, (z_ix_in h4), h5, trivial⟩ (gx_fgt (ls' := [.ref 50, .null, .int a2, .null, .null, .int a5, .null, .null, .null]) ⟨Or.inr rfl, Or.inl rfl, Or.inr rfl, Or.inl rfl, Or.inl rfl, Or.inr rfl, Or.inl rfl, Or.inl rfl, Or.inl rfl, trivial⟩ (vv_La_valueOf_163 D hD rr σ' a2 a5 σ hf))
        · obtain ⟨h6, hf⟩ := z_ck_inv hf
          rcases z_if_inv hf with ⟨h7, hf⟩ | ⟨h7, hf⟩
          · exact gx_go_ 28 [.inl 0, .inl 0, .inl 0, .inl 0, .inl 1] [¬ ((300 : Int32) ≤ a6), ¬ (a4 < 0), ¬ ((σ 95 7) ≤ a4), vp_in a4 300, ¬ ((σ 101 a4.toNatClampNeg) = (43 : Int32)), vp_in a4 300, ((σ 101 a4.toNatClampNeg) &&& (63 : Int32)) = (30 : Int32)] 50 [.ref 50, .null, .int a2, .ref 95, .int (a4 + 1), .int a5, .int a6, .int (σ 101 a4.toNatClampNeg), .int ((σ 101 a4.toNatClampNeg) &&& (63 : Int32))] [] σ rfl ⟨h1, h2, h3, (z_ix_in h4), h5, (z_ix_in h6), h7, trivial⟩ (gx_fgt (ls' := [.ref 50, .null, .int a2, .ref 95, .int (a4 + 1), .int a5, .int a6, .int (σ 101 a4.toNatClampNeg), .int ((σ 101 a4.toNatClampNeg) &&& (63 : Int32))]) ⟨Or.inr rfl, Or.inl rfl, Or.inr rfl, Or.inr rfl, Or.inr rfl, Or.inr rfl, Or.inr rfl, Or.inr rfl, Or.inr rfl, trivial⟩ (vv_La_valueOf_50 D hD rr σ' (La_valueOf_161 K16) (vv_La_valueOf_161 D hD rr σ' K16 hK16) a2 95 (a4 + 1) a5 a6 (σ 101 a4.toNatClampNeg) ((σ 101 a4.toNatClampNeg) &&& (63 : Int32)) σ (Or.inr (Or.inr (Or.inl rfl))) hf))
          · rcases z_if_inv hf with ⟨h8, hf⟩ | ⟨h8, hf⟩
            · exact gx_go_ 31 [.inl 0, .inl 0, .inl 0, .inl 0, .inl 0, .inl 1] [¬ ((300 : Int32) ≤ a6), ¬ (a4 < 0), ¬ ((σ 95 7) ≤ a4), vp_in a4 300, ¬ ((σ 101 a4.toNatClampNeg) = (43 : Int32)), vp_in a4 300, ¬ (((σ 101 a4.toNatClampNeg) &&& (63 : Int32)) = (30 : Int32)), ((σ 101 a4.toNatClampNeg) &&& (63 : Int32)) < (21 : Int32)] 74 [.ref 50, .null, .int a2, .ref 95, .int (a4 + 1), .int a5, .int a6, .int (σ 101 a4.toNatClampNeg), .int ((σ 101 a4.toNatClampNeg) &&& (63 : Int32))] [] σ rfl ⟨h1, h2, h3, (z_ix_in h4), h5, (z_ix_in h6), h7, h8, trivial⟩ (gx_fgt (ls' := [.ref 50, .null, .int a2, .ref 95, .int (a4 + 1), .int a5, .int a6, .int (σ 101 a4.toNatClampNeg), .int ((σ 101 a4.toNatClampNeg) &&& (63 : Int32))]) ⟨Or.inr rfl, Or.inl rfl, Or.inr rfl, Or.inr rfl, Or.inr rfl, Or.inr rfl, Or.inr rfl, Or.inr rfl, Or.inr rfl, trivial⟩ (vv_La_valueOf_74 D hD rr σ' (La_valueOf_161 K16) (vv_La_valueOf_161 D hD rr σ' K16 hK16) a2 95 (a4 + 1) a5 a6 (σ 101 a4.toNatClampNeg) ((σ 101 a4.toNatClampNeg) &&& (63 : Int32)) σ (Or.inr (Or.inr (Or.inl rfl))) hf))
            · rcases z_if_inv hf with ⟨h9, hf⟩ | ⟨h9, hf⟩
              · exact gx_go_ 34 [.inl 0, .inl 0, .inl 0, .inl 0, .inl 0, .inl 0, .inl 1] [¬ ((300 : Int32) ≤ a6), ¬ (a4 < 0), ¬ ((σ 95 7) ≤ a4), vp_in a4 300, ¬ ((σ 101 a4.toNatClampNeg) = (43 : Int32)), vp_in a4 300, ¬ (((σ 101 a4.toNatClampNeg) &&& (63 : Int32)) = (30 : Int32)), ¬ (((σ 101 a4.toNatClampNeg) &&& (63 : Int32)) < (21 : Int32)), (30 : Int32) ≤ ((σ 101 a4.toNatClampNeg) &&& (63 : Int32))] 74 [.ref 50, .null, .int a2, .ref 95, .int (a4 + 1), .int a5, .int a6, .int (σ 101 a4.toNatClampNeg), .int ((σ 101 a4.toNatClampNeg) &&& (63 : Int32))] [] σ rfl ⟨h1, h2, h3, (z_ix_in h4), h5, (z_ix_in h6), h7, h8, h9, trivial⟩ (gx_fgt (ls' := [.ref 50, .null, .int a2, .ref 95, .int (a4 + 1), .int a5, .int a6, .int (σ 101 a4.toNatClampNeg), .int ((σ 101 a4.toNatClampNeg) &&& (63 : Int32))]) ⟨Or.inr rfl, Or.inl rfl, Or.inr rfl, Or.inr rfl, Or.inr rfl, Or.inr rfl, Or.inr rfl, Or.inr rfl, Or.inr rfl, trivial⟩ (vv_La_valueOf_74 D hD rr σ' (La_valueOf_161 K16) (vv_La_valueOf_161 D hD rr σ' K16 hK16) a2 95 (a4 + 1) a5 a6 (σ 101 a4.toNatClampNeg) ((σ 101 a4.toNatClampNeg) &&& (63 : Int32)) σ (Or.inr (Or.inr (Or.inl rfl))) hf))
              · exact gx_go_ 34 [.inl 0, .inl 0, .inl 0, .inl 0, .inl 0, .inl 0, .inl 0] [¬ ((300 : Int32) ≤ a6), ¬ (a4 < 0), ¬ ((σ 95 7) ≤ a4), vp_in a4 300, ¬ ((σ 101 a4.toNatClampNeg) = (43 : Int32)), vp_in a4 300, ¬ (((σ 101 a4.toNatClampNeg) &&& (63 : Int32)) = (30 : Int32)), ¬ (((σ 101 a4.toNatClampNeg) &&& (63 : Int32)) < (21 : Int32)), ¬ ((30 : Int32) ≤ ((σ 101 a4.toNatClampNeg) &&& (63 : Int32)))] 50 [.ref 50, .null, .int a2, .ref 95, .int (a4 + 1), .int a5, .int a6, .int (σ 101 a4.toNatClampNeg), .int ((σ 101 a4.toNatClampNeg) &&& (63 : Int32))] [] σ rfl ⟨h1, h2, h3, (z_ix_in h4), h5, (z_ix_in h6), h7, h8, h9, trivial⟩ (gx_fgt (ls' := [.ref 50, .null, .int a2, .ref 95, .int (a4 + 1), .int a5, .int a6, .int (σ 101 a4.toNatClampNeg), .int ((σ 101 a4.toNatClampNeg) &&& (63 : Int32))]) ⟨Or.inr rfl, Or.inl rfl, Or.inr rfl, Or.inr rfl, Or.inr rfl, Or.inr rfl, Or.inr rfl, Or.inr rfl, Or.inr rfl, trivial⟩ (vv_La_valueOf_50 D hD rr σ' (La_valueOf_161 K16) (vv_La_valueOf_161 D hD rr σ' K16 hK16) a2 95 (a4 + 1) a5 a6 (σ 101 a4.toNatClampNeg) ((σ 101 a4.toNatClampNeg) &&& (63 : Int32)) σ (Or.inr (Or.inr (Or.inl rfl))) hf))
set_option maxHeartbeats 16000000 in
set_option maxRecDepth 20000 in
theorem vv_La_valueOf_16_B_102 (D : Nat) (hD : 2 ≤ D + 1) (rr : Int32) (σ' : gx_R) (K16 : Int32 → Nat → Int32 → Int32 → Int32 → gx_R → Option (Int32 × gx_R)) (hK16 : ∀ (a2 : Int32) (b3 : Nat) (a4 : Int32) (a5 : Int32) (a6 : Int32) (σ : gx_R), (b3 = 81 ∨ b3 = 88 ∨ b3 = 95 ∨ b3 = 102) → K16 a2 b3 a4 a5 a6 σ = some (rr, σ') → gx_Ev lay0 (E0 D) tt_32 (some (.int rr)) σ' 16 [.ref 50, .null, .int a2, .ref b3, .int a4, .int a5, .int a6, .null, .null] [] σ) (a2 : Int32) (a4 : Int32) (a5 : Int32) (a6 : Int32) (σ : gx_R) (hf : La_valueOf_16_B K16 a2 102 a4 a5 a6 σ = some (rr, σ')) : gx_Ev lay0 (E0 D) tt_32 (some (.int rr)) σ' 16 [.ref 50, .null, .int a2, .ref 102, .int a4, .int a5, .int a6, .null, .null] [] σ := by
  unfold La_valueOf_16_B at hf
  rcases z_if_inv hf with ⟨h1, hf⟩ | ⟨h1, hf⟩
  · exact gx_go_ 3 [.inl 1] [(300 : Int32) ≤ a6] 163 [.ref 50, .null, .int a2, .ref 102, .int a4, .int a5, .int a6, .null, .null] [] σ rfl ⟨h1, trivial⟩ (gx_fgt (ls' := [.ref 50, .null, .int a2, .null, .null, .int a5, .null, .null, .null]) ⟨Or.inr rfl, Or.inl rfl, Or.inr rfl, Or.inl rfl, Or.inl rfl, Or.inr rfl, Or.inl rfl, Or.inl rfl, Or.inl rfl, trivial⟩ (vv_La_valueOf_163 D hD rr σ' a2 a5 σ hf))
  · rcases z_if_inv hf with ⟨h2, hf⟩ | ⟨h2, hf⟩
    · exact gx_go_ 5 [.inl 0, .inl 1] [¬ ((300 : Int32) ≤ a6), a4 < 0] 163 [.ref 50, .null, .int a2, .ref 102, .int a4, .int a5, .int a6, .null, .null] [] σ rfl ⟨h1, h2, trivial⟩ (gx_fgt (ls' := [.ref 50, .null, .int a2, .null, .null, .int a5, .null, .null, .null]) ⟨Or.inr rfl, Or.inl rfl, Or.inr rfl, Or.inl rfl, Or.inl rfl, Or.inr rfl, Or.inl rfl, Or.inl rfl, Or.inl rfl, trivial⟩ (vv_La_valueOf_163 D hD rr σ' a2 a5 σ hf))
    · rcases z_if_inv hf with ⟨h3, hf⟩ | ⟨h3, hf⟩
      · exact gx_go_ 9 [.inl 0, .inl 0, .inl 1] [¬ ((300 : Int32) ≤ a6), ¬ (a4 < 0), (σ 102 7) ≤ a4] 163 [.ref 50, .null, .int a2, .ref 102, .int a4, .int a5, .int a6, .null, .null] [] σ rfl ⟨h1, h2, h3, trivial⟩ (gx_fgt (ls' := [.ref 50, .null, .int a2, .null, .null, .int a5, .null, .null, .null]) ⟨Or.inr rfl, Or.inl rfl, Or.inr rfl, Or.inl rfl, Or.inl rfl, Or.inr rfl, Or.inl rfl, Or.inl rfl, Or.inl rfl, trivial⟩ (vv_La_valueOf_163 D hD rr σ' a2 a5 σ hf))
      · obtain ⟨h4, hf⟩ := z_ck_inv hf
        rcases z_if_inv hf with ⟨h5, hf⟩ | ⟨h5, hf⟩
        · exact gx_go_ 15 [.inl 0, .inl 0, .inl 0, .inl 1] [¬ ((300 : Int32) ≤ a6), ¬ (a4 < 0), ¬ ((σ 102 7) ≤ a4), vp_in a4 300, (σ 108 a4.toNatClampNeg) = (43 : Int32)] 163 [.ref 50, .null, .int a2, .ref 102, .int a4, .int a5, .int a6, .null, .null] [] σ rfl ⟨h1, h2, h3, (z_ix_in h4), h5, trivial⟩ (gx_fgt (ls' := [.ref 50, .null, .int a2, .null, .null, .int a5, .null, .null, .null]) ⟨Or.inr rfl, Or.inl rfl, Or.inr rfl, Or.inl rfl, Or.inl rfl, Or.inr rfl, Or.inl rfl, Or.inl rfl, Or.inl rfl, trivial⟩ (vv_La_valueOf_163 D hD rr σ' a2 a5 σ hf))
        · obtain ⟨h6, hf⟩ := z_ck_inv hf
          rcases z_if_inv hf with ⟨h7, hf⟩ | ⟨h7, hf⟩
          · exact gx_go_ 28 [.inl 0, .inl 0, .inl 0, .inl 0, .inl 1] [¬ ((300 : Int32) ≤ a6), ¬ (a4 < 0), ¬ ((σ 102 7) ≤ a4), vp_in a4 300, ¬ ((σ 108 a4.toNatClampNeg) = (43 : Int32)), vp_in a4 300, ((σ 108 a4.toNatClampNeg) &&& (63 : Int32)) = (30 : Int32)] 50 [.ref 50, .null, .int a2, .ref 102, .int (a4 + 1), .int a5, .int a6, .int (σ 108 a4.toNatClampNeg), .int ((σ 108 a4.toNatClampNeg) &&& (63 : Int32))] [] σ rfl ⟨h1, h2, h3, (z_ix_in h4), h5, (z_ix_in h6), h7, trivial⟩ (gx_fgt (ls' := [.ref 50, .null, .int a2, .ref 102, .int (a4 + 1), .int a5, .int a6, .int (σ 108 a4.toNatClampNeg), .int ((σ 108 a4.toNatClampNeg) &&& (63 : Int32))]) ⟨Or.inr rfl, Or.inl rfl, Or.inr rfl, Or.inr rfl, Or.inr rfl, Or.inr rfl, Or.inr rfl, Or.inr rfl, Or.inr rfl, trivial⟩ (vv_La_valueOf_50 D hD rr σ' (La_valueOf_161 K16) (vv_La_valueOf_161 D hD rr σ' K16 hK16) a2 102 (a4 + 1) a5 a6 (σ 108 a4.toNatClampNeg) ((σ 108 a4.toNatClampNeg) &&& (63 : Int32)) σ (Or.inr (Or.inr (Or.inr rfl))) hf))
          · rcases z_if_inv hf with ⟨h8, hf⟩ | ⟨h8, hf⟩
            · exact gx_go_ 31 [.inl 0, .inl 0, .inl 0, .inl 0, .inl 0, .inl 1] [¬ ((300 : Int32) ≤ a6), ¬ (a4 < 0), ¬ ((σ 102 7) ≤ a4), vp_in a4 300, ¬ ((σ 108 a4.toNatClampNeg) = (43 : Int32)), vp_in a4 300, ¬ (((σ 108 a4.toNatClampNeg) &&& (63 : Int32)) = (30 : Int32)), ((σ 108 a4.toNatClampNeg) &&& (63 : Int32)) < (21 : Int32)] 74 [.ref 50, .null, .int a2, .ref 102, .int (a4 + 1), .int a5, .int a6, .int (σ 108 a4.toNatClampNeg), .int ((σ 108 a4.toNatClampNeg) &&& (63 : Int32))] [] σ rfl ⟨h1, h2, h3, (z_ix_in h4), h5, (z_ix_in h6), h7, h8, trivial⟩ (gx_fgt (ls' := [.ref 50, .null, .int a2, .ref 102, .int (a4 + 1), .int a5, .int a6, .int (σ 108 a4.toNatClampNeg), .int ((σ 108 a4.toNatClampNeg) &&& (63 : Int32))]) ⟨Or.inr rfl, Or.inl rfl, Or.inr rfl, Or.inr rfl, Or.inr rfl, Or.inr rfl, Or.inr rfl, Or.inr rfl, Or.inr rfl, trivial⟩ (vv_La_valueOf_74 D hD rr σ' (La_valueOf_161 K16) (vv_La_valueOf_161 D hD rr σ' K16 hK16) a2 102 (a4 + 1) a5 a6 (σ 108 a4.toNatClampNeg) ((σ 108 a4.toNatClampNeg) &&& (63 : Int32)) σ (Or.inr (Or.inr (Or.inr rfl))) hf))
            · rcases z_if_inv hf with ⟨h9, hf⟩ | ⟨h9, hf⟩
              · exact gx_go_ 34 [.inl 0, .inl 0, .inl 0, .inl 0, .inl 0, .inl 0, .inl 1] [¬ ((300 : Int32) ≤ a6), ¬ (a4 < 0), ¬ ((σ 102 7) ≤ a4), vp_in a4 300, ¬ ((σ 108 a4.toNatClampNeg) = (43 : Int32)), vp_in a4 300, ¬ (((σ 108 a4.toNatClampNeg) &&& (63 : Int32)) = (30 : Int32)), ¬ (((σ 108 a4.toNatClampNeg) &&& (63 : Int32)) < (21 : Int32)), (30 : Int32) ≤ ((σ 108 a4.toNatClampNeg) &&& (63 : Int32))] 74 [.ref 50, .null, .int a2, .ref 102, .int (a4 + 1), .int a5, .int a6, .int (σ 108 a4.toNatClampNeg), .int ((σ 108 a4.toNatClampNeg) &&& (63 : Int32))] [] σ rfl ⟨h1, h2, h3, (z_ix_in h4), h5, (z_ix_in h6), h7, h8, h9, trivial⟩ (gx_fgt (ls' := [.ref 50, .null, .int a2, .ref 102, .int (a4 + 1), .int a5, .int a6, .int (σ 108 a4.toNatClampNeg), .int ((σ 108 a4.toNatClampNeg) &&& (63 : Int32))]) ⟨Or.inr rfl, Or.inl rfl, Or.inr rfl, Or.inr rfl, Or.inr rfl, Or.inr rfl, Or.inr rfl, Or.inr rfl, Or.inr rfl, trivial⟩ (vv_La_valueOf_74 D hD rr σ' (La_valueOf_161 K16) (vv_La_valueOf_161 D hD rr σ' K16 hK16) a2 102 (a4 + 1) a5 a6 (σ 108 a4.toNatClampNeg) ((σ 108 a4.toNatClampNeg) &&& (63 : Int32)) σ (Or.inr (Or.inr (Or.inr rfl))) hf))
              · exact gx_go_ 34 [.inl 0, .inl 0, .inl 0, .inl 0, .inl 0, .inl 0, .inl 0] [¬ ((300 : Int32) ≤ a6), ¬ (a4 < 0), ¬ ((σ 102 7) ≤ a4), vp_in a4 300, ¬ ((σ 108 a4.toNatClampNeg) = (43 : Int32)), vp_in a4 300, ¬ (((σ 108 a4.toNatClampNeg) &&& (63 : Int32)) = (30 : Int32)), ¬ (((σ 108 a4.toNatClampNeg) &&& (63 : Int32)) < (21 : Int32)), ¬ ((30 : Int32) ≤ ((σ 108 a4.toNatClampNeg) &&& (63 : Int32)))] 50 [.ref 50, .null, .int a2, .ref 102, .int (a4 + 1), .int a5, .int a6, .int (σ 108 a4.toNatClampNeg), .int ((σ 108 a4.toNatClampNeg) &&& (63 : Int32))] [] σ rfl ⟨h1, h2, h3, (z_ix_in h4), h5, (z_ix_in h6), h7, h8, h9, trivial⟩ (gx_fgt (ls' := [.ref 50, .null, .int a2, .ref 102, .int (a4 + 1), .int a5, .int a6, .int (σ 108 a4.toNatClampNeg), .int ((σ 108 a4.toNatClampNeg) &&& (63 : Int32))]) ⟨Or.inr rfl, Or.inl rfl, Or.inr rfl, Or.inr rfl, Or.inr rfl, Or.inr rfl, Or.inr rfl, Or.inr rfl, Or.inr rfl, trivial⟩ (vv_La_valueOf_50 D hD rr σ' (La_valueOf_161 K16) (vv_La_valueOf_161 D hD rr σ' K16 hK16) a2 102 (a4 + 1) a5 a6 (σ 108 a4.toNatClampNeg) ((σ 108 a4.toNatClampNeg) &&& (63 : Int32)) σ (Or.inr (Or.inr (Or.inr rfl))) hf))
set_option maxHeartbeats 16000000 in
set_option maxRecDepth 20000 in
theorem vv_La_valueOf_16_B (D : Nat) (hD : 2 ≤ D + 1) (rr : Int32) (σ' : gx_R) (K16 : Int32 → Nat → Int32 → Int32 → Int32 → gx_R → Option (Int32 × gx_R)) (hK16 : ∀ (a2 : Int32) (b3 : Nat) (a4 : Int32) (a5 : Int32) (a6 : Int32) (σ : gx_R), (b3 = 81 ∨ b3 = 88 ∨ b3 = 95 ∨ b3 = 102) → K16 a2 b3 a4 a5 a6 σ = some (rr, σ') → gx_Ev lay0 (E0 D) tt_32 (some (.int rr)) σ' 16 [.ref 50, .null, .int a2, .ref b3, .int a4, .int a5, .int a6, .null, .null] [] σ) (a2 : Int32) (b3 : Nat) (a4 : Int32) (a5 : Int32) (a6 : Int32) (σ : gx_R) (hb3 : b3 = 81 ∨ b3 = 88 ∨ b3 = 95 ∨ b3 = 102) (hf : La_valueOf_16_B K16 a2 b3 a4 a5 a6 σ = some (rr, σ')) : gx_Ev lay0 (E0 D) tt_32 (some (.int rr)) σ' 16 [.ref 50, .null, .int a2, .ref b3, .int a4, .int a5, .int a6, .null, .null] [] σ := by
  rcases hb3 with rfl | rfl | rfl | rfl
  · exact vv_La_valueOf_16_B_81 D hD rr σ'  K16 hK16 a2 a4 a5 a6 σ hf
  · exact vv_La_valueOf_16_B_88 D hD rr σ'  K16 hK16 a2 a4 a5 a6 σ hf
  · exact vv_La_valueOf_16_B_95 D hD rr σ'  K16 hK16 a2 a4 a5 a6 σ hf
  · exact vv_La_valueOf_16_B_102 D hD rr σ'  K16 hK16 a2 a4 a5 a6 σ hf
set_option maxHeartbeats 16000000 in
set_option maxRecDepth 20000 in
theorem vv_La_valueOf_16 (D : Nat) (hD : 2 ≤ D + 1) (rr : Int32) (σ' : gx_R) : ∀ (n : Nat) (a2 : Int32) (b3 : Nat) (a4 : Int32) (a5 : Int32) (a6 : Int32) (σ : gx_R), (b3 = 81 ∨ b3 = 88 ∨ b3 = 95 ∨ b3 = 102) → La_valueOf_16 n a2 b3 a4 a5 a6 σ = some (rr, σ') → gx_Ev lay0 (E0 D) tt_32 (some (.int rr)) σ' 16 [.ref 50, .null, .int a2, .ref b3, .int a4, .int a5, .int a6, .null, .null] [] σ := by
  intro n
  induction n with
  | zero => intro a2 b3 a4 a5 a6 σ hb3 hf; cases hf
  | succ n ih => intro a2 b3 a4 a5 a6 σ hb3 hf; exact vv_La_valueOf_16_B D hD rr σ'  (La_valueOf_16 n) ih a2 b3 a4 a5 a6 σ hb3 hf
set_option maxHeartbeats 16000000 in
set_option maxRecDepth 20000 in
theorem vv_La_valueOf_E (D : Nat) (hD : 2 ≤ D + 1) (rr : Int32) (σ' : gx_R) (a1 : Int32) (a2 : Int32) (σ : gx_R) (hf : La_valueOf a1 a2 σ = some (rr, σ')) : gx_Ev lay0 (E0 D) tt_32 (some (.int rr)) σ' 0 [.ref 50, .int a1, .int a2, .null, .null, .null, .null, .null, .null] [] σ := by
  unfold La_valueOf at hf
  obtain ⟨h1, hf⟩ := z_ck_inv hf
  rcases z_ix4 h1 with h1 | h1 | h1 | h1
  · have he : (81 + 7 * (σ 1 5).toNatClampNeg) = 81 := by rw [h1]; rfl
    rw [he] at hf
    obtain ⟨h3, hf⟩ := z_ck_inv hf
    exact gx_go_ 16 [.inl 0] [(σ 1 5) = nI 0 ∧ 0 < 4 ∧ 4 < 2 ^ 31, vp_in a1 4] 16 [.ref 50, .int a1, .int a2, .ref 81, .int (σ 86 a1.toNatClampNeg), .int (0 : Int32), .int (0 : Int32), .null, .null] [] σ rfl ⟨⟨h1, by decide, by decide⟩, (z_ix_in h3), trivial⟩ (gx_fgt (ls' := [.ref 50, .null, .int a2, .ref 81, .int (σ 86 a1.toNatClampNeg), .int (0 : Int32), .int (0 : Int32), .null, .null]) ⟨Or.inr rfl, Or.inl rfl, Or.inr rfl, Or.inr rfl, Or.inr rfl, Or.inr rfl, Or.inr rfl, Or.inl rfl, Or.inl rfl, trivial⟩ (vv_La_valueOf_16 D hD rr σ' z_FU a2 81 (σ 86 a1.toNatClampNeg) (0 : Int32) (0 : Int32) σ (Or.inl rfl) hf))
  · have he : (81 + 7 * (σ 1 5).toNatClampNeg) = 88 := by rw [h1]; rfl
    rw [he] at hf
    obtain ⟨h4, hf⟩ := z_ck_inv hf
    exact gx_go_ 16 [.inl 1] [(σ 1 5) = nI 1 ∧ 1 < 4 ∧ 4 < 2 ^ 31, vp_in a1 4] 16 [.ref 50, .int a1, .int a2, .ref 88, .int (σ 93 a1.toNatClampNeg), .int (0 : Int32), .int (0 : Int32), .null, .null] [] σ rfl ⟨⟨h1, by decide, by decide⟩, (z_ix_in h4), trivial⟩ (gx_fgt (ls' := [.ref 50, .null, .int a2, .ref 88, .int (σ 93 a1.toNatClampNeg), .int (0 : Int32), .int (0 : Int32), .null, .null]) ⟨Or.inr rfl, Or.inl rfl, Or.inr rfl, Or.inr rfl, Or.inr rfl, Or.inr rfl, Or.inr rfl, Or.inl rfl, Or.inl rfl, trivial⟩ (vv_La_valueOf_16 D hD rr σ' z_FU a2 88 (σ 93 a1.toNatClampNeg) (0 : Int32) (0 : Int32) σ (Or.inr (Or.inl rfl)) hf))
  · have he : (81 + 7 * (σ 1 5).toNatClampNeg) = 95 := by rw [h1]; rfl
    rw [he] at hf
    obtain ⟨h5, hf⟩ := z_ck_inv hf
    exact gx_go_ 16 [.inl 2] [(σ 1 5) = nI 2 ∧ 2 < 4 ∧ 4 < 2 ^ 31, vp_in a1 4] 16 [.ref 50, .int a1, .int a2, .ref 95, .int (σ 100 a1.toNatClampNeg), .int (0 : Int32), .int (0 : Int32), .null, .null] [] σ rfl ⟨⟨h1, by decide, by decide⟩, (z_ix_in h5), trivial⟩ (gx_fgt (ls' := [.ref 50, .null, .int a2, .ref 95, .int (σ 100 a1.toNatClampNeg), .int (0 : Int32), .int (0 : Int32), .null, .null]) ⟨Or.inr rfl, Or.inl rfl, Or.inr rfl, Or.inr rfl, Or.inr rfl, Or.inr rfl, Or.inr rfl, Or.inl rfl, Or.inl rfl, trivial⟩ (vv_La_valueOf_16 D hD rr σ' z_FU a2 95 (σ 100 a1.toNatClampNeg) (0 : Int32) (0 : Int32) σ (Or.inr (Or.inr (Or.inl rfl))) hf))
  · have he : (81 + 7 * (σ 1 5).toNatClampNeg) = 102 := by rw [h1]; rfl
    rw [he] at hf
    obtain ⟨h6, hf⟩ := z_ck_inv hf
    exact gx_go_ 16 [.inl 3] [(σ 1 5) = nI 3 ∧ 3 < 4 ∧ 4 < 2 ^ 31, vp_in a1 4] 16 [.ref 50, .int a1, .int a2, .ref 102, .int (σ 107 a1.toNatClampNeg), .int (0 : Int32), .int (0 : Int32), .null, .null] [] σ rfl ⟨⟨h1, by decide, by decide⟩, (z_ix_in h6), trivial⟩ (gx_fgt (ls' := [.ref 50, .null, .int a2, .ref 102, .int (σ 107 a1.toNatClampNeg), .int (0 : Int32), .int (0 : Int32), .null, .null]) ⟨Or.inr rfl, Or.inl rfl, Or.inr rfl, Or.inr rfl, Or.inr rfl, Or.inr rfl, Or.inr rfl, Or.inl rfl, Or.inl rfl, trivial⟩ (vv_La_valueOf_16 D hD rr σ' z_FU a2 102 (σ 107 a1.toNatClampNeg) (0 : Int32) (0 : Int32) σ (Or.inr (Or.inr (Or.inr rfl))) hf))
set_option maxHeartbeats 16000000 in
set_option maxRecDepth 20000 in
theorem ww_La_valueOf (D : Nat) (hD : 2 ≤ D) (a1 : Int32) (a2 : Int32) (σ : gx_R) (rr : Int32) (σ' : gx_R) (hf : La_valueOf a1 a2 σ = some (rr, σ')) : E0 D 32 [.ref 50, .int a1, .int a2] σ (some (.int rr)) σ' := by
  cases D with
  | zero => omega
  | succ D => exact Or.inl ⟨Nat.le_of_ble_eq_true rfl, vv_La_valueOf_E D hD rr σ' a1 a2 σ hf⟩
set_option maxHeartbeats 16000000 in
set_option maxRecDepth 20000 in
theorem vv_La_worthOf_E (D : Nat) (hD : 3 ≤ D + 1) (rr : Int32) (σ' : gx_R) (a1 : Int32) (a2 : Int32) (a3 : Int32) (a4 : Int32) (a5 : Int32) (σ : gx_R) (hf : La_worthOf a1 a2 a3 a4 a5 σ = some (rr, σ')) : gx_Ev lay0 (E0 D) tt_24 (some (.int rr)) σ' 0 [.ref 50, .int a1, .int a2, .int a3, .int a4, .int a5] [] σ := by
  unfold La_worthOf at hf
  obtain ⟨r1, σ2, h3, hf⟩ := z_bd_inv hf
  rcases z_if_inv hf with ⟨h4, hf⟩ | ⟨h4, hf⟩
  · obtain ⟨e1, e2⟩ := z_ret hf
    subst e1
    subst e2
    exact gx_end 6 [.inr (some (.int r1), σ2), .inl 0] [E0 D 31 [.ref 50, .int (0 : Int32)] σ (some (.int r1)) σ2, ¬ ¬ (r1 = 0)] rfl ⟨(ww_La_isLaw D (by omega) (0 : Int32) σ r1 σ2 h3), (fun q => q h4), trivial⟩
  · obtain ⟨h5, hf⟩ := z_ck_inv hf
    obtain ⟨r6, σ7, h8, hf⟩ := z_bd_inv hf
    obtain ⟨e1, e2⟩ := z_ret hf
    subst e1
    subst e2
    exact gx_end 44 [.inr (some (.int r1), σ2), .inl 1, .inr (some (.int r6), σ7)] [E0 D 31 [.ref 50, .int (0 : Int32)] σ (some (.int r1)) σ2, ¬ (r1 = 0), vp_in (0 : Int32) 9, vp_in (1 : Int32) 9, vp_in (2 : Int32) 9, vp_in a1 8, vp_in (3 : Int32) 9, vp_in (4 : Int32) 9, vp_in (5 : Int32) 9, E0 D 32 [.ref 50, .int (0 : Int32), .int (99 : Int32)] (gx_up (gx_up (gx_up (gx_up (gx_up (gx_up σ2 51 (0 : Int32).toNatClampNeg a1) 51 (1 : Int32).toNatClampNeg a5) 51 (2 : Int32).toNatClampNeg a3) 51 (3 : Int32).toNatClampNeg ((gx_up (gx_up (gx_up σ2 51 (0 : Int32).toNatClampNeg a1) 51 (1 : Int32).toNatClampNeg a5) 51 (2 : Int32).toNatClampNeg a3) 3 a1.toNatClampNeg)) 51 (4 : Int32).toNatClampNeg a4) 51 (5 : Int32).toNatClampNeg a2) (some (.int r6)) σ7] rfl ⟨(ww_La_isLaw D (by omega) (0 : Int32) σ r1 σ2 h3), h4, (z_ix_in rfl), (z_ix_in rfl), (z_ix_in rfl), (z_ix_in h5), (z_ix_in rfl), (z_ix_in rfl), (z_ix_in rfl), (ww_La_valueOf D (by omega) (0 : Int32) (99 : Int32) (gx_up (gx_up (gx_up (gx_up (gx_up (gx_up σ2 51 (0 : Int32).toNatClampNeg a1) 51 (1 : Int32).toNatClampNeg a5) 51 (2 : Int32).toNatClampNeg a3) 51 (3 : Int32).toNatClampNeg ((gx_up (gx_up (gx_up σ2 51 (0 : Int32).toNatClampNeg a1) 51 (1 : Int32).toNatClampNeg a5) 51 (2 : Int32).toNatClampNeg a3) 3 a1.toNatClampNeg)) 51 (4 : Int32).toNatClampNeg a4) 51 (5 : Int32).toNatClampNeg a2) r6 σ7 h8), trivial⟩
set_option maxHeartbeats 16000000 in
set_option maxRecDepth 20000 in
theorem ww_La_worthOf (D : Nat) (hD : 3 ≤ D) (a1 : Int32) (a2 : Int32) (a3 : Int32) (a4 : Int32) (a5 : Int32) (σ : gx_R) (rr : Int32) (σ' : gx_R) (hf : La_worthOf a1 a2 a3 a4 a5 σ = some (rr, σ')) : E0 D 24 [.ref 50, .int a1, .int a2, .int a3, .int a4, .int a5] σ (some (.int rr)) σ' := by
  cases D with
  | zero => omega
  | succ D => exact Or.inl ⟨Nat.le_of_ble_eq_true rfl, vv_La_worthOf_E D hD rr σ' a1 a2 a3 a4 a5 σ hf⟩
set_option maxHeartbeats 16000000 in
set_option maxRecDepth 20000 in
theorem vv_La_burnOf_43 (D : Nat) (hD : 3 ≤ D + 1) (rr : Int32) (σ' : gx_R) (s1 : Int32) (s2 : Int32) (σ : gx_R) (hf : La_burnOf_43 s1 s2 σ = some (rr, σ')) : gx_Ev lay0 (E0 D) tt_25 (some (.int rr)) σ' 43 [.ref 50, .null, .null, .null, .null] [.int s2, .int s1, .ref 51] σ := by
  unfold La_burnOf_43 at hf
  obtain ⟨h1, hf⟩ := z_ck_inv hf
  obtain ⟨r2, σ3, h4, hf⟩ := z_bd_inv hf
  obtain ⟨e1, e2⟩ := z_ret hf
  subst e1
  subst e2
  exact gx_end 6 [.inr (some (.int r2), σ3)] [vp_in s1 9, E0 D 32 [.ref 50, .int (1 : Int32), .int (99 : Int32)] (gx_up σ 51 s1.toNatClampNeg s2) (some (.int r2)) σ3] rfl ⟨(z_ix_in h1), (ww_La_valueOf D (by omega) (1 : Int32) (99 : Int32) (gx_up σ 51 s1.toNatClampNeg s2) r2 σ3 h4), trivial⟩
set_option maxHeartbeats 16000000 in
set_option maxRecDepth 20000 in
theorem vv_La_burnOf_E (D : Nat) (hD : 3 ≤ D + 1) (rr : Int32) (σ' : gx_R) (a1 : Int32) (a2 : Int32) (a3 : Int32) (a4 : Int32) (σ : gx_R) (hf : La_burnOf a1 a2 a3 a4 σ = some (rr, σ')) : gx_Ev lay0 (E0 D) tt_25 (some (.int rr)) σ' 0 [.ref 50, .int a1, .int a2, .int a3, .int a4] [] σ := by
  unfold La_burnOf at hf
  obtain ⟨r1, σ2, h3, hf⟩ := z_bd_inv hf
  rcases z_if_inv hf with ⟨h4, hf⟩ | ⟨h4, hf⟩
  · obtain ⟨e1, e2⟩ := z_ret hf
    subst e1
    subst e2
    exact gx_end 6 [.inr (some (.int r1), σ2), .inl 0] [E0 D 31 [.ref 50, .int (1 : Int32)] σ (some (.int r1)) σ2, ¬ ¬ (r1 = 0)] rfl ⟨(ww_La_isLaw D (by omega) (1 : Int32) σ r1 σ2 h3), (fun q => q h4), trivial⟩
  · obtain ⟨r5, σ6, h7, hf⟩ := z_bd_inv hf
    rcases z_if_inv hf with ⟨h8, hf⟩ | ⟨h8, hf⟩
    · exact gx_go_ 34 [.inr (some (.int r1), σ2), .inl 1, .inr (some (.int r5), σ6), .inl 1] [E0 D 31 [.ref 50, .int (1 : Int32)] σ (some (.int r1)) σ2, ¬ (r1 = 0), vp_in (0 : Int32) 9, vp_in (1 : Int32) 9, vp_in (2 : Int32) 9, vp_in (6 : Int32) 9, E0 D 2 [.ref 2, .int a2] (gx_up (gx_up (gx_up (gx_up σ2 51 (0 : Int32).toNatClampNeg a1) 51 (1 : Int32).toNatClampNeg a4) 51 (2 : Int32).toNatClampNeg a3) 51 (6 : Int32).toNatClampNeg a2) (some (.int r5)) σ6, r5 = 0] 43 [.ref 50, .int a1, .int a2, .int a3, .int a4] [.int (0 : Int32), .int (7 : Int32), .ref 51] σ6 rfl ⟨(ww_La_isLaw D (by omega) (1 : Int32) σ r1 σ2 h3), h4, (z_ix_in rfl), (z_ix_in rfl), (z_ix_in rfl), (z_ix_in rfl), (ww_Fo_isWork D (by omega) a2 (gx_up (gx_up (gx_up (gx_up σ2 51 (0 : Int32).toNatClampNeg a1) 51 (1 : Int32).toNatClampNeg a4) 51 (2 : Int32).toNatClampNeg a3) 51 (6 : Int32).toNatClampNeg a2) r5 σ6 h7), h8, trivial⟩ (gx_fgt (ls' := [.ref 50, .null, .null, .null, .null]) ⟨Or.inr rfl, Or.inl rfl, Or.inl rfl, Or.inl rfl, Or.inl rfl, trivial⟩ (vv_La_burnOf_43 D hD rr σ' (7 : Int32) (0 : Int32) σ6 hf))
    · obtain ⟨h9, hf⟩ := z_ck_inv hf
      exact gx_go_ 40 [.inr (some (.int r1), σ2), .inl 1, .inr (some (.int r5), σ6), .inl 0] [E0 D 31 [.ref 50, .int (1 : Int32)] σ (some (.int r1)) σ2, ¬ (r1 = 0), vp_in (0 : Int32) 9, vp_in (1 : Int32) 9, vp_in (2 : Int32) 9, vp_in (6 : Int32) 9, E0 D 2 [.ref 2, .int a2] (gx_up (gx_up (gx_up (gx_up σ2 51 (0 : Int32).toNatClampNeg a1) 51 (1 : Int32).toNatClampNeg a4) 51 (2 : Int32).toNatClampNeg a3) 51 (6 : Int32).toNatClampNeg a2) (some (.int r5)) σ6, ¬ (r5 = 0), vp_in a2 6] 43 [.ref 50, .int a1, .int a2, .int a3, .int a4] [.int (σ6 8 a2.toNatClampNeg), .int (7 : Int32), .ref 51] σ6 rfl ⟨(ww_La_isLaw D (by omega) (1 : Int32) σ r1 σ2 h3), h4, (z_ix_in rfl), (z_ix_in rfl), (z_ix_in rfl), (z_ix_in rfl), (ww_Fo_isWork D (by omega) a2 (gx_up (gx_up (gx_up (gx_up σ2 51 (0 : Int32).toNatClampNeg a1) 51 (1 : Int32).toNatClampNeg a4) 51 (2 : Int32).toNatClampNeg a3) 51 (6 : Int32).toNatClampNeg a2) r5 σ6 h7), h8, (z_ix_in h9), trivial⟩ (gx_fgt (ls' := [.ref 50, .null, .null, .null, .null]) ⟨Or.inr rfl, Or.inl rfl, Or.inl rfl, Or.inl rfl, Or.inl rfl, trivial⟩ (vv_La_burnOf_43 D hD rr σ' (7 : Int32) (σ6 8 a2.toNatClampNeg) σ6 hf))
set_option maxHeartbeats 16000000 in
set_option maxRecDepth 20000 in
theorem ww_La_burnOf (D : Nat) (hD : 3 ≤ D) (a1 : Int32) (a2 : Int32) (a3 : Int32) (a4 : Int32) (σ : gx_R) (rr : Int32) (σ' : gx_R) (hf : La_burnOf a1 a2 a3 a4 σ = some (rr, σ')) : E0 D 25 [.ref 50, .int a1, .int a2, .int a3, .int a4] σ (some (.int rr)) σ' := by
  cases D with
  | zero => omega
  | succ D => exact Or.inl ⟨Nat.le_of_ble_eq_true rfl, vv_La_burnOf_E D hD rr σ' a1 a2 a3 a4 σ hf⟩
set_option maxHeartbeats 16000000 in
set_option maxRecDepth 20000 in
theorem vv_La_soundOf_E (D : Nat) (hD : 3 ≤ D + 1) (rr : Int32) (σ' : gx_R) (a1 : Int32) (a2 : Int32) (a3 : Int32) (σ : gx_R) (hf : La_soundOf a1 a2 a3 σ = some (rr, σ')) : gx_Ev lay0 (E0 D) tt_26 (some (.int rr)) σ' 0 [.ref 50, .int a1, .int a2, .int a3] [] σ := by
  unfold La_soundOf at hf
  obtain ⟨r1, σ2, h3, hf⟩ := z_bd_inv hf
  rcases z_if_inv hf with ⟨h4, hf⟩ | ⟨h4, hf⟩
  · obtain ⟨h5, hf⟩ := z_ck_inv hf
    obtain ⟨e1, e2⟩ := z_ret hf
    subst e1
    subst e2
    exact gx_end 11 [.inr (some (.int r1), σ2), .inl 0] [E0 D 31 [.ref 50, .int (2 : Int32)] σ (some (.int r1)) σ2, ¬ ¬ (r1 = 0), vp_in a1 8] rfl ⟨(ww_La_isLaw D (by omega) (2 : Int32) σ r1 σ2 h3), (fun q => q h4), (z_ix_in h5), trivial⟩
  · obtain ⟨h6, hf⟩ := z_ck_inv hf
    obtain ⟨r7, σ8, h9, hf⟩ := z_bd_inv hf
    obtain ⟨e1, e2⟩ := z_ret hf
    subst e1
    subst e2
    exact gx_end 34 [.inr (some (.int r1), σ2), .inl 1, .inr (some (.int r7), σ8)] [E0 D 31 [.ref 50, .int (2 : Int32)] σ (some (.int r1)) σ2, ¬ (r1 = 0), vp_in (0 : Int32) 9, vp_in (1 : Int32) 9, vp_in (2 : Int32) 9, vp_in a1 8, vp_in (3 : Int32) 9, E0 D 32 [.ref 50, .int (2 : Int32), .int (99 : Int32)] (gx_up (gx_up (gx_up (gx_up σ2 51 (0 : Int32).toNatClampNeg a1) 51 (1 : Int32).toNatClampNeg a3) 51 (2 : Int32).toNatClampNeg a2) 51 (3 : Int32).toNatClampNeg ((gx_up (gx_up (gx_up σ2 51 (0 : Int32).toNatClampNeg a1) 51 (1 : Int32).toNatClampNeg a3) 51 (2 : Int32).toNatClampNeg a2) 3 a1.toNatClampNeg)) (some (.int r7)) σ8] rfl ⟨(ww_La_isLaw D (by omega) (2 : Int32) σ r1 σ2 h3), h4, (z_ix_in rfl), (z_ix_in rfl), (z_ix_in rfl), (z_ix_in h6), (z_ix_in rfl), (ww_La_valueOf D (by omega) (2 : Int32) (99 : Int32) (gx_up (gx_up (gx_up (gx_up σ2 51 (0 : Int32).toNatClampNeg a1) 51 (1 : Int32).toNatClampNeg a3) 51 (2 : Int32).toNatClampNeg a2) 51 (3 : Int32).toNatClampNeg ((gx_up (gx_up (gx_up σ2 51 (0 : Int32).toNatClampNeg a1) 51 (1 : Int32).toNatClampNeg a3) 51 (2 : Int32).toNatClampNeg a2) 3 a1.toNatClampNeg)) r7 σ8 h9), trivial⟩
set_option maxHeartbeats 16000000 in
set_option maxRecDepth 20000 in
theorem ww_La_soundOf (D : Nat) (hD : 3 ≤ D) (a1 : Int32) (a2 : Int32) (a3 : Int32) (σ : gx_R) (rr : Int32) (σ' : gx_R) (hf : La_soundOf a1 a2 a3 σ = some (rr, σ')) : E0 D 26 [.ref 50, .int a1, .int a2, .int a3] σ (some (.int rr)) σ' := by
  cases D with
  | zero => omega
  | succ D => exact Or.inl ⟨Nat.le_of_ble_eq_true rfl, vv_La_soundOf_E D hD rr σ' a1 a2 a3 σ hf⟩
set_option maxHeartbeats 16000000 in
set_option maxRecDepth 20000 in
theorem vv_La_priceOf_E (D : Nat) (hD : 3 ≤ D + 1) (rr : Int32) (σ' : gx_R) (a1 : Int32) (a2 : Int32) (a3 : Int32) (σ : gx_R) (hf : La_priceOf a1 a2 a3 σ = some (rr, σ')) : gx_Ev lay0 (E0 D) tt_27 (some (.int rr)) σ' 0 [.ref 50, .int a1, .int a2, .int a3] [] σ := by
  unfold La_priceOf at hf
  obtain ⟨r1, σ2, h3, hf⟩ := z_bd_inv hf
  rcases z_if_inv hf with ⟨h4, hf⟩ | ⟨h4, hf⟩
  · obtain ⟨e1, e2⟩ := z_ret hf
    subst e1
    subst e2
    exact gx_end 6 [.inr (some (.int r1), σ2), .inl 0] [E0 D 31 [.ref 50, .int (3 : Int32)] σ (some (.int r1)) σ2, ¬ ¬ (r1 = 0)] rfl ⟨(ww_La_isLaw D (by omega) (3 : Int32) σ r1 σ2 h3), (fun q => q h4), trivial⟩
  · obtain ⟨h5, hf⟩ := z_ck_inv hf
    obtain ⟨r6, σ7, h8, hf⟩ := z_bd_inv hf
    obtain ⟨e1, e2⟩ := z_ret hf
    subst e1
    subst e2
    exact gx_end 34 [.inr (some (.int r1), σ2), .inl 1, .inr (some (.int r6), σ7)] [E0 D 31 [.ref 50, .int (3 : Int32)] σ (some (.int r1)) σ2, ¬ (r1 = 0), vp_in (0 : Int32) 9, vp_in (1 : Int32) 9, vp_in a1 8, vp_in (3 : Int32) 9, vp_in (8 : Int32) 9, E0 D 32 [.ref 50, .int (3 : Int32), .int (999 : Int32)] (gx_up (gx_up (gx_up (gx_up σ2 51 (0 : Int32).toNatClampNeg a1) 51 (1 : Int32).toNatClampNeg a3) 51 (3 : Int32).toNatClampNeg ((gx_up (gx_up σ2 51 (0 : Int32).toNatClampNeg a1) 51 (1 : Int32).toNatClampNeg a3) 3 a1.toNatClampNeg)) 51 (8 : Int32).toNatClampNeg a2) (some (.int r6)) σ7] rfl ⟨(ww_La_isLaw D (by omega) (3 : Int32) σ r1 σ2 h3), h4, (z_ix_in rfl), (z_ix_in rfl), (z_ix_in h5), (z_ix_in rfl), (z_ix_in rfl), (ww_La_valueOf D (by omega) (3 : Int32) (999 : Int32) (gx_up (gx_up (gx_up (gx_up σ2 51 (0 : Int32).toNatClampNeg a1) 51 (1 : Int32).toNatClampNeg a3) 51 (3 : Int32).toNatClampNeg ((gx_up (gx_up σ2 51 (0 : Int32).toNatClampNeg a1) 51 (1 : Int32).toNatClampNeg a3) 3 a1.toNatClampNeg)) 51 (8 : Int32).toNatClampNeg a2) r6 σ7 h8), trivial⟩
set_option maxHeartbeats 16000000 in
set_option maxRecDepth 20000 in
theorem ww_La_priceOf (D : Nat) (hD : 3 ≤ D) (a1 : Int32) (a2 : Int32) (a3 : Int32) (σ : gx_R) (rr : Int32) (σ' : gx_R) (hf : La_priceOf a1 a2 a3 σ = some (rr, σ')) : E0 D 27 [.ref 50, .int a1, .int a2, .int a3] σ (some (.int rr)) σ' := by
  cases D with
  | zero => omega
  | succ D => exact Or.inl ⟨Nat.le_of_ble_eq_true rfl, vv_La_priceOf_E D hD rr σ' a1 a2 a3 σ hf⟩
set_option maxHeartbeats 16000000 in
set_option maxRecDepth 20000 in
theorem vv_La_worthNow_E (D : Nat) (hD : 4 ≤ D + 1) (rr : Int32) (σ' : gx_R) (a2 : Int32) (a3 : Int32) (σ : gx_R) (hf : La_worthNow a2 a3 σ = some (rr, σ')) : gx_Ev lay0 (E0 D) tt_28 (some (.int rr)) σ' 0 [.ref 50, .ref 9, .int a2, .int a3] [] σ := by
  unfold La_worthNow at hf
  obtain ⟨h1, hf⟩ := z_ck_inv hf
  obtain ⟨h2, hf⟩ := z_ck_inv hf
  obtain ⟨r3, σ4, h5, hf⟩ := z_bd_inv hf
  obtain ⟨e1, e2⟩ := z_ret hf
  subst e1
  subst e2
  exact gx_end 15 [.inr (some (.int r3), σ4)] [vp_in a2 8, vp_in a2 8, E0 D 24 [.ref 50, .int a2, .int (σ 11 a2.toNatClampNeg), .int (σ 12 a2.toNatClampNeg), .int a3, .int (σ 9 6)] σ (some (.int r3)) σ4] rfl ⟨(z_ix_in h1), (z_ix_in h2), (ww_La_worthOf D (by omega) a2 (σ 11 a2.toNatClampNeg) (σ 12 a2.toNatClampNeg) a3 (σ 9 6) σ r3 σ4 h5), trivial⟩
set_option maxHeartbeats 16000000 in
set_option maxRecDepth 20000 in
theorem ww_La_worthNow (D : Nat) (hD : 4 ≤ D) (a2 : Int32) (a3 : Int32) (σ : gx_R) (rr : Int32) (σ' : gx_R) (hf : La_worthNow a2 a3 σ = some (rr, σ')) : E0 D 28 [.ref 50, .ref 9, .int a2, .int a3] σ (some (.int rr)) σ' := by
  cases D with
  | zero => omega
  | succ D => exact Or.inl ⟨Nat.le_of_ble_eq_true rfl, vv_La_worthNow_E D hD rr σ' a2 a3 σ hf⟩
set_option maxHeartbeats 16000000 in
set_option maxRecDepth 20000 in
theorem vv_La_burnNow_E_9 (D : Nat) (hD : 4 ≤ D + 1) (rr : Int32) (σ' : gx_R) (a2 : Int32) (σ : gx_R) (hf : La_burnNow 9 a2 σ = some (rr, σ')) : gx_Ev lay0 (E0 D) tt_29 (some (.int rr)) σ' 0 [.ref 50, .ref 9, .int a2] [] σ := by
  unfold La_burnNow at hf
  obtain ⟨h1, hf⟩ := z_ck_inv hf
  obtain ⟨h2, hf⟩ := z_ck_inv hf
  obtain ⟨r3, σ4, h5, hf⟩ := z_bd_inv hf
  obtain ⟨e1, e2⟩ := z_ret hf
  subst e1
  subst e2
  exact gx_end 14 [.inr (some (.int r3), σ4)] [vp_in a2 8, vp_in a2 8, E0 D 25 [.ref 50, .int a2, .int (σ 11 a2.toNatClampNeg), .int (σ 12 a2.toNatClampNeg), .int (σ 9 6)] σ (some (.int r3)) σ4] rfl ⟨(z_ix_in h1), (z_ix_in h2), (ww_La_burnOf D (by omega) a2 (σ 11 a2.toNatClampNeg) (σ 12 a2.toNatClampNeg) (σ 9 6) σ r3 σ4 h5), trivial⟩
set_option maxHeartbeats 16000000 in
set_option maxRecDepth 20000 in
theorem ww_La_burnNow_9 (D : Nat) (hD : 4 ≤ D) (a2 : Int32) (σ : gx_R) (rr : Int32) (σ' : gx_R) (hf : La_burnNow 9 a2 σ = some (rr, σ')) : E0 D 29 [.ref 50, .ref 9, .int a2] σ (some (.int rr)) σ' := by
  cases D with
  | zero => omega
  | succ D => exact Or.inl ⟨Nat.le_of_ble_eq_true rfl, vv_La_burnNow_E_9 D hD rr σ' a2 σ hf⟩
set_option maxHeartbeats 16000000 in
set_option maxRecDepth 20000 in
theorem vv_La_burnNow_E_56 (D : Nat) (hD : 4 ≤ D + 1) (rr : Int32) (σ' : gx_R) (a2 : Int32) (σ : gx_R) (hf : La_burnNow 56 a2 σ = some (rr, σ')) : gx_Ev lay0 (E0 D) tt_29 (some (.int rr)) σ' 0 [.ref 50, .ref 56, .int a2] [] σ := by
  unfold La_burnNow at hf
  obtain ⟨h1, hf⟩ := z_ck_inv hf
  obtain ⟨h2, hf⟩ := z_ck_inv hf
  obtain ⟨r3, σ4, h5, hf⟩ := z_bd_inv hf
  obtain ⟨e1, e2⟩ := z_ret hf
  subst e1
  subst e2
  exact gx_end 14 [.inr (some (.int r3), σ4)] [vp_in a2 8, vp_in a2 8, E0 D 25 [.ref 50, .int a2, .int (σ 58 a2.toNatClampNeg), .int (σ 59 a2.toNatClampNeg), .int (σ 56 6)] σ (some (.int r3)) σ4] rfl ⟨(z_ix_in h1), (z_ix_in h2), (ww_La_burnOf D (by omega) a2 (σ 58 a2.toNatClampNeg) (σ 59 a2.toNatClampNeg) (σ 56 6) σ r3 σ4 h5), trivial⟩
set_option maxHeartbeats 16000000 in
set_option maxRecDepth 20000 in
theorem ww_La_burnNow_56 (D : Nat) (hD : 4 ≤ D) (a2 : Int32) (σ : gx_R) (rr : Int32) (σ' : gx_R) (hf : La_burnNow 56 a2 σ = some (rr, σ')) : E0 D 29 [.ref 50, .ref 56, .int a2] σ (some (.int rr)) σ' := by
  cases D with
  | zero => omega
  | succ D => exact Or.inl ⟨Nat.le_of_ble_eq_true rfl, vv_La_burnNow_E_56 D hD rr σ' a2 σ hf⟩
set_option maxHeartbeats 16000000 in
set_option maxRecDepth 20000 in
theorem ww_La_burnNow (D : Nat) (hD : 4 ≤ D) (b1 : Nat) (a2 : Int32) (σ : gx_R) (rr : Int32) (σ' : gx_R) (hb1 : b1 = 9 ∨ b1 = 56) (hf : La_burnNow b1 a2 σ = some (rr, σ')) : E0 D 29 [.ref 50, .ref b1, .int a2] σ (some (.int rr)) σ' := by
  rcases hb1 with rfl | rfl
  · exact ww_La_burnNow_9 D hD a2 σ rr σ' hf
  · exact ww_La_burnNow_56 D hD a2 σ rr σ' hf
set_option maxHeartbeats 16000000 in
set_option maxRecDepth 20000 in
theorem vv_La_fuelNow_29_9 (D : Nat) (hD : 4 ≤ D + 1) (rr : Int32) (σ' : gx_R) (K4 : Nat → Int32 → Int32 → Int32 → gx_R → Option (Int32 × gx_R)) (hK4 : ∀ (b1 : Nat) (a2 : Int32) (a3 : Int32) (a4 : Int32) (σ : gx_R), (b1 = 9 ∨ b1 = 56) → K4 b1 a2 a3 a4 σ = some (rr, σ') → gx_Ev lay0 (E0 D) tt_30 (some (.int rr)) σ' 4 [.ref 50, .ref b1, .int a2, .int a3, .int a4] [] σ) (a2 : Int32) (a3 : Int32) (a4 : Int32) (σ : gx_R) (hf : La_fuelNow_29 K4 9 a2 a3 a4 σ = some (rr, σ')) : gx_Ev lay0 (E0 D) tt_30 (some (.int rr)) σ' 29 [.ref 50, .ref 9, .int a2, .int a3, .int a4] [] σ := by
  unfold La_fuelNow_29 at hf
  exact gx_go_ 2 [] [] 4 [.ref 50, .ref 9, .int a2, .int a3, .int (a4 + 1)] [] σ rfl trivial (gx_fgt (ls' := [.ref 50, .ref 9, .int a2, .int a3, .int (a4 + 1)]) ⟨Or.inr rfl, Or.inr rfl, Or.inr rfl, Or.inr rfl, Or.inr rfl, trivial⟩ (hK4 9 a2 a3 (a4 + 1) σ (Or.inl rfl) hf))
set_option maxHeartbeats 16000000 in
set_option maxRecDepth 20000 in
theorem vv_La_fuelNow_29_56 (D : Nat) (hD : 4 ≤ D + 1) (rr : Int32) (σ' : gx_R) (K4 : Nat → Int32 → Int32 → Int32 → gx_R → Option (Int32 × gx_R)) (hK4 : ∀ (b1 : Nat) (a2 : Int32) (a3 : Int32) (a4 : Int32) (σ : gx_R), (b1 = 9 ∨ b1 = 56) → K4 b1 a2 a3 a4 σ = some (rr, σ') → gx_Ev lay0 (E0 D) tt_30 (some (.int rr)) σ' 4 [.ref 50, .ref b1, .int a2, .int a3, .int a4] [] σ) (a2 : Int32) (a3 : Int32) (a4 : Int32) (σ : gx_R) (hf : La_fuelNow_29 K4 56 a2 a3 a4 σ = some (rr, σ')) : gx_Ev lay0 (E0 D) tt_30 (some (.int rr)) σ' 29 [.ref 50, .ref 56, .int a2, .int a3, .int a4] [] σ := by
  unfold La_fuelNow_29 at hf
  exact gx_go_ 2 [] [] 4 [.ref 50, .ref 56, .int a2, .int a3, .int (a4 + 1)] [] σ rfl trivial (gx_fgt (ls' := [.ref 50, .ref 56, .int a2, .int a3, .int (a4 + 1)]) ⟨Or.inr rfl, Or.inr rfl, Or.inr rfl, Or.inr rfl, Or.inr rfl, trivial⟩ (hK4 56 a2 a3 (a4 + 1) σ (Or.inr rfl) hf))
set_option maxHeartbeats 16000000 in
set_option maxRecDepth 20000 in
theorem vv_La_fuelNow_29 (D : Nat) (hD : 4 ≤ D + 1) (rr : Int32) (σ' : gx_R) (K4 : Nat → Int32 → Int32 → Int32 → gx_R → Option (Int32 × gx_R)) (hK4 : ∀ (b1 : Nat) (a2 : Int32) (a3 : Int32) (a4 : Int32) (σ : gx_R), (b1 = 9 ∨ b1 = 56) → K4 b1 a2 a3 a4 σ = some (rr, σ') → gx_Ev lay0 (E0 D) tt_30 (some (.int rr)) σ' 4 [.ref 50, .ref b1, .int a2, .int a3, .int a4] [] σ) (b1 : Nat) (a2 : Int32) (a3 : Int32) (a4 : Int32) (σ : gx_R) (hb1 : b1 = 9 ∨ b1 = 56) (hf : La_fuelNow_29 K4 b1 a2 a3 a4 σ = some (rr, σ')) : gx_Ev lay0 (E0 D) tt_30 (some (.int rr)) σ' 29 [.ref 50, .ref b1, .int a2, .int a3, .int a4] [] σ := by
  rcases hb1 with rfl | rfl
  · exact vv_La_fuelNow_29_9 D hD rr σ'  K4 hK4 a2 a3 a4 σ hf
  · exact vv_La_fuelNow_29_56 D hD rr σ'  K4 hK4 a2 a3 a4 σ hf
set_option maxHeartbeats 16000000 in
set_option maxRecDepth 20000 in
theorem vv_La_fuelNow_4_B_9 (D : Nat) (hD : 4 ≤ D + 1) (rr : Int32) (σ' : gx_R) (K4 : Nat → Int32 → Int32 → Int32 → gx_R → Option (Int32 × gx_R)) (hK4 : ∀ (b1 : Nat) (a2 : Int32) (a3 : Int32) (a4 : Int32) (σ : gx_R), (b1 = 9 ∨ b1 = 56) → K4 b1 a2 a3 a4 σ = some (rr, σ') → gx_Ev lay0 (E0 D) tt_30 (some (.int rr)) σ' 4 [.ref 50, .ref b1, .int a2, .int a3, .int a4] [] σ) (a2 : Int32) (a3 : Int32) (a4 : Int32) (σ : gx_R) (hf : La_fuelNow_4_B K4 9 a2 a3 a4 σ = some (rr, σ')) : gx_Ev lay0 (E0 D) tt_30 (some (.int rr)) σ' 4 [.ref 50, .ref 9, .int a2, .int a3, .int a4] [] σ := by
  unfold La_fuelNow_4_B at hf
  rcases z_if_inv hf with ⟨h1, hf⟩ | ⟨h1, hf⟩
  · obtain ⟨e1, e2⟩ := z_ret hf
    subst e1
    subst e2
    exact gx_end 5 [.inl 1] [(8 : Int32) ≤ a4] rfl ⟨h1, trivial⟩
  · obtain ⟨r2, σ3, h4, hf⟩ := z_bd_inv hf
    rcases z_if_inv hf with ⟨h5, hf⟩ | ⟨h5, hf⟩
    · exact gx_go_ 8 [.inl 0, .inr (some (.int r2), σ3), .inl 1] [¬ ((8 : Int32) ≤ a4), E0 D 8 [.ref 9, .int a4, .int a2] σ (some (.int r2)) σ3, r2 = 0] 29 [.ref 50, .ref 9, .int a2, .int a3, .int a4] [] σ3 rfl ⟨h1, (ww_Ni_sleepsFor D (by omega) 9 a4 a2 σ r2 σ3 (Or.inl rfl) h4), h5, trivial⟩ (gx_fgt (ls' := [.ref 50, .ref 9, .int a2, .int a3, .int a4]) ⟨Or.inr rfl, Or.inr rfl, Or.inr rfl, Or.inr rfl, Or.inr rfl, trivial⟩ (vv_La_fuelNow_29 D hD rr σ' K4 hK4 9 a2 a3 a4 σ3 (Or.inl rfl) hf))
    · obtain ⟨h6, hf⟩ := z_ck_inv hf
      obtain ⟨h7, hf⟩ := z_ck_inv hf
      obtain ⟨r8, σ9, h10, hf⟩ := z_bd_inv hf
      exact gx_go_ 25 [.inl 0, .inr (some (.int r2), σ3), .inl 0, .inr (some (.int r8), σ9)] [¬ ((8 : Int32) ≤ a4), E0 D 8 [.ref 9, .int a4, .int a2] σ (some (.int r2)) σ3, ¬ (r2 = 0), vp_in a4 8, vp_in a4 8, E0 D 24 [.ref 50, .int a4, .int a2, .int (σ3 12 a4.toNatClampNeg), .int (σ3 13 a4.toNatClampNeg), .int (σ3 9 6)] σ3 (some (.int r8)) σ9] 29 [.ref 50, .ref 9, .int a2, .int (a3 + r8), .int a4] [] σ9 rfl ⟨h1, (ww_Ni_sleepsFor D (by omega) 9 a4 a2 σ r2 σ3 (Or.inl rfl) h4), h5, (z_ix_in h6), (z_ix_in h7), (ww_La_worthOf D (by omega) a4 a2 (σ3 12 a4.toNatClampNeg) (σ3 13 a4.toNatClampNeg) (σ3 9 6) σ3 r8 σ9 h10), trivial⟩ (gx_fgt (ls' := [.ref 50, .ref 9, .int a2, .int (a3 + r8), .int a4]) ⟨Or.inr rfl, Or.inr rfl, Or.inr rfl, Or.inr rfl, Or.inr rfl, trivial⟩ (vv_La_fuelNow_29 D hD rr σ' K4 hK4 9 a2 (a3 + r8) a4 σ9 (Or.inl rfl) hf))
set_option maxHeartbeats 16000000 in
set_option maxRecDepth 20000 in
theorem vv_La_fuelNow_4_B_56 (D : Nat) (hD : 4 ≤ D + 1) (rr : Int32) (σ' : gx_R) (K4 : Nat → Int32 → Int32 → Int32 → gx_R → Option (Int32 × gx_R)) (hK4 : ∀ (b1 : Nat) (a2 : Int32) (a3 : Int32) (a4 : Int32) (σ : gx_R), (b1 = 9 ∨ b1 = 56) → K4 b1 a2 a3 a4 σ = some (rr, σ') → gx_Ev lay0 (E0 D) tt_30 (some (.int rr)) σ' 4 [.ref 50, .ref b1, .int a2, .int a3, .int a4] [] σ) (a2 : Int32) (a3 : Int32) (a4 : Int32) (σ : gx_R) (hf : La_fuelNow_4_B K4 56 a2 a3 a4 σ = some (rr, σ')) : gx_Ev lay0 (E0 D) tt_30 (some (.int rr)) σ' 4 [.ref 50, .ref 56, .int a2, .int a3, .int a4] [] σ := by
  unfold La_fuelNow_4_B at hf
  rcases z_if_inv hf with ⟨h1, hf⟩ | ⟨h1, hf⟩
  · obtain ⟨e1, e2⟩ := z_ret hf
    subst e1
    subst e2
    exact gx_end 5 [.inl 1] [(8 : Int32) ≤ a4] rfl ⟨h1, trivial⟩
  · obtain ⟨r2, σ3, h4, hf⟩ := z_bd_inv hf
    rcases z_if_inv hf with ⟨h5, hf⟩ | ⟨h5, hf⟩
    · exact gx_go_ 8 [.inl 0, .inr (some (.int r2), σ3), .inl 1] [¬ ((8 : Int32) ≤ a4), E0 D 8 [.ref 56, .int a4, .int a2] σ (some (.int r2)) σ3, r2 = 0] 29 [.ref 50, .ref 56, .int a2, .int a3, .int a4] [] σ3 rfl ⟨h1, (ww_Ni_sleepsFor D (by omega) 56 a4 a2 σ r2 σ3 (Or.inr rfl) h4), h5, trivial⟩ (gx_fgt (ls' := [.ref 50, .ref 56, .int a2, .int a3, .int a4]) ⟨Or.inr rfl, Or.inr rfl, Or.inr rfl, Or.inr rfl, Or.inr rfl, trivial⟩ (vv_La_fuelNow_29 D hD rr σ' K4 hK4 56 a2 a3 a4 σ3 (Or.inr rfl) hf))
    · obtain ⟨h6, hf⟩ := z_ck_inv hf
      obtain ⟨h7, hf⟩ := z_ck_inv hf
      obtain ⟨r8, σ9, h10, hf⟩ := z_bd_inv hf
      exact gx_go_ 25 [.inl 0, .inr (some (.int r2), σ3), .inl 0, .inr (some (.int r8), σ9)] [¬ ((8 : Int32) ≤ a4), E0 D 8 [.ref 56, .int a4, .int a2] σ (some (.int r2)) σ3, ¬ (r2 = 0), vp_in a4 8, vp_in a4 8, E0 D 24 [.ref 50, .int a4, .int a2, .int (σ3 59 a4.toNatClampNeg), .int (σ3 60 a4.toNatClampNeg), .int (σ3 56 6)] σ3 (some (.int r8)) σ9] 29 [.ref 50, .ref 56, .int a2, .int (a3 + r8), .int a4] [] σ9 rfl ⟨h1, (ww_Ni_sleepsFor D (by omega) 56 a4 a2 σ r2 σ3 (Or.inr rfl) h4), h5, (z_ix_in h6), (z_ix_in h7), (ww_La_worthOf D (by omega) a4 a2 (σ3 59 a4.toNatClampNeg) (σ3 60 a4.toNatClampNeg) (σ3 56 6) σ3 r8 σ9 h10), trivial⟩ (gx_fgt (ls' := [.ref 50, .ref 56, .int a2, .int (a3 + r8), .int a4]) ⟨Or.inr rfl, Or.inr rfl, Or.inr rfl, Or.inr rfl, Or.inr rfl, trivial⟩ (vv_La_fuelNow_29 D hD rr σ' K4 hK4 56 a2 (a3 + r8) a4 σ9 (Or.inr rfl) hf))
set_option maxHeartbeats 16000000 in
set_option maxRecDepth 20000 in
theorem vv_La_fuelNow_4_B (D : Nat) (hD : 4 ≤ D + 1) (rr : Int32) (σ' : gx_R) (K4 : Nat → Int32 → Int32 → Int32 → gx_R → Option (Int32 × gx_R)) (hK4 : ∀ (b1 : Nat) (a2 : Int32) (a3 : Int32) (a4 : Int32) (σ : gx_R), (b1 = 9 ∨ b1 = 56) → K4 b1 a2 a3 a4 σ = some (rr, σ') → gx_Ev lay0 (E0 D) tt_30 (some (.int rr)) σ' 4 [.ref 50, .ref b1, .int a2, .int a3, .int a4] [] σ) (b1 : Nat) (a2 : Int32) (a3 : Int32) (a4 : Int32) (σ : gx_R) (hb1 : b1 = 9 ∨ b1 = 56) (hf : La_fuelNow_4_B K4 b1 a2 a3 a4 σ = some (rr, σ')) : gx_Ev lay0 (E0 D) tt_30 (some (.int rr)) σ' 4 [.ref 50, .ref b1, .int a2, .int a3, .int a4] [] σ := by
  rcases hb1 with rfl | rfl
  · exact vv_La_fuelNow_4_B_9 D hD rr σ'  K4 hK4 a2 a3 a4 σ hf
  · exact vv_La_fuelNow_4_B_56 D hD rr σ'  K4 hK4 a2 a3 a4 σ hf
set_option maxHeartbeats 16000000 in
set_option maxRecDepth 20000 in
theorem vv_La_fuelNow_4 (D : Nat) (hD : 4 ≤ D + 1) (rr : Int32) (σ' : gx_R) : ∀ (n : Nat) (b1 : Nat) (a2 : Int32) (a3 : Int32) (a4 : Int32) (σ : gx_R), (b1 = 9 ∨ b1 = 56) → La_fuelNow_4 n b1 a2 a3 a4 σ = some (rr, σ') → gx_Ev lay0 (E0 D) tt_30 (some (.int rr)) σ' 4 [.ref 50, .ref b1, .int a2, .int a3, .int a4] [] σ := by
  intro n
  induction n with
  | zero => intro b1 a2 a3 a4 σ hb1 hf; cases hf
  | succ n ih => intro b1 a2 a3 a4 σ hb1 hf; exact vv_La_fuelNow_4_B D hD rr σ'  (La_fuelNow_4 n) ih b1 a2 a3 a4 σ hb1 hf
set_option maxHeartbeats 16000000 in
set_option maxRecDepth 20000 in
theorem vv_La_fuelNow_E_9 (D : Nat) (hD : 4 ≤ D + 1) (rr : Int32) (σ' : gx_R) (a2 : Int32) (σ : gx_R) (hf : La_fuelNow 9 a2 σ = some (rr, σ')) : gx_Ev lay0 (E0 D) tt_30 (some (.int rr)) σ' 0 [.ref 50, .ref 9, .int a2, .null, .null] [] σ := by
  unfold La_fuelNow at hf
  exact gx_go_ 4 [] [] 4 [.ref 50, .ref 9, .int a2, .int (0 : Int32), .int (0 : Int32)] [] σ rfl trivial (gx_fgt (ls' := [.ref 50, .ref 9, .int a2, .int (0 : Int32), .int (0 : Int32)]) ⟨Or.inr rfl, Or.inr rfl, Or.inr rfl, Or.inr rfl, Or.inr rfl, trivial⟩ (vv_La_fuelNow_4 D hD rr σ' z_FU 9 a2 (0 : Int32) (0 : Int32) σ (Or.inl rfl) hf))
set_option maxHeartbeats 16000000 in
set_option maxRecDepth 20000 in
theorem ww_La_fuelNow_9 (D : Nat) (hD : 4 ≤ D) (a2 : Int32) (σ : gx_R) (rr : Int32) (σ' : gx_R) (hf : La_fuelNow 9 a2 σ = some (rr, σ')) : E0 D 30 [.ref 50, .ref 9, .int a2] σ (some (.int rr)) σ' := by
  cases D with
  | zero => omega
  | succ D => exact Or.inl ⟨Nat.le_of_ble_eq_true rfl, vv_La_fuelNow_E_9 D hD rr σ' a2 σ hf⟩
set_option maxHeartbeats 16000000 in
set_option maxRecDepth 20000 in
theorem vv_La_fuelNow_E_56 (D : Nat) (hD : 4 ≤ D + 1) (rr : Int32) (σ' : gx_R) (a2 : Int32) (σ : gx_R) (hf : La_fuelNow 56 a2 σ = some (rr, σ')) : gx_Ev lay0 (E0 D) tt_30 (some (.int rr)) σ' 0 [.ref 50, .ref 56, .int a2, .null, .null] [] σ := by
  unfold La_fuelNow at hf
  exact gx_go_ 4 [] [] 4 [.ref 50, .ref 56, .int a2, .int (0 : Int32), .int (0 : Int32)] [] σ rfl trivial (gx_fgt (ls' := [.ref 50, .ref 56, .int a2, .int (0 : Int32), .int (0 : Int32)]) ⟨Or.inr rfl, Or.inr rfl, Or.inr rfl, Or.inr rfl, Or.inr rfl, trivial⟩ (vv_La_fuelNow_4 D hD rr σ' z_FU 56 a2 (0 : Int32) (0 : Int32) σ (Or.inr rfl) hf))
set_option maxHeartbeats 16000000 in
set_option maxRecDepth 20000 in
theorem ww_La_fuelNow_56 (D : Nat) (hD : 4 ≤ D) (a2 : Int32) (σ : gx_R) (rr : Int32) (σ' : gx_R) (hf : La_fuelNow 56 a2 σ = some (rr, σ')) : E0 D 30 [.ref 50, .ref 56, .int a2] σ (some (.int rr)) σ' := by
  cases D with
  | zero => omega
  | succ D => exact Or.inl ⟨Nat.le_of_ble_eq_true rfl, vv_La_fuelNow_E_56 D hD rr σ' a2 σ hf⟩
set_option maxHeartbeats 16000000 in
set_option maxRecDepth 20000 in
theorem ww_La_fuelNow (D : Nat) (hD : 4 ≤ D) (b1 : Nat) (a2 : Int32) (σ : gx_R) (rr : Int32) (σ' : gx_R) (hb1 : b1 = 9 ∨ b1 = 56) (hf : La_fuelNow b1 a2 σ = some (rr, σ')) : E0 D 30 [.ref 50, .ref b1, .int a2] σ (some (.int rr)) σ' := by
  rcases hb1 with rfl | rfl
  · exact ww_La_fuelNow_9 D hD a2 σ rr σ' hf
  · exact ww_La_fuelNow_56 D hD a2 σ rr σ' hf
set_option maxHeartbeats 16000000 in
set_option maxRecDepth 20000 in
theorem vv_Cl_goForward_54_9 (D : Nat) (hD : 2 ≤ D + 1) (rr : Unit) (σ' : gx_R) (K28 : Nat → Int32 → Int32 → gx_R → Option (Unit × gx_R)) (hK28 : ∀ (b1 : Nat) (a2 : Int32) (a4 : Int32) (σ : gx_R), (b1 = 9 ∨ b1 = 56) → K28 b1 a2 a4 σ = some (rr, σ') → gx_Ev lay0 (E0 D) tt_35 none σ' 28 [.null, .ref b1, .int a2, .null, .int a4, .null] [] σ) (a2 : Int32) (a4 : Int32) (σ : gx_R) (hf : Cl_goForward_54 K28 9 a2 a4 σ = some (rr, σ')) : gx_Ev lay0 (E0 D) tt_35 none σ' 54 [.null, .ref 9, .int a2, .null, .int a4, .null] [] σ := by
  unfold Cl_goForward_54 at hf
  exact gx_go_ 2 [] [] 28 [.null, .ref 9, .int a2, .null, .int (a4 + 1), .null] [] σ rfl trivial (gx_fgt (ls' := [.null, .ref 9, .int a2, .null, .int (a4 + 1), .null]) ⟨Or.inl rfl, Or.inr rfl, Or.inr rfl, Or.inl rfl, Or.inr rfl, Or.inl rfl, trivial⟩ (hK28 9 a2 (a4 + 1) σ (Or.inl rfl) hf))
set_option maxHeartbeats 16000000 in
set_option maxRecDepth 20000 in
theorem vv_Cl_goForward_54_56 (D : Nat) (hD : 2 ≤ D + 1) (rr : Unit) (σ' : gx_R) (K28 : Nat → Int32 → Int32 → gx_R → Option (Unit × gx_R)) (hK28 : ∀ (b1 : Nat) (a2 : Int32) (a4 : Int32) (σ : gx_R), (b1 = 9 ∨ b1 = 56) → K28 b1 a2 a4 σ = some (rr, σ') → gx_Ev lay0 (E0 D) tt_35 none σ' 28 [.null, .ref b1, .int a2, .null, .int a4, .null] [] σ) (a2 : Int32) (a4 : Int32) (σ : gx_R) (hf : Cl_goForward_54 K28 56 a2 a4 σ = some (rr, σ')) : gx_Ev lay0 (E0 D) tt_35 none σ' 54 [.null, .ref 56, .int a2, .null, .int a4, .null] [] σ := by
  unfold Cl_goForward_54 at hf
  exact gx_go_ 2 [] [] 28 [.null, .ref 56, .int a2, .null, .int (a4 + 1), .null] [] σ rfl trivial (gx_fgt (ls' := [.null, .ref 56, .int a2, .null, .int (a4 + 1), .null]) ⟨Or.inl rfl, Or.inr rfl, Or.inr rfl, Or.inl rfl, Or.inr rfl, Or.inl rfl, trivial⟩ (hK28 56 a2 (a4 + 1) σ (Or.inr rfl) hf))
set_option maxHeartbeats 16000000 in
set_option maxRecDepth 20000 in
theorem vv_Cl_goForward_54 (D : Nat) (hD : 2 ≤ D + 1) (rr : Unit) (σ' : gx_R) (K28 : Nat → Int32 → Int32 → gx_R → Option (Unit × gx_R)) (hK28 : ∀ (b1 : Nat) (a2 : Int32) (a4 : Int32) (σ : gx_R), (b1 = 9 ∨ b1 = 56) → K28 b1 a2 a4 σ = some (rr, σ') → gx_Ev lay0 (E0 D) tt_35 none σ' 28 [.null, .ref b1, .int a2, .null, .int a4, .null] [] σ) (b1 : Nat) (a2 : Int32) (a4 : Int32) (σ : gx_R) (hb1 : b1 = 9 ∨ b1 = 56) (hf : Cl_goForward_54 K28 b1 a2 a4 σ = some (rr, σ')) : gx_Ev lay0 (E0 D) tt_35 none σ' 54 [.null, .ref b1, .int a2, .null, .int a4, .null] [] σ := by
  rcases hb1 with rfl | rfl
  · exact vv_Cl_goForward_54_9 D hD rr σ'  K28 hK28 a2 a4 σ hf
  · exact vv_Cl_goForward_54_56 D hD rr σ'  K28 hK28 a2 a4 σ hf
set_option maxHeartbeats 16000000 in
set_option maxRecDepth 20000 in
theorem vv_Cl_goForward_28_B_9 (D : Nat) (hD : 2 ≤ D + 1) (rr : Unit) (σ' : gx_R) (K28 : Nat → Int32 → Int32 → gx_R → Option (Unit × gx_R)) (hK28 : ∀ (b1 : Nat) (a2 : Int32) (a4 : Int32) (σ : gx_R), (b1 = 9 ∨ b1 = 56) → K28 b1 a2 a4 σ = some (rr, σ') → gx_Ev lay0 (E0 D) tt_35 none σ' 28 [.null, .ref b1, .int a2, .null, .int a4, .null] [] σ) (a2 : Int32) (a4 : Int32) (σ : gx_R) (hf : Cl_goForward_28_B K28 9 a2 a4 σ = some (rr, σ')) : gx_Ev lay0 (E0 D) tt_35 none σ' 28 [.null, .ref 9, .int a2, .null, .int a4, .null] [] σ := by
  unfold Cl_goForward_28_B at hf
  rcases z_if_inv hf with ⟨h1, hf⟩ | ⟨h1, hf⟩
  · obtain ⟨e1, e2⟩ := z_ret hf
    subst e1
    subst e2
    exact gx_end 4 [.inl 1] [(8 : Int32) ≤ a4] rfl ⟨h1, trivial⟩
  · obtain ⟨r2, σ3, h4, hf⟩ := z_bd_inv hf
    rcases z_if_inv hf with ⟨h5, hf⟩ | ⟨h5, hf⟩
    · exact gx_go_ 8 [.inl 0, .inr (some (.int r2), σ3), .inl 1] [¬ ((8 : Int32) ≤ a4), E0 D 8 [.ref 9, .int a4, .int a2] σ (some (.int r2)) σ3, r2 = 0] 54 [.null, .ref 9, .int a2, .null, .int a4, .null] [] σ3 rfl ⟨h1, (ww_Ni_sleepsFor D (by omega) 9 a4 a2 σ r2 σ3 (Or.inl rfl) h4), h5, trivial⟩ (gx_fgt (ls' := [.null, .ref 9, .int a2, .null, .int a4, .null]) ⟨Or.inl rfl, Or.inr rfl, Or.inr rfl, Or.inl rfl, Or.inr rfl, Or.inl rfl, trivial⟩ (vv_Cl_goForward_54 D hD rr σ' K28 hK28 9 a2 a4 σ3 (Or.inl rfl) hf))
    · obtain ⟨h6, hf⟩ := z_ck_inv hf
      obtain ⟨h7, hf⟩ := z_ck_inv hf
      exact gx_go_ 26 [.inl 0, .inr (some (.int r2), σ3), .inl 0] [¬ ((8 : Int32) ≤ a4), E0 D 8 [.ref 9, .int a4, .int a2] σ (some (.int r2)) σ3, ¬ (r2 = 0), vp_in ((a2 * (8 : Int32)) + a4) 64, vp_in ((a2 * (8 : Int32)) + a4) 64] 54 [.null, .ref 9, .int a2, .null, .int a4, .int ((a2 * (8 : Int32)) + a4)] [] (gx_up σ3 14 ((a2 * (8 : Int32)) + a4).toNatClampNeg (if ((σ3 14 (((a2 * (8 : Int32)) + a4).toNatClampNeg)) + (1 : Int32)) < (99 : Int32) then ((σ3 14 (((a2 * (8 : Int32)) + a4).toNatClampNeg)) + (1 : Int32)) else (99 : Int32))) rfl ⟨h1, (ww_Ni_sleepsFor D (by omega) 9 a4 a2 σ r2 σ3 (Or.inl rfl) h4), h5, (z_ix_in h6), (z_ix_in h7), trivial⟩ (gx_fgt (ls' := [.null, .ref 9, .int a2, .null, .int a4, .null]) ⟨Or.inl rfl, Or.inr rfl, Or.inr rfl, Or.inl rfl, Or.inr rfl, Or.inl rfl, trivial⟩ (vv_Cl_goForward_54 D hD rr σ' K28 hK28 9 a2 a4 (gx_up σ3 14 ((a2 * (8 : Int32)) + a4).toNatClampNeg (if ((σ3 14 (((a2 * (8 : Int32)) + a4).toNatClampNeg)) + (1 : Int32)) < (99 : Int32) then ((σ3 14 (((a2 * (8 : Int32)) + a4).toNatClampNeg)) + (1 : Int32)) else (99 : Int32))) (Or.inl rfl) hf))
set_option maxHeartbeats 16000000 in
set_option maxRecDepth 20000 in
theorem vv_Cl_goForward_28_B_56 (D : Nat) (hD : 2 ≤ D + 1) (rr : Unit) (σ' : gx_R) (K28 : Nat → Int32 → Int32 → gx_R → Option (Unit × gx_R)) (hK28 : ∀ (b1 : Nat) (a2 : Int32) (a4 : Int32) (σ : gx_R), (b1 = 9 ∨ b1 = 56) → K28 b1 a2 a4 σ = some (rr, σ') → gx_Ev lay0 (E0 D) tt_35 none σ' 28 [.null, .ref b1, .int a2, .null, .int a4, .null] [] σ) (a2 : Int32) (a4 : Int32) (σ : gx_R) (hf : Cl_goForward_28_B K28 56 a2 a4 σ = some (rr, σ')) : gx_Ev lay0 (E0 D) tt_35 none σ' 28 [.null, .ref 56, .int a2, .null, .int a4, .null] [] σ := by
  unfold Cl_goForward_28_B at hf
  rcases z_if_inv hf with ⟨h1, hf⟩ | ⟨h1, hf⟩
  · obtain ⟨e1, e2⟩ := z_ret hf
    subst e1
    subst e2
    exact gx_end 4 [.inl 1] [(8 : Int32) ≤ a4] rfl ⟨h1, trivial⟩
  · obtain ⟨r2, σ3, h4, hf⟩ := z_bd_inv hf
    rcases z_if_inv hf with ⟨h5, hf⟩ | ⟨h5, hf⟩
    · exact gx_go_ 8 [.inl 0, .inr (some (.int r2), σ3), .inl 1] [¬ ((8 : Int32) ≤ a4), E0 D 8 [.ref 56, .int a4, .int a2] σ (some (.int r2)) σ3, r2 = 0] 54 [.null, .ref 56, .int a2, .null, .int a4, .null] [] σ3 rfl ⟨h1, (ww_Ni_sleepsFor D (by omega) 56 a4 a2 σ r2 σ3 (Or.inr rfl) h4), h5, trivial⟩ (gx_fgt (ls' := [.null, .ref 56, .int a2, .null, .int a4, .null]) ⟨Or.inl rfl, Or.inr rfl, Or.inr rfl, Or.inl rfl, Or.inr rfl, Or.inl rfl, trivial⟩ (vv_Cl_goForward_54 D hD rr σ' K28 hK28 56 a2 a4 σ3 (Or.inr rfl) hf))
    · obtain ⟨h6, hf⟩ := z_ck_inv hf
      obtain ⟨h7, hf⟩ := z_ck_inv hf
      exact gx_go_ 26 [.inl 0, .inr (some (.int r2), σ3), .inl 0] [¬ ((8 : Int32) ≤ a4), E0 D 8 [.ref 56, .int a4, .int a2] σ (some (.int r2)) σ3, ¬ (r2 = 0), vp_in ((a2 * (8 : Int32)) + a4) 64, vp_in ((a2 * (8 : Int32)) + a4) 64] 54 [.null, .ref 56, .int a2, .null, .int a4, .int ((a2 * (8 : Int32)) + a4)] [] (gx_up σ3 61 ((a2 * (8 : Int32)) + a4).toNatClampNeg (if ((σ3 61 (((a2 * (8 : Int32)) + a4).toNatClampNeg)) + (1 : Int32)) < (99 : Int32) then ((σ3 61 (((a2 * (8 : Int32)) + a4).toNatClampNeg)) + (1 : Int32)) else (99 : Int32))) rfl ⟨h1, (ww_Ni_sleepsFor D (by omega) 56 a4 a2 σ r2 σ3 (Or.inr rfl) h4), h5, (z_ix_in h6), (z_ix_in h7), trivial⟩ (gx_fgt (ls' := [.null, .ref 56, .int a2, .null, .int a4, .null]) ⟨Or.inl rfl, Or.inr rfl, Or.inr rfl, Or.inl rfl, Or.inr rfl, Or.inl rfl, trivial⟩ (vv_Cl_goForward_54 D hD rr σ' K28 hK28 56 a2 a4 (gx_up σ3 61 ((a2 * (8 : Int32)) + a4).toNatClampNeg (if ((σ3 61 (((a2 * (8 : Int32)) + a4).toNatClampNeg)) + (1 : Int32)) < (99 : Int32) then ((σ3 61 (((a2 * (8 : Int32)) + a4).toNatClampNeg)) + (1 : Int32)) else (99 : Int32))) (Or.inr rfl) hf))
set_option maxHeartbeats 16000000 in
set_option maxRecDepth 20000 in
theorem vv_Cl_goForward_28_B (D : Nat) (hD : 2 ≤ D + 1) (rr : Unit) (σ' : gx_R) (K28 : Nat → Int32 → Int32 → gx_R → Option (Unit × gx_R)) (hK28 : ∀ (b1 : Nat) (a2 : Int32) (a4 : Int32) (σ : gx_R), (b1 = 9 ∨ b1 = 56) → K28 b1 a2 a4 σ = some (rr, σ') → gx_Ev lay0 (E0 D) tt_35 none σ' 28 [.null, .ref b1, .int a2, .null, .int a4, .null] [] σ) (b1 : Nat) (a2 : Int32) (a4 : Int32) (σ : gx_R) (hb1 : b1 = 9 ∨ b1 = 56) (hf : Cl_goForward_28_B K28 b1 a2 a4 σ = some (rr, σ')) : gx_Ev lay0 (E0 D) tt_35 none σ' 28 [.null, .ref b1, .int a2, .null, .int a4, .null] [] σ := by
  rcases hb1 with rfl | rfl
  · exact vv_Cl_goForward_28_B_9 D hD rr σ'  K28 hK28 a2 a4 σ hf
  · exact vv_Cl_goForward_28_B_56 D hD rr σ'  K28 hK28 a2 a4 σ hf
set_option maxHeartbeats 16000000 in
set_option maxRecDepth 20000 in
theorem vv_Cl_goForward_28 (D : Nat) (hD : 2 ≤ D + 1) (rr : Unit) (σ' : gx_R) : ∀ (n : Nat) (b1 : Nat) (a2 : Int32) (a4 : Int32) (σ : gx_R), (b1 = 9 ∨ b1 = 56) → Cl_goForward_28 n b1 a2 a4 σ = some (rr, σ') → gx_Ev lay0 (E0 D) tt_35 none σ' 28 [.null, .ref b1, .int a2, .null, .int a4, .null] [] σ := by
  intro n
  induction n with
  | zero => intro b1 a2 a4 σ hb1 hf; cases hf
  | succ n ih => intro b1 a2 a4 σ hb1 hf; exact vv_Cl_goForward_28_B D hD rr σ'  (Cl_goForward_28 n) ih b1 a2 a4 σ hb1 hf
set_option maxHeartbeats 16000000 in
set_option maxRecDepth 20000 in
theorem vv_Cl_goForward_26_9 (D : Nat) (hD : 2 ≤ D + 1) (rr : Unit) (σ' : gx_R) (a2 : Int32) (σ : gx_R) (hf : Cl_goForward_26 9 a2 σ = some (rr, σ')) : gx_Ev lay0 (E0 D) tt_35 none σ' 26 [.null, .ref 9, .int a2, .null, .null, .null] [] σ := by
  unfold Cl_goForward_26 at hf
  exact gx_go_ 2 [] [] 28 [.null, .ref 9, .int a2, .null, .int (0 : Int32), .null] [] σ rfl trivial (gx_fgt (ls' := [.null, .ref 9, .int a2, .null, .int (0 : Int32), .null]) ⟨Or.inl rfl, Or.inr rfl, Or.inr rfl, Or.inl rfl, Or.inr rfl, Or.inl rfl, trivial⟩ (vv_Cl_goForward_28 D hD rr σ' z_FU 9 a2 (0 : Int32) σ (Or.inl rfl) hf))
set_option maxHeartbeats 16000000 in
set_option maxRecDepth 20000 in
theorem vv_Cl_goForward_26_56 (D : Nat) (hD : 2 ≤ D + 1) (rr : Unit) (σ' : gx_R) (a2 : Int32) (σ : gx_R) (hf : Cl_goForward_26 56 a2 σ = some (rr, σ')) : gx_Ev lay0 (E0 D) tt_35 none σ' 26 [.null, .ref 56, .int a2, .null, .null, .null] [] σ := by
  unfold Cl_goForward_26 at hf
  exact gx_go_ 2 [] [] 28 [.null, .ref 56, .int a2, .null, .int (0 : Int32), .null] [] σ rfl trivial (gx_fgt (ls' := [.null, .ref 56, .int a2, .null, .int (0 : Int32), .null]) ⟨Or.inl rfl, Or.inr rfl, Or.inr rfl, Or.inl rfl, Or.inr rfl, Or.inl rfl, trivial⟩ (vv_Cl_goForward_28 D hD rr σ' z_FU 56 a2 (0 : Int32) σ (Or.inr rfl) hf))
set_option maxHeartbeats 16000000 in
set_option maxRecDepth 20000 in
theorem vv_Cl_goForward_26 (D : Nat) (hD : 2 ≤ D + 1) (rr : Unit) (σ' : gx_R) (b1 : Nat) (a2 : Int32) (σ : gx_R) (hb1 : b1 = 9 ∨ b1 = 56) (hf : Cl_goForward_26 b1 a2 σ = some (rr, σ')) : gx_Ev lay0 (E0 D) tt_35 none σ' 26 [.null, .ref b1, .int a2, .null, .null, .null] [] σ := by
  rcases hb1 with rfl | rfl
  · exact vv_Cl_goForward_26_9 D hD rr σ'  a2 σ hf
  · exact vv_Cl_goForward_26_56 D hD rr σ'  a2 σ hf
set_option maxHeartbeats 16000000 in
set_option maxRecDepth 20000 in
theorem vv_Cl_goForward_E_9 (D : Nat) (hD : 2 ≤ D + 1) (rr : Unit) (σ' : gx_R) (a2 : Int32) (σ : gx_R) (hf : Cl_goForward 9 a2 σ = some (rr, σ')) : gx_Ev lay0 (E0 D) tt_35 none σ' 0 [.ref 53, .ref 9, .int a2, .null, .null, .null] [] σ := by
  unfold Cl_goForward at hf
  obtain ⟨h1, hf⟩ := z_ck_inv hf
  obtain ⟨r2, σ3, h4, hf⟩ := z_bd_inv hf
  rcases z_if_inv hf with ⟨h5, hf⟩ | ⟨h5, hf⟩
  · exact gx_go_ 10 [.inr (some (.int r2), σ3), .inl 1] [vp_in a2 8, E0 D 2 [.ref 2, .int (σ 11 a2.toNatClampNeg)] σ (some (.int r2)) σ3, r2 = 0] 26 [.ref 53, .ref 9, .int a2, .int (σ 11 a2.toNatClampNeg), .null, .null] [] σ3 rfl ⟨(z_ix_in h1), (ww_Fo_isWork D (by omega) (σ 11 a2.toNatClampNeg) σ r2 σ3 h4), h5, trivial⟩ (gx_fgt (ls' := [.null, .ref 9, .int a2, .null, .null, .null]) ⟨Or.inl rfl, Or.inr rfl, Or.inr rfl, Or.inl rfl, Or.inl rfl, Or.inl rfl, trivial⟩ (vv_Cl_goForward_26 D hD rr σ' 9 a2 σ3 (Or.inl rfl) hf))
  · obtain ⟨h6, hf⟩ := z_ck_inv hf
    obtain ⟨h7, hf⟩ := z_ck_inv hf
    obtain ⟨h8, hf⟩ := z_ck_inv hf
    exact gx_go_ 26 [.inr (some (.int r2), σ3), .inl 0] [vp_in a2 8, E0 D 2 [.ref 2, .int (σ 11 a2.toNatClampNeg)] σ (some (.int r2)) σ3, ¬ (r2 = 0), vp_in (σ 11 a2.toNatClampNeg) 6, vp_in (σ 11 a2.toNatClampNeg) 6, vp_in (σ 11 a2.toNatClampNeg) 6] 26 [.ref 53, .ref 9, .int a2, .int (σ 11 a2.toNatClampNeg), .null, .null] [] (gx_up σ3 15 (σ 11 a2.toNatClampNeg).toNatClampNeg (if ((σ3 15 ((σ 11 a2.toNatClampNeg).toNatClampNeg)) + (1 : Int32)) < (σ3 7 ((σ 11 a2.toNatClampNeg).toNatClampNeg)) then ((σ3 15 ((σ 11 a2.toNatClampNeg).toNatClampNeg)) + (1 : Int32)) else (σ3 7 ((σ 11 a2.toNatClampNeg).toNatClampNeg)))) rfl ⟨(z_ix_in h1), (ww_Fo_isWork D (by omega) (σ 11 a2.toNatClampNeg) σ r2 σ3 h4), h5, (z_ix_in h6), (z_ix_in h7), (z_ix_in h8), trivial⟩ (gx_fgt (ls' := [.null, .ref 9, .int a2, .null, .null, .null]) ⟨Or.inl rfl, Or.inr rfl, Or.inr rfl, Or.inl rfl, Or.inl rfl, Or.inl rfl, trivial⟩ (vv_Cl_goForward_26 D hD rr σ' 9 a2 (gx_up σ3 15 (σ 11 a2.toNatClampNeg).toNatClampNeg (if ((σ3 15 ((σ 11 a2.toNatClampNeg).toNatClampNeg)) + (1 : Int32)) < (σ3 7 ((σ 11 a2.toNatClampNeg).toNatClampNeg)) then ((σ3 15 ((σ 11 a2.toNatClampNeg).toNatClampNeg)) + (1 : Int32)) else (σ3 7 ((σ 11 a2.toNatClampNeg).toNatClampNeg)))) (Or.inl rfl) hf))
set_option maxHeartbeats 16000000 in
set_option maxRecDepth 20000 in
theorem ww_Cl_goForward_9 (D : Nat) (hD : 2 ≤ D) (a2 : Int32) (σ : gx_R) (rr : Unit) (σ' : gx_R) (hf : Cl_goForward 9 a2 σ = some (rr, σ')) : E0 D 35 [.ref 53, .ref 9, .int a2] σ none σ' := by
  cases D with
  | zero => omega
  | succ D => exact Or.inl ⟨Nat.le_of_ble_eq_true rfl, vv_Cl_goForward_E_9 D hD rr σ' a2 σ hf⟩
set_option maxHeartbeats 16000000 in
set_option maxRecDepth 20000 in
theorem vv_Cl_goForward_E_56 (D : Nat) (hD : 2 ≤ D + 1) (rr : Unit) (σ' : gx_R) (a2 : Int32) (σ : gx_R) (hf : Cl_goForward 56 a2 σ = some (rr, σ')) : gx_Ev lay0 (E0 D) tt_35 none σ' 0 [.ref 53, .ref 56, .int a2, .null, .null, .null] [] σ := by
  unfold Cl_goForward at hf
  obtain ⟨h1, hf⟩ := z_ck_inv hf
  obtain ⟨r2, σ3, h4, hf⟩ := z_bd_inv hf
  rcases z_if_inv hf with ⟨h5, hf⟩ | ⟨h5, hf⟩
  · exact gx_go_ 10 [.inr (some (.int r2), σ3), .inl 1] [vp_in a2 8, E0 D 2 [.ref 2, .int (σ 58 a2.toNatClampNeg)] σ (some (.int r2)) σ3, r2 = 0] 26 [.ref 53, .ref 56, .int a2, .int (σ 58 a2.toNatClampNeg), .null, .null] [] σ3 rfl ⟨(z_ix_in h1), (ww_Fo_isWork D (by omega) (σ 58 a2.toNatClampNeg) σ r2 σ3 h4), h5, trivial⟩ (gx_fgt (ls' := [.null, .ref 56, .int a2, .null, .null, .null]) ⟨Or.inl rfl, Or.inr rfl, Or.inr rfl, Or.inl rfl, Or.inl rfl, Or.inl rfl, trivial⟩ (vv_Cl_goForward_26 D hD rr σ' 56 a2 σ3 (Or.inr rfl) hf))
  · obtain ⟨h6, hf⟩ := z_ck_inv hf
    obtain ⟨h7, hf⟩ := z_ck_inv hf
    obtain ⟨h8, hf⟩ := z_ck_inv hf
    exact gx_go_ 26 [.inr (some (.int r2), σ3), .inl 0] [vp_in a2 8, E0 D 2 [.ref 2, .int (σ 58 a2.toNatClampNeg)] σ (some (.int r2)) σ3, ¬ (r2 = 0), vp_in (σ 58 a2.toNatClampNeg) 6, vp_in (σ 58 a2.toNatClampNeg) 6, vp_in (σ 58 a2.toNatClampNeg) 6] 26 [.ref 53, .ref 56, .int a2, .int (σ 58 a2.toNatClampNeg), .null, .null] [] (gx_up σ3 62 (σ 58 a2.toNatClampNeg).toNatClampNeg (if ((σ3 62 ((σ 58 a2.toNatClampNeg).toNatClampNeg)) + (1 : Int32)) < (σ3 7 ((σ 58 a2.toNatClampNeg).toNatClampNeg)) then ((σ3 62 ((σ 58 a2.toNatClampNeg).toNatClampNeg)) + (1 : Int32)) else (σ3 7 ((σ 58 a2.toNatClampNeg).toNatClampNeg)))) rfl ⟨(z_ix_in h1), (ww_Fo_isWork D (by omega) (σ 58 a2.toNatClampNeg) σ r2 σ3 h4), h5, (z_ix_in h6), (z_ix_in h7), (z_ix_in h8), trivial⟩ (gx_fgt (ls' := [.null, .ref 56, .int a2, .null, .null, .null]) ⟨Or.inl rfl, Or.inr rfl, Or.inr rfl, Or.inl rfl, Or.inl rfl, Or.inl rfl, trivial⟩ (vv_Cl_goForward_26 D hD rr σ' 56 a2 (gx_up σ3 62 (σ 58 a2.toNatClampNeg).toNatClampNeg (if ((σ3 62 ((σ 58 a2.toNatClampNeg).toNatClampNeg)) + (1 : Int32)) < (σ3 7 ((σ 58 a2.toNatClampNeg).toNatClampNeg)) then ((σ3 62 ((σ 58 a2.toNatClampNeg).toNatClampNeg)) + (1 : Int32)) else (σ3 7 ((σ 58 a2.toNatClampNeg).toNatClampNeg)))) (Or.inr rfl) hf))
set_option maxHeartbeats 16000000 in
set_option maxRecDepth 20000 in
theorem ww_Cl_goForward_56 (D : Nat) (hD : 2 ≤ D) (a2 : Int32) (σ : gx_R) (rr : Unit) (σ' : gx_R) (hf : Cl_goForward 56 a2 σ = some (rr, σ')) : E0 D 35 [.ref 53, .ref 56, .int a2] σ none σ' := by
  cases D with
  | zero => omega
  | succ D => exact Or.inl ⟨Nat.le_of_ble_eq_true rfl, vv_Cl_goForward_E_56 D hD rr σ' a2 σ hf⟩
set_option maxHeartbeats 16000000 in
set_option maxRecDepth 20000 in
theorem ww_Cl_goForward (D : Nat) (hD : 2 ≤ D) (b1 : Nat) (a2 : Int32) (σ : gx_R) (rr : Unit) (σ' : gx_R) (hb1 : b1 = 9 ∨ b1 = 56) (hf : Cl_goForward b1 a2 σ = some (rr, σ')) : E0 D 35 [.ref 53, .ref b1, .int a2] σ none σ' := by
  rcases hb1 with rfl | rfl
  · exact ww_Cl_goForward_9 D hD a2 σ rr σ' hf
  · exact ww_Cl_goForward_56 D hD a2 σ rr σ' hf
set_option maxHeartbeats 16000000 in
set_option maxRecDepth 20000 in
theorem vv_Cl_listen_67_9 (D : Nat) (hD : 4 ≤ D + 1) (rr : Unit) (σ' : gx_R) (K33 : Nat → Int32 → Int32 → gx_R → Option (Unit × gx_R)) (hK33 : ∀ (b1 : Nat) (a2 : Int32) (a3 : Int32) (σ : gx_R), (b1 = 9 ∨ b1 = 56) → K33 b1 a2 a3 σ = some (rr, σ') → gx_Ev lay0 (E0 D) tt_38 none σ' 33 [.ref 53, .ref b1, .int a2, .int a3] [] σ) (a2 : Int32) (a3 : Int32) (σ : gx_R) (hf : Cl_listen_67 K33 9 a2 a3 σ = some (rr, σ')) : gx_Ev lay0 (E0 D) tt_38 none σ' 67 [.ref 53, .ref 9, .int a2, .int a3] [] σ := by
  unfold Cl_listen_67 at hf
  exact gx_go_ 2 [] [] 33 [.ref 53, .ref 9, .int a2, .int (a3 + 1)] [] σ rfl trivial (gx_fgt (ls' := [.ref 53, .ref 9, .int a2, .int (a3 + 1)]) ⟨Or.inr rfl, Or.inr rfl, Or.inr rfl, Or.inr rfl, trivial⟩ (hK33 9 a2 (a3 + 1) σ (Or.inl rfl) hf))
set_option maxHeartbeats 16000000 in
set_option maxRecDepth 20000 in
theorem vv_Cl_listen_67_56 (D : Nat) (hD : 4 ≤ D + 1) (rr : Unit) (σ' : gx_R) (K33 : Nat → Int32 → Int32 → gx_R → Option (Unit × gx_R)) (hK33 : ∀ (b1 : Nat) (a2 : Int32) (a3 : Int32) (σ : gx_R), (b1 = 9 ∨ b1 = 56) → K33 b1 a2 a3 σ = some (rr, σ') → gx_Ev lay0 (E0 D) tt_38 none σ' 33 [.ref 53, .ref b1, .int a2, .int a3] [] σ) (a2 : Int32) (a3 : Int32) (σ : gx_R) (hf : Cl_listen_67 K33 56 a2 a3 σ = some (rr, σ')) : gx_Ev lay0 (E0 D) tt_38 none σ' 67 [.ref 53, .ref 56, .int a2, .int a3] [] σ := by
  unfold Cl_listen_67 at hf
  exact gx_go_ 2 [] [] 33 [.ref 53, .ref 56, .int a2, .int (a3 + 1)] [] σ rfl trivial (gx_fgt (ls' := [.ref 53, .ref 56, .int a2, .int (a3 + 1)]) ⟨Or.inr rfl, Or.inr rfl, Or.inr rfl, Or.inr rfl, trivial⟩ (hK33 56 a2 (a3 + 1) σ (Or.inr rfl) hf))
set_option maxHeartbeats 16000000 in
set_option maxRecDepth 20000 in
theorem vv_Cl_listen_67 (D : Nat) (hD : 4 ≤ D + 1) (rr : Unit) (σ' : gx_R) (K33 : Nat → Int32 → Int32 → gx_R → Option (Unit × gx_R)) (hK33 : ∀ (b1 : Nat) (a2 : Int32) (a3 : Int32) (σ : gx_R), (b1 = 9 ∨ b1 = 56) → K33 b1 a2 a3 σ = some (rr, σ') → gx_Ev lay0 (E0 D) tt_38 none σ' 33 [.ref 53, .ref b1, .int a2, .int a3] [] σ) (b1 : Nat) (a2 : Int32) (a3 : Int32) (σ : gx_R) (hb1 : b1 = 9 ∨ b1 = 56) (hf : Cl_listen_67 K33 b1 a2 a3 σ = some (rr, σ')) : gx_Ev lay0 (E0 D) tt_38 none σ' 67 [.ref 53, .ref b1, .int a2, .int a3] [] σ := by
  rcases hb1 with rfl | rfl
  · exact vv_Cl_listen_67_9 D hD rr σ'  K33 hK33 a2 a3 σ hf
  · exact vv_Cl_listen_67_56 D hD rr σ'  K33 hK33 a2 a3 σ hf
set_option maxHeartbeats 16000000 in
set_option maxRecDepth 20000 in
theorem vv_Cl_listen_33_B_9 (D : Nat) (hD : 4 ≤ D + 1) (rr : Unit) (σ' : gx_R) (K69 : Nat → Int32 → gx_R → Option (Unit × gx_R)) (hK69 : ∀ (b1 : Nat) (a2 : Int32) (σ : gx_R), (b1 = 9 ∨ b1 = 56) → K69 b1 a2 σ = some (rr, σ') → gx_Ev lay0 (E0 D) tt_38 none σ' 69 [.ref 53, .ref b1, .int a2, .null] [] σ) (K33 : Nat → Int32 → Int32 → gx_R → Option (Unit × gx_R)) (hK33 : ∀ (b1 : Nat) (a2 : Int32) (a3 : Int32) (σ : gx_R), (b1 = 9 ∨ b1 = 56) → K33 b1 a2 a3 σ = some (rr, σ') → gx_Ev lay0 (E0 D) tt_38 none σ' 33 [.ref 53, .ref b1, .int a2, .int a3] [] σ) (a2 : Int32) (a3 : Int32) (σ : gx_R) (hf : Cl_listen_33_B K69 K33 9 a2 a3 σ = some (rr, σ')) : gx_Ev lay0 (E0 D) tt_38 none σ' 33 [.ref 53, .ref 9, .int a2, .int a3] [] σ := by
  unfold Cl_listen_33_B at hf
  rcases z_if_inv hf with ⟨h1, hf⟩ | ⟨h1, hf⟩
  · exact gx_go_ 3 [.inl 1] [(8 : Int32) ≤ a3] 69 [.ref 53, .ref 9, .int a2, .int a3] [] σ rfl ⟨h1, trivial⟩ (gx_fgt (ls' := [.ref 53, .ref 9, .int a2, .null]) ⟨Or.inr rfl, Or.inr rfl, Or.inr rfl, Or.inl rfl, trivial⟩ (hK69 9 a2 σ (Or.inl rfl) hf))
  · obtain ⟨h2, hf⟩ := z_ck_inv hf
    rcases z_if_inv hf with ⟨h3, hf⟩ | ⟨h3, hf⟩
    · obtain ⟨h4, hf⟩ := z_ck_inv hf
      obtain ⟨h5, hf⟩ := z_ck_inv hf
      rcases z_if_inv hf with ⟨h6, hf⟩ | ⟨h6, hf⟩
      · exact gx_go_ 24 [.inl 0, .inl 0, .inl 1] [¬ ((8 : Int32) ≤ a3), vp_in a2 8, ¬ ¬ ((((σ 6 a2.toNatClampNeg) >>> (a3 &&& 31)) &&& (1 : Int32)) = (1 : Int32)), vp_in a3 8, vp_in a2 8, (σ 4 a3.toNatClampNeg) ≤ (σ 54 a2.toNatClampNeg)] 67 [.ref 53, .ref 9, .int a2, .int a3] [] σ rfl ⟨h1, (z_ix_in h2), (fun q => q h3), (z_ix_in h4), (z_ix_in h5), h6, trivial⟩ (gx_fgt (ls' := [.ref 53, .ref 9, .int a2, .int a3]) ⟨Or.inr rfl, Or.inr rfl, Or.inr rfl, Or.inr rfl, trivial⟩ (vv_Cl_listen_67 D hD rr σ' K33 hK33 9 a2 a3 σ (Or.inl rfl) hf))
      · obtain ⟨h7, hf⟩ := z_ck_inv hf
        obtain ⟨h8, hf⟩ := z_ck_inv hf
        exact gx_go_ 34 [.inl 0, .inl 0, .inl 0] [¬ ((8 : Int32) ≤ a3), vp_in a2 8, ¬ ¬ ((((σ 6 a2.toNatClampNeg) >>> (a3 &&& 31)) &&& (1 : Int32)) = (1 : Int32)), vp_in a3 8, vp_in a2 8, ¬ ((σ 4 a3.toNatClampNeg) ≤ (σ 54 a2.toNatClampNeg)), vp_in a2 8, vp_in a2 8] 67 [.ref 53, .ref 9, .int a2, .int a3] [] (gx_up σ 55 a2.toNatClampNeg ((σ 55 a2.toNatClampNeg) ||| ((1 : Int32) <<< (a3 &&& 31)))) rfl ⟨h1, (z_ix_in h2), (fun q => q h3), (z_ix_in h4), (z_ix_in h5), h6, (z_ix_in h7), (z_ix_in h8), trivial⟩ (gx_fgt (ls' := [.ref 53, .ref 9, .int a2, .int a3]) ⟨Or.inr rfl, Or.inr rfl, Or.inr rfl, Or.inr rfl, trivial⟩ (vv_Cl_listen_67 D hD rr σ' K33 hK33 9 a2 a3 (gx_up σ 55 a2.toNatClampNeg ((σ 55 a2.toNatClampNeg) ||| ((1 : Int32) <<< (a3 &&& 31)))) (Or.inl rfl) hf))
    · exact gx_go_ 14 [.inl 0, .inl 1] [¬ ((8 : Int32) ≤ a3), vp_in a2 8, ¬ ((((σ 6 a2.toNatClampNeg) >>> (a3 &&& 31)) &&& (1 : Int32)) = (1 : Int32))] 67 [.ref 53, .ref 9, .int a2, .int a3] [] σ rfl ⟨h1, (z_ix_in h2), h3, trivial⟩ (gx_fgt (ls' := [.ref 53, .ref 9, .int a2, .int a3]) ⟨Or.inr rfl, Or.inr rfl, Or.inr rfl, Or.inr rfl, trivial⟩ (vv_Cl_listen_67 D hD rr σ' K33 hK33 9 a2 a3 σ (Or.inl rfl) hf))
set_option maxHeartbeats 16000000 in
set_option maxRecDepth 20000 in
theorem vv_Cl_listen_33_B_56 (D : Nat) (hD : 4 ≤ D + 1) (rr : Unit) (σ' : gx_R) (K69 : Nat → Int32 → gx_R → Option (Unit × gx_R)) (hK69 : ∀ (b1 : Nat) (a2 : Int32) (σ : gx_R), (b1 = 9 ∨ b1 = 56) → K69 b1 a2 σ = some (rr, σ') → gx_Ev lay0 (E0 D) tt_38 none σ' 69 [.ref 53, .ref b1, .int a2, .null] [] σ) (K33 : Nat → Int32 → Int32 → gx_R → Option (Unit × gx_R)) (hK33 : ∀ (b1 : Nat) (a2 : Int32) (a3 : Int32) (σ : gx_R), (b1 = 9 ∨ b1 = 56) → K33 b1 a2 a3 σ = some (rr, σ') → gx_Ev lay0 (E0 D) tt_38 none σ' 33 [.ref 53, .ref b1, .int a2, .int a3] [] σ) (a2 : Int32) (a3 : Int32) (σ : gx_R) (hf : Cl_listen_33_B K69 K33 56 a2 a3 σ = some (rr, σ')) : gx_Ev lay0 (E0 D) tt_38 none σ' 33 [.ref 53, .ref 56, .int a2, .int a3] [] σ := by
  unfold Cl_listen_33_B at hf
  rcases z_if_inv hf with ⟨h1, hf⟩ | ⟨h1, hf⟩
  · exact gx_go_ 3 [.inl 1] [(8 : Int32) ≤ a3] 69 [.ref 53, .ref 56, .int a2, .int a3] [] σ rfl ⟨h1, trivial⟩ (gx_fgt (ls' := [.ref 53, .ref 56, .int a2, .null]) ⟨Or.inr rfl, Or.inr rfl, Or.inr rfl, Or.inl rfl, trivial⟩ (hK69 56 a2 σ (Or.inr rfl) hf))
  · obtain ⟨h2, hf⟩ := z_ck_inv hf
    rcases z_if_inv hf with ⟨h3, hf⟩ | ⟨h3, hf⟩
    · obtain ⟨h4, hf⟩ := z_ck_inv hf
      obtain ⟨h5, hf⟩ := z_ck_inv hf
      rcases z_if_inv hf with ⟨h6, hf⟩ | ⟨h6, hf⟩
      · exact gx_go_ 24 [.inl 0, .inl 0, .inl 1] [¬ ((8 : Int32) ≤ a3), vp_in a2 8, ¬ ¬ ((((σ 6 a2.toNatClampNeg) >>> (a3 &&& 31)) &&& (1 : Int32)) = (1 : Int32)), vp_in a3 8, vp_in a2 8, (σ 4 a3.toNatClampNeg) ≤ (σ 54 a2.toNatClampNeg)] 67 [.ref 53, .ref 56, .int a2, .int a3] [] σ rfl ⟨h1, (z_ix_in h2), (fun q => q h3), (z_ix_in h4), (z_ix_in h5), h6, trivial⟩ (gx_fgt (ls' := [.ref 53, .ref 56, .int a2, .int a3]) ⟨Or.inr rfl, Or.inr rfl, Or.inr rfl, Or.inr rfl, trivial⟩ (vv_Cl_listen_67 D hD rr σ' K33 hK33 56 a2 a3 σ (Or.inr rfl) hf))
      · obtain ⟨h7, hf⟩ := z_ck_inv hf
        obtain ⟨h8, hf⟩ := z_ck_inv hf
        exact gx_go_ 34 [.inl 0, .inl 0, .inl 0] [¬ ((8 : Int32) ≤ a3), vp_in a2 8, ¬ ¬ ((((σ 6 a2.toNatClampNeg) >>> (a3 &&& 31)) &&& (1 : Int32)) = (1 : Int32)), vp_in a3 8, vp_in a2 8, ¬ ((σ 4 a3.toNatClampNeg) ≤ (σ 54 a2.toNatClampNeg)), vp_in a2 8, vp_in a2 8] 67 [.ref 53, .ref 56, .int a2, .int a3] [] (gx_up σ 55 a2.toNatClampNeg ((σ 55 a2.toNatClampNeg) ||| ((1 : Int32) <<< (a3 &&& 31)))) rfl ⟨h1, (z_ix_in h2), (fun q => q h3), (z_ix_in h4), (z_ix_in h5), h6, (z_ix_in h7), (z_ix_in h8), trivial⟩ (gx_fgt (ls' := [.ref 53, .ref 56, .int a2, .int a3]) ⟨Or.inr rfl, Or.inr rfl, Or.inr rfl, Or.inr rfl, trivial⟩ (vv_Cl_listen_67 D hD rr σ' K33 hK33 56 a2 a3 (gx_up σ 55 a2.toNatClampNeg ((σ 55 a2.toNatClampNeg) ||| ((1 : Int32) <<< (a3 &&& 31)))) (Or.inr rfl) hf))
    · exact gx_go_ 14 [.inl 0, .inl 1] [¬ ((8 : Int32) ≤ a3), vp_in a2 8, ¬ ((((σ 6 a2.toNatClampNeg) >>> (a3 &&& 31)) &&& (1 : Int32)) = (1 : Int32))] 67 [.ref 53, .ref 56, .int a2, .int a3] [] σ rfl ⟨h1, (z_ix_in h2), h3, trivial⟩ (gx_fgt (ls' := [.ref 53, .ref 56, .int a2, .int a3]) ⟨Or.inr rfl, Or.inr rfl, Or.inr rfl, Or.inr rfl, trivial⟩ (vv_Cl_listen_67 D hD rr σ' K33 hK33 56 a2 a3 σ (Or.inr rfl) hf))
set_option maxHeartbeats 16000000 in
set_option maxRecDepth 20000 in
theorem vv_Cl_listen_33_B (D : Nat) (hD : 4 ≤ D + 1) (rr : Unit) (σ' : gx_R) (K69 : Nat → Int32 → gx_R → Option (Unit × gx_R)) (hK69 : ∀ (b1 : Nat) (a2 : Int32) (σ : gx_R), (b1 = 9 ∨ b1 = 56) → K69 b1 a2 σ = some (rr, σ') → gx_Ev lay0 (E0 D) tt_38 none σ' 69 [.ref 53, .ref b1, .int a2, .null] [] σ) (K33 : Nat → Int32 → Int32 → gx_R → Option (Unit × gx_R)) (hK33 : ∀ (b1 : Nat) (a2 : Int32) (a3 : Int32) (σ : gx_R), (b1 = 9 ∨ b1 = 56) → K33 b1 a2 a3 σ = some (rr, σ') → gx_Ev lay0 (E0 D) tt_38 none σ' 33 [.ref 53, .ref b1, .int a2, .int a3] [] σ) (b1 : Nat) (a2 : Int32) (a3 : Int32) (σ : gx_R) (hb1 : b1 = 9 ∨ b1 = 56) (hf : Cl_listen_33_B K69 K33 b1 a2 a3 σ = some (rr, σ')) : gx_Ev lay0 (E0 D) tt_38 none σ' 33 [.ref 53, .ref b1, .int a2, .int a3] [] σ := by
  rcases hb1 with rfl | rfl
  · exact vv_Cl_listen_33_B_9 D hD rr σ'  K69 hK69 K33 hK33 a2 a3 σ hf
  · exact vv_Cl_listen_33_B_56 D hD rr σ'  K69 hK69 K33 hK33 a2 a3 σ hf
set_option maxHeartbeats 16000000 in
set_option maxRecDepth 20000 in
theorem vv_Cl_listen_33 (D : Nat) (hD : 4 ≤ D + 1) (rr : Unit) (σ' : gx_R) (K69 : Nat → Int32 → gx_R → Option (Unit × gx_R)) (hK69 : ∀ (b1 : Nat) (a2 : Int32) (σ : gx_R), (b1 = 9 ∨ b1 = 56) → K69 b1 a2 σ = some (rr, σ') → gx_Ev lay0 (E0 D) tt_38 none σ' 69 [.ref 53, .ref b1, .int a2, .null] [] σ) : ∀ (n : Nat) (b1 : Nat) (a2 : Int32) (a3 : Int32) (σ : gx_R), (b1 = 9 ∨ b1 = 56) → Cl_listen_33 K69 n b1 a2 a3 σ = some (rr, σ') → gx_Ev lay0 (E0 D) tt_38 none σ' 33 [.ref 53, .ref b1, .int a2, .int a3] [] σ := by
  intro n
  induction n with
  | zero => intro b1 a2 a3 σ hb1 hf; cases hf
  | succ n ih => intro b1 a2 a3 σ hb1 hf; exact vv_Cl_listen_33_B D hD rr σ'  K69 hK69 (Cl_listen_33 K69 n) ih b1 a2 a3 σ hb1 hf
set_option maxHeartbeats 16000000 in
set_option maxRecDepth 20000 in
theorem vv_Cl_listen_69_9 (D : Nat) (hD : 4 ≤ D + 1) (rr : Unit) (σ' : gx_R) (K2 : Nat → Int32 → gx_R → Option (Unit × gx_R)) (hK2 : ∀ (b1 : Nat) (a2 : Int32) (σ : gx_R), (b1 = 9 ∨ b1 = 56) → K2 b1 a2 σ = some (rr, σ') → gx_Ev lay0 (E0 D) tt_38 none σ' 2 [.ref 53, .ref b1, .int a2, .null] [] σ) (a2 : Int32) (σ : gx_R) (hf : Cl_listen_69 K2 9 a2 σ = some (rr, σ')) : gx_Ev lay0 (E0 D) tt_38 none σ' 69 [.ref 53, .ref 9, .int a2, .null] [] σ := by
  unfold Cl_listen_69 at hf
  exact gx_go_ 2 [] [] 2 [.ref 53, .ref 9, .int (a2 + 1), .null] [] σ rfl trivial (gx_fgt (ls' := [.ref 53, .ref 9, .int (a2 + 1), .null]) ⟨Or.inr rfl, Or.inr rfl, Or.inr rfl, Or.inl rfl, trivial⟩ (hK2 9 (a2 + 1) σ (Or.inl rfl) hf))
set_option maxHeartbeats 16000000 in
set_option maxRecDepth 20000 in
theorem vv_Cl_listen_69_56 (D : Nat) (hD : 4 ≤ D + 1) (rr : Unit) (σ' : gx_R) (K2 : Nat → Int32 → gx_R → Option (Unit × gx_R)) (hK2 : ∀ (b1 : Nat) (a2 : Int32) (σ : gx_R), (b1 = 9 ∨ b1 = 56) → K2 b1 a2 σ = some (rr, σ') → gx_Ev lay0 (E0 D) tt_38 none σ' 2 [.ref 53, .ref b1, .int a2, .null] [] σ) (a2 : Int32) (σ : gx_R) (hf : Cl_listen_69 K2 56 a2 σ = some (rr, σ')) : gx_Ev lay0 (E0 D) tt_38 none σ' 69 [.ref 53, .ref 56, .int a2, .null] [] σ := by
  unfold Cl_listen_69 at hf
  exact gx_go_ 2 [] [] 2 [.ref 53, .ref 56, .int (a2 + 1), .null] [] σ rfl trivial (gx_fgt (ls' := [.ref 53, .ref 56, .int (a2 + 1), .null]) ⟨Or.inr rfl, Or.inr rfl, Or.inr rfl, Or.inl rfl, trivial⟩ (hK2 56 (a2 + 1) σ (Or.inr rfl) hf))
set_option maxHeartbeats 16000000 in
set_option maxRecDepth 20000 in
theorem vv_Cl_listen_69 (D : Nat) (hD : 4 ≤ D + 1) (rr : Unit) (σ' : gx_R) (K2 : Nat → Int32 → gx_R → Option (Unit × gx_R)) (hK2 : ∀ (b1 : Nat) (a2 : Int32) (σ : gx_R), (b1 = 9 ∨ b1 = 56) → K2 b1 a2 σ = some (rr, σ') → gx_Ev lay0 (E0 D) tt_38 none σ' 2 [.ref 53, .ref b1, .int a2, .null] [] σ) (b1 : Nat) (a2 : Int32) (σ : gx_R) (hb1 : b1 = 9 ∨ b1 = 56) (hf : Cl_listen_69 K2 b1 a2 σ = some (rr, σ')) : gx_Ev lay0 (E0 D) tt_38 none σ' 69 [.ref 53, .ref b1, .int a2, .null] [] σ := by
  rcases hb1 with rfl | rfl
  · exact vv_Cl_listen_69_9 D hD rr σ'  K2 hK2 a2 σ hf
  · exact vv_Cl_listen_69_56 D hD rr σ'  K2 hK2 a2 σ hf
set_option maxHeartbeats 16000000 in
set_option maxRecDepth 20000 in
theorem vv_Cl_listen_2_B_9 (D : Nat) (hD : 4 ≤ D + 1) (rr : Unit) (σ' : gx_R) (K2 : Nat → Int32 → gx_R → Option (Unit × gx_R)) (hK2 : ∀ (b1 : Nat) (a2 : Int32) (σ : gx_R), (b1 = 9 ∨ b1 = 56) → K2 b1 a2 σ = some (rr, σ') → gx_Ev lay0 (E0 D) tt_38 none σ' 2 [.ref 53, .ref b1, .int a2, .null] [] σ) (a2 : Int32) (σ : gx_R) (hf : Cl_listen_2_B K2 9 a2 σ = some (rr, σ')) : gx_Ev lay0 (E0 D) tt_38 none σ' 2 [.ref 53, .ref 9, .int a2, .null] [] σ := by
  unfold Cl_listen_2_B at hf
  rcases z_if_inv hf with ⟨h1, hf⟩ | ⟨h1, hf⟩
  · obtain ⟨e1, e2⟩ := z_ret hf
    subst e1
    subst e2
    exact gx_end 4 [.inl 1] [(8 : Int32) ≤ a2] rfl ⟨h1, trivial⟩
  · obtain ⟨h2, hf⟩ := z_ck_inv hf
    rcases z_if_inv hf with ⟨h3, hf⟩ | ⟨h3, hf⟩
    · obtain ⟨h4, hf⟩ := z_ck_inv hf
      obtain ⟨r5, σ6, h7, hf⟩ := z_bd_inv hf
      obtain ⟨h8, hf⟩ := z_ck_inv hf
      obtain ⟨h9, hf⟩ := z_ck_inv hf
      exact gx_go_ 30 [.inl 0, .inl 1, .inr (some (.int r5), σ6)] [¬ ((8 : Int32) ≤ a2), vp_in a2 8, (σ 10 a2.toNatClampNeg) = (2 : Int32), vp_in a2 8, E0 D 26 [.ref 50, .int a2, .int (σ 12 a2.toNatClampNeg), .int (σ 9 6)] σ (some (.int r5)) σ6, vp_in a2 8, vp_in a2 8] 33 [.ref 53, .ref 9, .int a2, .int (0 : Int32)] [] (gx_up (gx_up σ6 54 a2.toNatClampNeg r5) 55 a2.toNatClampNeg (0 : Int32)) rfl ⟨h1, (z_ix_in h2), h3, (z_ix_in h4), (ww_La_soundOf D (by omega) a2 (σ 12 a2.toNatClampNeg) (σ 9 6) σ r5 σ6 h7), (z_ix_in h8), (z_ix_in h9), trivial⟩ (gx_fgt (ls' := [.ref 53, .ref 9, .int a2, .int (0 : Int32)]) ⟨Or.inr rfl, Or.inr rfl, Or.inr rfl, Or.inr rfl, trivial⟩ (vv_Cl_listen_33 D hD rr σ' (Cl_listen_69 K2) (vv_Cl_listen_69 D hD rr σ' K2 hK2) z_FU 9 a2 (0 : Int32) (gx_up (gx_up σ6 54 a2.toNatClampNeg r5) 55 a2.toNatClampNeg (0 : Int32)) (Or.inl rfl) hf))
    · exact gx_go_ 10 [.inl 0, .inl 0] [¬ ((8 : Int32) ≤ a2), vp_in a2 8, ¬ ((σ 10 a2.toNatClampNeg) = (2 : Int32))] 69 [.ref 53, .ref 9, .int a2, .null] [] σ rfl ⟨h1, (z_ix_in h2), h3, trivial⟩ (gx_fgt (ls' := [.ref 53, .ref 9, .int a2, .null]) ⟨Or.inr rfl, Or.inr rfl, Or.inr rfl, Or.inl rfl, trivial⟩ (vv_Cl_listen_69 D hD rr σ' K2 hK2 9 a2 σ (Or.inl rfl) hf))
set_option maxHeartbeats 16000000 in
set_option maxRecDepth 20000 in
theorem vv_Cl_listen_2_B_56 (D : Nat) (hD : 4 ≤ D + 1) (rr : Unit) (σ' : gx_R) (K2 : Nat → Int32 → gx_R → Option (Unit × gx_R)) (hK2 : ∀ (b1 : Nat) (a2 : Int32) (σ : gx_R), (b1 = 9 ∨ b1 = 56) → K2 b1 a2 σ = some (rr, σ') → gx_Ev lay0 (E0 D) tt_38 none σ' 2 [.ref 53, .ref b1, .int a2, .null] [] σ) (a2 : Int32) (σ : gx_R) (hf : Cl_listen_2_B K2 56 a2 σ = some (rr, σ')) : gx_Ev lay0 (E0 D) tt_38 none σ' 2 [.ref 53, .ref 56, .int a2, .null] [] σ := by
  unfold Cl_listen_2_B at hf
  rcases z_if_inv hf with ⟨h1, hf⟩ | ⟨h1, hf⟩
  · obtain ⟨e1, e2⟩ := z_ret hf
    subst e1
    subst e2
    exact gx_end 4 [.inl 1] [(8 : Int32) ≤ a2] rfl ⟨h1, trivial⟩
  · obtain ⟨h2, hf⟩ := z_ck_inv hf
    rcases z_if_inv hf with ⟨h3, hf⟩ | ⟨h3, hf⟩
    · obtain ⟨h4, hf⟩ := z_ck_inv hf
      obtain ⟨r5, σ6, h7, hf⟩ := z_bd_inv hf
      obtain ⟨h8, hf⟩ := z_ck_inv hf
      obtain ⟨h9, hf⟩ := z_ck_inv hf
      exact gx_go_ 30 [.inl 0, .inl 1, .inr (some (.int r5), σ6)] [¬ ((8 : Int32) ≤ a2), vp_in a2 8, (σ 57 a2.toNatClampNeg) = (2 : Int32), vp_in a2 8, E0 D 26 [.ref 50, .int a2, .int (σ 59 a2.toNatClampNeg), .int (σ 56 6)] σ (some (.int r5)) σ6, vp_in a2 8, vp_in a2 8] 33 [.ref 53, .ref 56, .int a2, .int (0 : Int32)] [] (gx_up (gx_up σ6 54 a2.toNatClampNeg r5) 55 a2.toNatClampNeg (0 : Int32)) rfl ⟨h1, (z_ix_in h2), h3, (z_ix_in h4), (ww_La_soundOf D (by omega) a2 (σ 59 a2.toNatClampNeg) (σ 56 6) σ r5 σ6 h7), (z_ix_in h8), (z_ix_in h9), trivial⟩ (gx_fgt (ls' := [.ref 53, .ref 56, .int a2, .int (0 : Int32)]) ⟨Or.inr rfl, Or.inr rfl, Or.inr rfl, Or.inr rfl, trivial⟩ (vv_Cl_listen_33 D hD rr σ' (Cl_listen_69 K2) (vv_Cl_listen_69 D hD rr σ' K2 hK2) z_FU 56 a2 (0 : Int32) (gx_up (gx_up σ6 54 a2.toNatClampNeg r5) 55 a2.toNatClampNeg (0 : Int32)) (Or.inr rfl) hf))
    · exact gx_go_ 10 [.inl 0, .inl 0] [¬ ((8 : Int32) ≤ a2), vp_in a2 8, ¬ ((σ 57 a2.toNatClampNeg) = (2 : Int32))] 69 [.ref 53, .ref 56, .int a2, .null] [] σ rfl ⟨h1, (z_ix_in h2), h3, trivial⟩ (gx_fgt (ls' := [.ref 53, .ref 56, .int a2, .null]) ⟨Or.inr rfl, Or.inr rfl, Or.inr rfl, Or.inl rfl, trivial⟩ (vv_Cl_listen_69 D hD rr σ' K2 hK2 56 a2 σ (Or.inr rfl) hf))
set_option maxHeartbeats 16000000 in
set_option maxRecDepth 20000 in
theorem vv_Cl_listen_2_B (D : Nat) (hD : 4 ≤ D + 1) (rr : Unit) (σ' : gx_R) (K2 : Nat → Int32 → gx_R → Option (Unit × gx_R)) (hK2 : ∀ (b1 : Nat) (a2 : Int32) (σ : gx_R), (b1 = 9 ∨ b1 = 56) → K2 b1 a2 σ = some (rr, σ') → gx_Ev lay0 (E0 D) tt_38 none σ' 2 [.ref 53, .ref b1, .int a2, .null] [] σ) (b1 : Nat) (a2 : Int32) (σ : gx_R) (hb1 : b1 = 9 ∨ b1 = 56) (hf : Cl_listen_2_B K2 b1 a2 σ = some (rr, σ')) : gx_Ev lay0 (E0 D) tt_38 none σ' 2 [.ref 53, .ref b1, .int a2, .null] [] σ := by
  rcases hb1 with rfl | rfl
  · exact vv_Cl_listen_2_B_9 D hD rr σ'  K2 hK2 a2 σ hf
  · exact vv_Cl_listen_2_B_56 D hD rr σ'  K2 hK2 a2 σ hf
set_option maxHeartbeats 16000000 in
set_option maxRecDepth 20000 in
theorem vv_Cl_listen_2 (D : Nat) (hD : 4 ≤ D + 1) (rr : Unit) (σ' : gx_R) : ∀ (n : Nat) (b1 : Nat) (a2 : Int32) (σ : gx_R), (b1 = 9 ∨ b1 = 56) → Cl_listen_2 n b1 a2 σ = some (rr, σ') → gx_Ev lay0 (E0 D) tt_38 none σ' 2 [.ref 53, .ref b1, .int a2, .null] [] σ := by
  intro n
  induction n with
  | zero => intro b1 a2 σ hb1 hf; cases hf
  | succ n ih => intro b1 a2 σ hb1 hf; exact vv_Cl_listen_2_B D hD rr σ'  (Cl_listen_2 n) ih b1 a2 σ hb1 hf
set_option maxHeartbeats 16000000 in
set_option maxRecDepth 20000 in
theorem vv_Cl_listen_E_9 (D : Nat) (hD : 4 ≤ D + 1) (rr : Unit) (σ' : gx_R) (σ : gx_R) (hf : Cl_listen 9 σ = some (rr, σ')) : gx_Ev lay0 (E0 D) tt_38 none σ' 0 [.ref 53, .ref 9, .null, .null] [] σ := by
  unfold Cl_listen at hf
  exact gx_go_ 2 [] [] 2 [.ref 53, .ref 9, .int (0 : Int32), .null] [] σ rfl trivial (gx_fgt (ls' := [.ref 53, .ref 9, .int (0 : Int32), .null]) ⟨Or.inr rfl, Or.inr rfl, Or.inr rfl, Or.inl rfl, trivial⟩ (vv_Cl_listen_2 D hD rr σ' z_FU 9 (0 : Int32) σ (Or.inl rfl) hf))
set_option maxHeartbeats 16000000 in
set_option maxRecDepth 20000 in
theorem ww_Cl_listen_9 (D : Nat) (hD : 4 ≤ D) (σ : gx_R) (rr : Unit) (σ' : gx_R) (hf : Cl_listen 9 σ = some (rr, σ')) : E0 D 38 [.ref 53, .ref 9] σ none σ' := by
  cases D with
  | zero => omega
  | succ D => exact Or.inl ⟨Nat.le_of_ble_eq_true rfl, vv_Cl_listen_E_9 D hD rr σ' σ hf⟩
set_option maxHeartbeats 16000000 in
set_option maxRecDepth 20000 in
theorem vv_Cl_listen_E_56 (D : Nat) (hD : 4 ≤ D + 1) (rr : Unit) (σ' : gx_R) (σ : gx_R) (hf : Cl_listen 56 σ = some (rr, σ')) : gx_Ev lay0 (E0 D) tt_38 none σ' 0 [.ref 53, .ref 56, .null, .null] [] σ := by
  unfold Cl_listen at hf
  exact gx_go_ 2 [] [] 2 [.ref 53, .ref 56, .int (0 : Int32), .null] [] σ rfl trivial (gx_fgt (ls' := [.ref 53, .ref 56, .int (0 : Int32), .null]) ⟨Or.inr rfl, Or.inr rfl, Or.inr rfl, Or.inl rfl, trivial⟩ (vv_Cl_listen_2 D hD rr σ' z_FU 56 (0 : Int32) σ (Or.inr rfl) hf))
set_option maxHeartbeats 16000000 in
set_option maxRecDepth 20000 in
theorem ww_Cl_listen_56 (D : Nat) (hD : 4 ≤ D) (σ : gx_R) (rr : Unit) (σ' : gx_R) (hf : Cl_listen 56 σ = some (rr, σ')) : E0 D 38 [.ref 53, .ref 56] σ none σ' := by
  cases D with
  | zero => omega
  | succ D => exact Or.inl ⟨Nat.le_of_ble_eq_true rfl, vv_Cl_listen_E_56 D hD rr σ' σ hf⟩
set_option maxHeartbeats 16000000 in
set_option maxRecDepth 20000 in
theorem ww_Cl_listen (D : Nat) (hD : 4 ≤ D) (b1 : Nat) (σ : gx_R) (rr : Unit) (σ' : gx_R) (hb1 : b1 = 9 ∨ b1 = 56) (hf : Cl_listen b1 σ = some (rr, σ')) : E0 D 38 [.ref 53, .ref b1] σ none σ' := by
  rcases hb1 with rfl | rfl
  · exact ww_Cl_listen_9 D hD σ rr σ' hf
  · exact ww_Cl_listen_56 D hD σ rr σ' hf
set_option maxHeartbeats 16000000 in
set_option maxRecDepth 20000 in
theorem vv_Cl_isNoiseAbove_31_9 (D : Nat) (hD : 2 ≤ D + 1) (rr : Int32) (σ' : gx_R) (K2 : Nat → Int32 → Int32 → Int32 → gx_R → Option (Int32 × gx_R)) (hK2 : ∀ (b1 : Nat) (a2 : Int32) (a3 : Int32) (a4 : Int32) (σ : gx_R), (b1 = 9 ∨ b1 = 56) → K2 b1 a2 a3 a4 σ = some (rr, σ') → gx_Ev lay0 (E0 D) tt_37 (some (.int rr)) σ' 2 [.ref 53, .ref b1, .int a2, .int a3, .int a4, .null] [] σ) (a2 : Int32) (a3 : Int32) (a4 : Int32) (σ : gx_R) (hf : Cl_isNoiseAbove_31 K2 9 a2 a3 a4 σ = some (rr, σ')) : gx_Ev lay0 (E0 D) tt_37 (some (.int rr)) σ' 31 [.ref 53, .ref 9, .int a2, .int a3, .int a4, .null] [] σ := by
  unfold Cl_isNoiseAbove_31 at hf
  exact gx_go_ 2 [] [] 2 [.ref 53, .ref 9, .int a2, .int a3, .int (a4 + 1), .null] [] σ rfl trivial (gx_fgt (ls' := [.ref 53, .ref 9, .int a2, .int a3, .int (a4 + 1), .null]) ⟨Or.inr rfl, Or.inr rfl, Or.inr rfl, Or.inr rfl, Or.inr rfl, Or.inl rfl, trivial⟩ (hK2 9 a2 a3 (a4 + 1) σ (Or.inl rfl) hf))
set_option maxHeartbeats 16000000 in
set_option maxRecDepth 20000 in
theorem vv_Cl_isNoiseAbove_31_56 (D : Nat) (hD : 2 ≤ D + 1) (rr : Int32) (σ' : gx_R) (K2 : Nat → Int32 → Int32 → Int32 → gx_R → Option (Int32 × gx_R)) (hK2 : ∀ (b1 : Nat) (a2 : Int32) (a3 : Int32) (a4 : Int32) (σ : gx_R), (b1 = 9 ∨ b1 = 56) → K2 b1 a2 a3 a4 σ = some (rr, σ') → gx_Ev lay0 (E0 D) tt_37 (some (.int rr)) σ' 2 [.ref 53, .ref b1, .int a2, .int a3, .int a4, .null] [] σ) (a2 : Int32) (a3 : Int32) (a4 : Int32) (σ : gx_R) (hf : Cl_isNoiseAbove_31 K2 56 a2 a3 a4 σ = some (rr, σ')) : gx_Ev lay0 (E0 D) tt_37 (some (.int rr)) σ' 31 [.ref 53, .ref 56, .int a2, .int a3, .int a4, .null] [] σ := by
  unfold Cl_isNoiseAbove_31 at hf
  exact gx_go_ 2 [] [] 2 [.ref 53, .ref 56, .int a2, .int a3, .int (a4 + 1), .null] [] σ rfl trivial (gx_fgt (ls' := [.ref 53, .ref 56, .int a2, .int a3, .int (a4 + 1), .null]) ⟨Or.inr rfl, Or.inr rfl, Or.inr rfl, Or.inr rfl, Or.inr rfl, Or.inl rfl, trivial⟩ (hK2 56 a2 a3 (a4 + 1) σ (Or.inr rfl) hf))
set_option maxHeartbeats 16000000 in
set_option maxRecDepth 20000 in
theorem vv_Cl_isNoiseAbove_31 (D : Nat) (hD : 2 ≤ D + 1) (rr : Int32) (σ' : gx_R) (K2 : Nat → Int32 → Int32 → Int32 → gx_R → Option (Int32 × gx_R)) (hK2 : ∀ (b1 : Nat) (a2 : Int32) (a3 : Int32) (a4 : Int32) (σ : gx_R), (b1 = 9 ∨ b1 = 56) → K2 b1 a2 a3 a4 σ = some (rr, σ') → gx_Ev lay0 (E0 D) tt_37 (some (.int rr)) σ' 2 [.ref 53, .ref b1, .int a2, .int a3, .int a4, .null] [] σ) (b1 : Nat) (a2 : Int32) (a3 : Int32) (a4 : Int32) (σ : gx_R) (hb1 : b1 = 9 ∨ b1 = 56) (hf : Cl_isNoiseAbove_31 K2 b1 a2 a3 a4 σ = some (rr, σ')) : gx_Ev lay0 (E0 D) tt_37 (some (.int rr)) σ' 31 [.ref 53, .ref b1, .int a2, .int a3, .int a4, .null] [] σ := by
  rcases hb1 with rfl | rfl
  · exact vv_Cl_isNoiseAbove_31_9 D hD rr σ'  K2 hK2 a2 a3 a4 σ hf
  · exact vv_Cl_isNoiseAbove_31_56 D hD rr σ'  K2 hK2 a2 a3 a4 σ hf
set_option maxHeartbeats 16000000 in
set_option maxRecDepth 20000 in
theorem vv_Cl_isNoiseAbove_2_B_9 (D : Nat) (hD : 2 ≤ D + 1) (rr : Int32) (σ' : gx_R) (K2 : Nat → Int32 → Int32 → Int32 → gx_R → Option (Int32 × gx_R)) (hK2 : ∀ (b1 : Nat) (a2 : Int32) (a3 : Int32) (a4 : Int32) (σ : gx_R), (b1 = 9 ∨ b1 = 56) → K2 b1 a2 a3 a4 σ = some (rr, σ') → gx_Ev lay0 (E0 D) tt_37 (some (.int rr)) σ' 2 [.ref 53, .ref b1, .int a2, .int a3, .int a4, .null] [] σ) (a2 : Int32) (a3 : Int32) (a4 : Int32) (σ : gx_R) (hf : Cl_isNoiseAbove_2_B K2 9 a2 a3 a4 σ = some (rr, σ')) : gx_Ev lay0 (E0 D) tt_37 (some (.int rr)) σ' 2 [.ref 53, .ref 9, .int a2, .int a3, .int a4, .null] [] σ := by
  unfold Cl_isNoiseAbove_2_B at hf
  rcases z_if_inv hf with ⟨h1, hf⟩ | ⟨h1, hf⟩
  · obtain ⟨e1, e2⟩ := z_ret hf
    subst e1
    subst e2
    exact gx_end 5 [.inl 1] [(8 : Int32) ≤ a4, (0 : Int32) &&& 1 = (0 : Int32)] rfl ⟨h1, rfl, trivial⟩
  · obtain ⟨h2, hf⟩ := z_ck_inv hf
    rcases z_if_inv hf with ⟨h3, hf⟩ | ⟨h3, hf⟩
    · obtain ⟨r4, σ5, h6, hf⟩ := z_bd_inv hf
      rcases z_if_inv hf with ⟨h7, hf⟩ | ⟨h7, hf⟩
      · exact gx_go_ 20 [.inl 0, .inl 0, .inr (some (.int r4), σ5), .inl 1] [¬ ((8 : Int32) ≤ a4), vp_in a4 8, ¬ ¬ (((a2 >>> (a4 &&& 31)) &&& (1 : Int32)) = (1 : Int32)), E0 D 2 [.ref 2, .int (σ 11 a4.toNatClampNeg)] σ (some (.int r4)) σ5, r4 = 0] 31 [.ref 53, .ref 9, .int a2, .int a3, .int a4, .int (σ 11 a4.toNatClampNeg)] [] σ5 rfl ⟨h1, (z_ix_in h2), (fun q => q h3), (ww_Fo_isWork D (by omega) (σ 11 a4.toNatClampNeg) σ r4 σ5 h6), h7, trivial⟩ (gx_fgt (ls' := [.ref 53, .ref 9, .int a2, .int a3, .int a4, .null]) ⟨Or.inr rfl, Or.inr rfl, Or.inr rfl, Or.inr rfl, Or.inr rfl, Or.inl rfl, trivial⟩ (vv_Cl_isNoiseAbove_31 D hD rr σ' K2 hK2 9 a2 a3 a4 σ5 (Or.inl rfl) hf))
      · obtain ⟨h8, hf⟩ := z_ck_inv hf
        rcases z_if_inv hf with ⟨h9, hf⟩ | ⟨h9, hf⟩
        · exact gx_go_ 27 [.inl 0, .inl 0, .inr (some (.int r4), σ5), .inl 0, .inl 1] [¬ ((8 : Int32) ≤ a4), vp_in a4 8, ¬ ¬ (((a2 >>> (a4 &&& 31)) &&& (1 : Int32)) = (1 : Int32)), E0 D 2 [.ref 2, .int (σ 11 a4.toNatClampNeg)] σ (some (.int r4)) σ5, ¬ (r4 = 0), vp_in (σ 11 a4.toNatClampNeg) 6, (σ5 8 ((σ 11 a4.toNatClampNeg).toNatClampNeg)) ≤ a3] 31 [.ref 53, .ref 9, .int a2, .int a3, .int a4, .int (σ 11 a4.toNatClampNeg)] [] σ5 rfl ⟨h1, (z_ix_in h2), (fun q => q h3), (ww_Fo_isWork D (by omega) (σ 11 a4.toNatClampNeg) σ r4 σ5 h6), h7, (z_ix_in h8), h9, trivial⟩ (gx_fgt (ls' := [.ref 53, .ref 9, .int a2, .int a3, .int a4, .null]) ⟨Or.inr rfl, Or.inr rfl, Or.inr rfl, Or.inr rfl, Or.inr rfl, Or.inl rfl, trivial⟩ (vv_Cl_isNoiseAbove_31 D hD rr σ' K2 hK2 9 a2 a3 a4 σ5 (Or.inl rfl) hf))
        · obtain ⟨e1, e2⟩ := z_ret hf
          subst e1
          subst e2
          exact gx_end 29 [.inl 0, .inl 0, .inr (some (.int r4), σ5), .inl 0, .inl 0] [¬ ((8 : Int32) ≤ a4), vp_in a4 8, ¬ ¬ (((a2 >>> (a4 &&& 31)) &&& (1 : Int32)) = (1 : Int32)), E0 D 2 [.ref 2, .int (σ 11 a4.toNatClampNeg)] σ (some (.int r4)) σ5, ¬ (r4 = 0), vp_in (σ 11 a4.toNatClampNeg) 6, ¬ ((σ5 8 ((σ 11 a4.toNatClampNeg).toNatClampNeg)) ≤ a3), (1 : Int32) &&& 1 = (1 : Int32)] rfl ⟨h1, (z_ix_in h2), (fun q => q h3), (ww_Fo_isWork D (by omega) (σ 11 a4.toNatClampNeg) σ r4 σ5 h6), h7, (z_ix_in h8), h9, rfl, trivial⟩
    · exact gx_go_ 15 [.inl 0, .inl 1] [¬ ((8 : Int32) ≤ a4), vp_in a4 8, ¬ (((a2 >>> (a4 &&& 31)) &&& (1 : Int32)) = (1 : Int32))] 31 [.ref 53, .ref 9, .int a2, .int a3, .int a4, .int (σ 11 a4.toNatClampNeg)] [] σ rfl ⟨h1, (z_ix_in h2), h3, trivial⟩ (gx_fgt (ls' := [.ref 53, .ref 9, .int a2, .int a3, .int a4, .null]) ⟨Or.inr rfl, Or.inr rfl, Or.inr rfl, Or.inr rfl, Or.inr rfl, Or.inl rfl, trivial⟩ (vv_Cl_isNoiseAbove_31 D hD rr σ' K2 hK2 9 a2 a3 a4 σ (Or.inl rfl) hf))
set_option maxHeartbeats 16000000 in
set_option maxRecDepth 20000 in
theorem vv_Cl_isNoiseAbove_2_B_56 (D : Nat) (hD : 2 ≤ D + 1) (rr : Int32) (σ' : gx_R) (K2 : Nat → Int32 → Int32 → Int32 → gx_R → Option (Int32 × gx_R)) (hK2 : ∀ (b1 : Nat) (a2 : Int32) (a3 : Int32) (a4 : Int32) (σ : gx_R), (b1 = 9 ∨ b1 = 56) → K2 b1 a2 a3 a4 σ = some (rr, σ') → gx_Ev lay0 (E0 D) tt_37 (some (.int rr)) σ' 2 [.ref 53, .ref b1, .int a2, .int a3, .int a4, .null] [] σ) (a2 : Int32) (a3 : Int32) (a4 : Int32) (σ : gx_R) (hf : Cl_isNoiseAbove_2_B K2 56 a2 a3 a4 σ = some (rr, σ')) : gx_Ev lay0 (E0 D) tt_37 (some (.int rr)) σ' 2 [.ref 53, .ref 56, .int a2, .int a3, .int a4, .null] [] σ := by
  unfold Cl_isNoiseAbove_2_B at hf
  rcases z_if_inv hf with ⟨h1, hf⟩ | ⟨h1, hf⟩
  · obtain ⟨e1, e2⟩ := z_ret hf
    subst e1
    subst e2
    exact gx_end 5 [.inl 1] [(8 : Int32) ≤ a4, (0 : Int32) &&& 1 = (0 : Int32)] rfl ⟨h1, rfl, trivial⟩
  · obtain ⟨h2, hf⟩ := z_ck_inv hf
    rcases z_if_inv hf with ⟨h3, hf⟩ | ⟨h3, hf⟩
    · obtain ⟨r4, σ5, h6, hf⟩ := z_bd_inv hf
      rcases z_if_inv hf with ⟨h7, hf⟩ | ⟨h7, hf⟩
      · exact gx_go_ 20 [.inl 0, .inl 0, .inr (some (.int r4), σ5), .inl 1] [¬ ((8 : Int32) ≤ a4), vp_in a4 8, ¬ ¬ (((a2 >>> (a4 &&& 31)) &&& (1 : Int32)) = (1 : Int32)), E0 D 2 [.ref 2, .int (σ 58 a4.toNatClampNeg)] σ (some (.int r4)) σ5, r4 = 0] 31 [.ref 53, .ref 56, .int a2, .int a3, .int a4, .int (σ 58 a4.toNatClampNeg)] [] σ5 rfl ⟨h1, (z_ix_in h2), (fun q => q h3), (ww_Fo_isWork D (by omega) (σ 58 a4.toNatClampNeg) σ r4 σ5 h6), h7, trivial⟩ (gx_fgt (ls' := [.ref 53, .ref 56, .int a2, .int a3, .int a4, .null]) ⟨Or.inr rfl, Or.inr rfl, Or.inr rfl, Or.inr rfl, Or.inr rfl, Or.inl rfl, trivial⟩ (vv_Cl_isNoiseAbove_31 D hD rr σ' K2 hK2 56 a2 a3 a4 σ5 (Or.inr rfl) hf))
      · obtain ⟨h8, hf⟩ := z_ck_inv hf
        rcases z_if_inv hf with ⟨h9, hf⟩ | ⟨h9, hf⟩
        · exact gx_go_ 27 [.inl 0, .inl 0, .inr (some (.int r4), σ5), .inl 0, .inl 1] [¬ ((8 : Int32) ≤ a4), vp_in a4 8, ¬ ¬ (((a2 >>> (a4 &&& 31)) &&& (1 : Int32)) = (1 : Int32)), E0 D 2 [.ref 2, .int (σ 58 a4.toNatClampNeg)] σ (some (.int r4)) σ5, ¬ (r4 = 0), vp_in (σ 58 a4.toNatClampNeg) 6, (σ5 8 ((σ 58 a4.toNatClampNeg).toNatClampNeg)) ≤ a3] 31 [.ref 53, .ref 56, .int a2, .int a3, .int a4, .int (σ 58 a4.toNatClampNeg)] [] σ5 rfl ⟨h1, (z_ix_in h2), (fun q => q h3), (ww_Fo_isWork D (by omega) (σ 58 a4.toNatClampNeg) σ r4 σ5 h6), h7, (z_ix_in h8), h9, trivial⟩ (gx_fgt (ls' := [.ref 53, .ref 56, .int a2, .int a3, .int a4, .null]) ⟨Or.inr rfl, Or.inr rfl, Or.inr rfl, Or.inr rfl, Or.inr rfl, Or.inl rfl, trivial⟩ (vv_Cl_isNoiseAbove_31 D hD rr σ' K2 hK2 56 a2 a3 a4 σ5 (Or.inr rfl) hf))
        · obtain ⟨e1, e2⟩ := z_ret hf
          subst e1
          subst e2
          exact gx_end 29 [.inl 0, .inl 0, .inr (some (.int r4), σ5), .inl 0, .inl 0] [¬ ((8 : Int32) ≤ a4), vp_in a4 8, ¬ ¬ (((a2 >>> (a4 &&& 31)) &&& (1 : Int32)) = (1 : Int32)), E0 D 2 [.ref 2, .int (σ 58 a4.toNatClampNeg)] σ (some (.int r4)) σ5, ¬ (r4 = 0), vp_in (σ 58 a4.toNatClampNeg) 6, ¬ ((σ5 8 ((σ 58 a4.toNatClampNeg).toNatClampNeg)) ≤ a3), (1 : Int32) &&& 1 = (1 : Int32)] rfl ⟨h1, (z_ix_in h2), (fun q => q h3), (ww_Fo_isWork D (by omega) (σ 58 a4.toNatClampNeg) σ r4 σ5 h6), h7, (z_ix_in h8), h9, rfl, trivial⟩
    · exact gx_go_ 15 [.inl 0, .inl 1] [¬ ((8 : Int32) ≤ a4), vp_in a4 8, ¬ (((a2 >>> (a4 &&& 31)) &&& (1 : Int32)) = (1 : Int32))] 31 [.ref 53, .ref 56, .int a2, .int a3, .int a4, .int (σ 58 a4.toNatClampNeg)] [] σ rfl ⟨h1, (z_ix_in h2), h3, trivial⟩ (gx_fgt (ls' := [.ref 53, .ref 56, .int a2, .int a3, .int a4, .null]) ⟨Or.inr rfl, Or.inr rfl, Or.inr rfl, Or.inr rfl, Or.inr rfl, Or.inl rfl, trivial⟩ (vv_Cl_isNoiseAbove_31 D hD rr σ' K2 hK2 56 a2 a3 a4 σ (Or.inr rfl) hf))
set_option maxHeartbeats 16000000 in
set_option maxRecDepth 20000 in
theorem vv_Cl_isNoiseAbove_2_B (D : Nat) (hD : 2 ≤ D + 1) (rr : Int32) (σ' : gx_R) (K2 : Nat → Int32 → Int32 → Int32 → gx_R → Option (Int32 × gx_R)) (hK2 : ∀ (b1 : Nat) (a2 : Int32) (a3 : Int32) (a4 : Int32) (σ : gx_R), (b1 = 9 ∨ b1 = 56) → K2 b1 a2 a3 a4 σ = some (rr, σ') → gx_Ev lay0 (E0 D) tt_37 (some (.int rr)) σ' 2 [.ref 53, .ref b1, .int a2, .int a3, .int a4, .null] [] σ) (b1 : Nat) (a2 : Int32) (a3 : Int32) (a4 : Int32) (σ : gx_R) (hb1 : b1 = 9 ∨ b1 = 56) (hf : Cl_isNoiseAbove_2_B K2 b1 a2 a3 a4 σ = some (rr, σ')) : gx_Ev lay0 (E0 D) tt_37 (some (.int rr)) σ' 2 [.ref 53, .ref b1, .int a2, .int a3, .int a4, .null] [] σ := by
  rcases hb1 with rfl | rfl
  · exact vv_Cl_isNoiseAbove_2_B_9 D hD rr σ'  K2 hK2 a2 a3 a4 σ hf
  · exact vv_Cl_isNoiseAbove_2_B_56 D hD rr σ'  K2 hK2 a2 a3 a4 σ hf
set_option maxHeartbeats 16000000 in
set_option maxRecDepth 20000 in
theorem vv_Cl_isNoiseAbove_2 (D : Nat) (hD : 2 ≤ D + 1) (rr : Int32) (σ' : gx_R) : ∀ (n : Nat) (b1 : Nat) (a2 : Int32) (a3 : Int32) (a4 : Int32) (σ : gx_R), (b1 = 9 ∨ b1 = 56) → Cl_isNoiseAbove_2 n b1 a2 a3 a4 σ = some (rr, σ') → gx_Ev lay0 (E0 D) tt_37 (some (.int rr)) σ' 2 [.ref 53, .ref b1, .int a2, .int a3, .int a4, .null] [] σ := by
  intro n
  induction n with
  | zero => intro b1 a2 a3 a4 σ hb1 hf; cases hf
  | succ n ih => intro b1 a2 a3 a4 σ hb1 hf; exact vv_Cl_isNoiseAbove_2_B D hD rr σ'  (Cl_isNoiseAbove_2 n) ih b1 a2 a3 a4 σ hb1 hf
set_option maxHeartbeats 16000000 in
set_option maxRecDepth 20000 in
theorem vv_Cl_isNoiseAbove_E_9 (D : Nat) (hD : 2 ≤ D + 1) (rr : Int32) (σ' : gx_R) (a2 : Int32) (a3 : Int32) (σ : gx_R) (hf : Cl_isNoiseAbove 9 a2 a3 σ = some (rr, σ')) : gx_Ev lay0 (E0 D) tt_37 (some (.int rr)) σ' 0 [.ref 53, .ref 9, .int a2, .int a3, .null, .null] [] σ := by
  unfold Cl_isNoiseAbove at hf
  exact gx_go_ 2 [] [] 2 [.ref 53, .ref 9, .int a2, .int a3, .int (0 : Int32), .null] [] σ rfl trivial (gx_fgt (ls' := [.ref 53, .ref 9, .int a2, .int a3, .int (0 : Int32), .null]) ⟨Or.inr rfl, Or.inr rfl, Or.inr rfl, Or.inr rfl, Or.inr rfl, Or.inl rfl, trivial⟩ (vv_Cl_isNoiseAbove_2 D hD rr σ' z_FU 9 a2 a3 (0 : Int32) σ (Or.inl rfl) hf))
set_option maxHeartbeats 16000000 in
set_option maxRecDepth 20000 in
theorem ww_Cl_isNoiseAbove_9 (D : Nat) (hD : 2 ≤ D) (a2 : Int32) (a3 : Int32) (σ : gx_R) (rr : Int32) (σ' : gx_R) (hf : Cl_isNoiseAbove 9 a2 a3 σ = some (rr, σ')) : E0 D 37 [.ref 53, .ref 9, .int a2, .int a3] σ (some (.int rr)) σ' := by
  cases D with
  | zero => omega
  | succ D => exact Or.inl ⟨Nat.le_of_ble_eq_true rfl, vv_Cl_isNoiseAbove_E_9 D hD rr σ' a2 a3 σ hf⟩
set_option maxHeartbeats 16000000 in
set_option maxRecDepth 20000 in
theorem vv_Cl_isNoiseAbove_E_56 (D : Nat) (hD : 2 ≤ D + 1) (rr : Int32) (σ' : gx_R) (a2 : Int32) (a3 : Int32) (σ : gx_R) (hf : Cl_isNoiseAbove 56 a2 a3 σ = some (rr, σ')) : gx_Ev lay0 (E0 D) tt_37 (some (.int rr)) σ' 0 [.ref 53, .ref 56, .int a2, .int a3, .null, .null] [] σ := by
  unfold Cl_isNoiseAbove at hf
  exact gx_go_ 2 [] [] 2 [.ref 53, .ref 56, .int a2, .int a3, .int (0 : Int32), .null] [] σ rfl trivial (gx_fgt (ls' := [.ref 53, .ref 56, .int a2, .int a3, .int (0 : Int32), .null]) ⟨Or.inr rfl, Or.inr rfl, Or.inr rfl, Or.inr rfl, Or.inr rfl, Or.inl rfl, trivial⟩ (vv_Cl_isNoiseAbove_2 D hD rr σ' z_FU 56 a2 a3 (0 : Int32) σ (Or.inr rfl) hf))
set_option maxHeartbeats 16000000 in
set_option maxRecDepth 20000 in
theorem ww_Cl_isNoiseAbove_56 (D : Nat) (hD : 2 ≤ D) (a2 : Int32) (a3 : Int32) (σ : gx_R) (rr : Int32) (σ' : gx_R) (hf : Cl_isNoiseAbove 56 a2 a3 σ = some (rr, σ')) : E0 D 37 [.ref 53, .ref 56, .int a2, .int a3] σ (some (.int rr)) σ' := by
  cases D with
  | zero => omega
  | succ D => exact Or.inl ⟨Nat.le_of_ble_eq_true rfl, vv_Cl_isNoiseAbove_E_56 D hD rr σ' a2 a3 σ hf⟩
set_option maxHeartbeats 16000000 in
set_option maxRecDepth 20000 in
theorem ww_Cl_isNoiseAbove (D : Nat) (hD : 2 ≤ D) (b1 : Nat) (a2 : Int32) (a3 : Int32) (σ : gx_R) (rr : Int32) (σ' : gx_R) (hb1 : b1 = 9 ∨ b1 = 56) (hf : Cl_isNoiseAbove b1 a2 a3 σ = some (rr, σ')) : E0 D 37 [.ref 53, .ref b1, .int a2, .int a3] σ (some (.int rr)) σ' := by
  rcases hb1 with rfl | rfl
  · exact ww_Cl_isNoiseAbove_9 D hD a2 a3 σ rr σ' hf
  · exact ww_Cl_isNoiseAbove_56 D hD a2 a3 σ rr σ' hf
set_option maxHeartbeats 16000000 in
set_option maxRecDepth 20000 in
theorem vv_Cl_wokenByNoise_35_9 (D : Nat) (hD : 3 ≤ D + 1) (rr : Int32) (σ' : gx_R) (K4 : Nat → Int32 → Int32 → gx_R → Option (Int32 × gx_R)) (hK4 : ∀ (b1 : Nat) (a2 : Int32) (a3 : Int32) (σ : gx_R), (b1 = 9 ∨ b1 = 56) → K4 b1 a2 a3 σ = some (rr, σ') → gx_Ev lay0 (E0 D) tt_36 (some (.int rr)) σ' 4 [.ref 53, .ref b1, .int a2, .int a3] [] σ) (a2 : Int32) (a3 : Int32) (σ : gx_R) (hf : Cl_wokenByNoise_35 K4 9 a2 a3 σ = some (rr, σ')) : gx_Ev lay0 (E0 D) tt_36 (some (.int rr)) σ' 35 [.ref 53, .ref 9, .int a2, .int a3] [] σ := by
  unfold Cl_wokenByNoise_35 at hf
  exact gx_go_ 2 [] [] 4 [.ref 53, .ref 9, .int a2, .int (a3 + 1)] [] σ rfl trivial (gx_fgt (ls' := [.ref 53, .ref 9, .int a2, .int (a3 + 1)]) ⟨Or.inr rfl, Or.inr rfl, Or.inr rfl, Or.inr rfl, trivial⟩ (hK4 9 a2 (a3 + 1) σ (Or.inl rfl) hf))
set_option maxHeartbeats 16000000 in
set_option maxRecDepth 20000 in
theorem vv_Cl_wokenByNoise_35_56 (D : Nat) (hD : 3 ≤ D + 1) (rr : Int32) (σ' : gx_R) (K4 : Nat → Int32 → Int32 → gx_R → Option (Int32 × gx_R)) (hK4 : ∀ (b1 : Nat) (a2 : Int32) (a3 : Int32) (σ : gx_R), (b1 = 9 ∨ b1 = 56) → K4 b1 a2 a3 σ = some (rr, σ') → gx_Ev lay0 (E0 D) tt_36 (some (.int rr)) σ' 4 [.ref 53, .ref b1, .int a2, .int a3] [] σ) (a2 : Int32) (a3 : Int32) (σ : gx_R) (hf : Cl_wokenByNoise_35 K4 56 a2 a3 σ = some (rr, σ')) : gx_Ev lay0 (E0 D) tt_36 (some (.int rr)) σ' 35 [.ref 53, .ref 56, .int a2, .int a3] [] σ := by
  unfold Cl_wokenByNoise_35 at hf
  exact gx_go_ 2 [] [] 4 [.ref 53, .ref 56, .int a2, .int (a3 + 1)] [] σ rfl trivial (gx_fgt (ls' := [.ref 53, .ref 56, .int a2, .int (a3 + 1)]) ⟨Or.inr rfl, Or.inr rfl, Or.inr rfl, Or.inr rfl, trivial⟩ (hK4 56 a2 (a3 + 1) σ (Or.inr rfl) hf))
set_option maxHeartbeats 16000000 in
set_option maxRecDepth 20000 in
theorem vv_Cl_wokenByNoise_35 (D : Nat) (hD : 3 ≤ D + 1) (rr : Int32) (σ' : gx_R) (K4 : Nat → Int32 → Int32 → gx_R → Option (Int32 × gx_R)) (hK4 : ∀ (b1 : Nat) (a2 : Int32) (a3 : Int32) (σ : gx_R), (b1 = 9 ∨ b1 = 56) → K4 b1 a2 a3 σ = some (rr, σ') → gx_Ev lay0 (E0 D) tt_36 (some (.int rr)) σ' 4 [.ref 53, .ref b1, .int a2, .int a3] [] σ) (b1 : Nat) (a2 : Int32) (a3 : Int32) (σ : gx_R) (hb1 : b1 = 9 ∨ b1 = 56) (hf : Cl_wokenByNoise_35 K4 b1 a2 a3 σ = some (rr, σ')) : gx_Ev lay0 (E0 D) tt_36 (some (.int rr)) σ' 35 [.ref 53, .ref b1, .int a2, .int a3] [] σ := by
  rcases hb1 with rfl | rfl
  · exact vv_Cl_wokenByNoise_35_9 D hD rr σ'  K4 hK4 a2 a3 σ hf
  · exact vv_Cl_wokenByNoise_35_56 D hD rr σ'  K4 hK4 a2 a3 σ hf
set_option maxHeartbeats 16000000 in
set_option maxRecDepth 20000 in
theorem vv_Cl_wokenByNoise_4_B_9 (D : Nat) (hD : 3 ≤ D + 1) (rr : Int32) (σ' : gx_R) (K4 : Nat → Int32 → Int32 → gx_R → Option (Int32 × gx_R)) (hK4 : ∀ (b1 : Nat) (a2 : Int32) (a3 : Int32) (σ : gx_R), (b1 = 9 ∨ b1 = 56) → K4 b1 a2 a3 σ = some (rr, σ') → gx_Ev lay0 (E0 D) tt_36 (some (.int rr)) σ' 4 [.ref 53, .ref b1, .int a2, .int a3] [] σ) (a2 : Int32) (a3 : Int32) (σ : gx_R) (hf : Cl_wokenByNoise_4_B K4 9 a2 a3 σ = some (rr, σ')) : gx_Ev lay0 (E0 D) tt_36 (some (.int rr)) σ' 4 [.ref 53, .ref 9, .int a2, .int a3] [] σ := by
  unfold Cl_wokenByNoise_4_B at hf
  rcases z_if_inv hf with ⟨h1, hf⟩ | ⟨h1, hf⟩
  · obtain ⟨e1, e2⟩ := z_ret hf
    subst e1
    subst e2
    exact gx_end 5 [.inl 1] [(8 : Int32) ≤ a3] rfl ⟨h1, trivial⟩
  · obtain ⟨h2, hf⟩ := z_ck_inv hf
    rcases z_if_inv hf with ⟨h3, hf⟩ | ⟨h3, hf⟩
    · obtain ⟨h4, hf⟩ := z_ck_inv hf
      obtain ⟨h5, hf⟩ := z_ck_inv hf
      obtain ⟨r6, σ7, h8, hf⟩ := z_bd_inv hf
      rcases z_if_inv hf with ⟨h9, hf⟩ | ⟨h9, hf⟩
      · exact gx_go_ 25 [.inl 0, .inl 0, .inr (some (.int r6), σ7), .inl 1] [¬ ((8 : Int32) ≤ a3), vp_in a3 8, ¬ ¬ ((σ 10 a3.toNatClampNeg) = (2 : Int32)), vp_in a3 8, vp_in a3 8, E0 D 37 [.ref 53, .ref 9, .int ((σ 6 a3.toNatClampNeg) &&& (σ 53 4)), .int (σ 54 a3.toNatClampNeg)] σ (some (.int r6)) σ7, r6 = 0] 35 [.ref 53, .ref 9, .int a2, .int a3] [] σ7 rfl ⟨h1, (z_ix_in h2), (fun q => q h3), (z_ix_in h4), (z_ix_in h5), (ww_Cl_isNoiseAbove D (by omega) 9 ((σ 6 a3.toNatClampNeg) &&& (σ 53 4)) (σ 54 a3.toNatClampNeg) σ r6 σ7 (Or.inl rfl) h8), h9, trivial⟩ (gx_fgt (ls' := [.ref 53, .ref 9, .int a2, .int a3]) ⟨Or.inr rfl, Or.inr rfl, Or.inr rfl, Or.inr rfl, trivial⟩ (vv_Cl_wokenByNoise_35 D hD rr σ' K4 hK4 9 a2 a3 σ7 (Or.inl rfl) hf))
      · exact gx_go_ 31 [.inl 0, .inl 0, .inr (some (.int r6), σ7), .inl 0] [¬ ((8 : Int32) ≤ a3), vp_in a3 8, ¬ ¬ ((σ 10 a3.toNatClampNeg) = (2 : Int32)), vp_in a3 8, vp_in a3 8, E0 D 37 [.ref 53, .ref 9, .int ((σ 6 a3.toNatClampNeg) &&& (σ 53 4)), .int (σ 54 a3.toNatClampNeg)] σ (some (.int r6)) σ7, ¬ (r6 = 0)] 35 [.ref 53, .ref 9, .int (a2 ||| ((1 : Int32) <<< (a3 &&& 31))), .int a3] [] σ7 rfl ⟨h1, (z_ix_in h2), (fun q => q h3), (z_ix_in h4), (z_ix_in h5), (ww_Cl_isNoiseAbove D (by omega) 9 ((σ 6 a3.toNatClampNeg) &&& (σ 53 4)) (σ 54 a3.toNatClampNeg) σ r6 σ7 (Or.inl rfl) h8), h9, trivial⟩ (gx_fgt (ls' := [.ref 53, .ref 9, .int (a2 ||| ((1 : Int32) <<< (a3 &&& 31))), .int a3]) ⟨Or.inr rfl, Or.inr rfl, Or.inr rfl, Or.inr rfl, trivial⟩ (vv_Cl_wokenByNoise_35 D hD rr σ' K4 hK4 9 (a2 ||| ((1 : Int32) <<< (a3 &&& 31))) a3 σ7 (Or.inl rfl) hf))
    · exact gx_go_ 9 [.inl 0, .inl 1] [¬ ((8 : Int32) ≤ a3), vp_in a3 8, ¬ ((σ 10 a3.toNatClampNeg) = (2 : Int32))] 35 [.ref 53, .ref 9, .int a2, .int a3] [] σ rfl ⟨h1, (z_ix_in h2), h3, trivial⟩ (gx_fgt (ls' := [.ref 53, .ref 9, .int a2, .int a3]) ⟨Or.inr rfl, Or.inr rfl, Or.inr rfl, Or.inr rfl, trivial⟩ (vv_Cl_wokenByNoise_35 D hD rr σ' K4 hK4 9 a2 a3 σ (Or.inl rfl) hf))
set_option maxHeartbeats 16000000 in
set_option maxRecDepth 20000 in
theorem vv_Cl_wokenByNoise_4_B_56 (D : Nat) (hD : 3 ≤ D + 1) (rr : Int32) (σ' : gx_R) (K4 : Nat → Int32 → Int32 → gx_R → Option (Int32 × gx_R)) (hK4 : ∀ (b1 : Nat) (a2 : Int32) (a3 : Int32) (σ : gx_R), (b1 = 9 ∨ b1 = 56) → K4 b1 a2 a3 σ = some (rr, σ') → gx_Ev lay0 (E0 D) tt_36 (some (.int rr)) σ' 4 [.ref 53, .ref b1, .int a2, .int a3] [] σ) (a2 : Int32) (a3 : Int32) (σ : gx_R) (hf : Cl_wokenByNoise_4_B K4 56 a2 a3 σ = some (rr, σ')) : gx_Ev lay0 (E0 D) tt_36 (some (.int rr)) σ' 4 [.ref 53, .ref 56, .int a2, .int a3] [] σ := by
  unfold Cl_wokenByNoise_4_B at hf
  rcases z_if_inv hf with ⟨h1, hf⟩ | ⟨h1, hf⟩
  · obtain ⟨e1, e2⟩ := z_ret hf
    subst e1
    subst e2
    exact gx_end 5 [.inl 1] [(8 : Int32) ≤ a3] rfl ⟨h1, trivial⟩
  · obtain ⟨h2, hf⟩ := z_ck_inv hf
    rcases z_if_inv hf with ⟨h3, hf⟩ | ⟨h3, hf⟩
    · obtain ⟨h4, hf⟩ := z_ck_inv hf
      obtain ⟨h5, hf⟩ := z_ck_inv hf
      obtain ⟨r6, σ7, h8, hf⟩ := z_bd_inv hf
      rcases z_if_inv hf with ⟨h9, hf⟩ | ⟨h9, hf⟩
      · exact gx_go_ 25 [.inl 0, .inl 0, .inr (some (.int r6), σ7), .inl 1] [¬ ((8 : Int32) ≤ a3), vp_in a3 8, ¬ ¬ ((σ 57 a3.toNatClampNeg) = (2 : Int32)), vp_in a3 8, vp_in a3 8, E0 D 37 [.ref 53, .ref 56, .int ((σ 6 a3.toNatClampNeg) &&& (σ 53 4)), .int (σ 54 a3.toNatClampNeg)] σ (some (.int r6)) σ7, r6 = 0] 35 [.ref 53, .ref 56, .int a2, .int a3] [] σ7 rfl ⟨h1, (z_ix_in h2), (fun q => q h3), (z_ix_in h4), (z_ix_in h5), (ww_Cl_isNoiseAbove D (by omega) 56 ((σ 6 a3.toNatClampNeg) &&& (σ 53 4)) (σ 54 a3.toNatClampNeg) σ r6 σ7 (Or.inr rfl) h8), h9, trivial⟩ (gx_fgt (ls' := [.ref 53, .ref 56, .int a2, .int a3]) ⟨Or.inr rfl, Or.inr rfl, Or.inr rfl, Or.inr rfl, trivial⟩ (vv_Cl_wokenByNoise_35 D hD rr σ' K4 hK4 56 a2 a3 σ7 (Or.inr rfl) hf))
      · exact gx_go_ 31 [.inl 0, .inl 0, .inr (some (.int r6), σ7), .inl 0] [¬ ((8 : Int32) ≤ a3), vp_in a3 8, ¬ ¬ ((σ 57 a3.toNatClampNeg) = (2 : Int32)), vp_in a3 8, vp_in a3 8, E0 D 37 [.ref 53, .ref 56, .int ((σ 6 a3.toNatClampNeg) &&& (σ 53 4)), .int (σ 54 a3.toNatClampNeg)] σ (some (.int r6)) σ7, ¬ (r6 = 0)] 35 [.ref 53, .ref 56, .int (a2 ||| ((1 : Int32) <<< (a3 &&& 31))), .int a3] [] σ7 rfl ⟨h1, (z_ix_in h2), (fun q => q h3), (z_ix_in h4), (z_ix_in h5), (ww_Cl_isNoiseAbove D (by omega) 56 ((σ 6 a3.toNatClampNeg) &&& (σ 53 4)) (σ 54 a3.toNatClampNeg) σ r6 σ7 (Or.inr rfl) h8), h9, trivial⟩ (gx_fgt (ls' := [.ref 53, .ref 56, .int (a2 ||| ((1 : Int32) <<< (a3 &&& 31))), .int a3]) ⟨Or.inr rfl, Or.inr rfl, Or.inr rfl, Or.inr rfl, trivial⟩ (vv_Cl_wokenByNoise_35 D hD rr σ' K4 hK4 56 (a2 ||| ((1 : Int32) <<< (a3 &&& 31))) a3 σ7 (Or.inr rfl) hf))
    · exact gx_go_ 9 [.inl 0, .inl 1] [¬ ((8 : Int32) ≤ a3), vp_in a3 8, ¬ ((σ 57 a3.toNatClampNeg) = (2 : Int32))] 35 [.ref 53, .ref 56, .int a2, .int a3] [] σ rfl ⟨h1, (z_ix_in h2), h3, trivial⟩ (gx_fgt (ls' := [.ref 53, .ref 56, .int a2, .int a3]) ⟨Or.inr rfl, Or.inr rfl, Or.inr rfl, Or.inr rfl, trivial⟩ (vv_Cl_wokenByNoise_35 D hD rr σ' K4 hK4 56 a2 a3 σ (Or.inr rfl) hf))
set_option maxHeartbeats 16000000 in
set_option maxRecDepth 20000 in
theorem vv_Cl_wokenByNoise_4_B (D : Nat) (hD : 3 ≤ D + 1) (rr : Int32) (σ' : gx_R) (K4 : Nat → Int32 → Int32 → gx_R → Option (Int32 × gx_R)) (hK4 : ∀ (b1 : Nat) (a2 : Int32) (a3 : Int32) (σ : gx_R), (b1 = 9 ∨ b1 = 56) → K4 b1 a2 a3 σ = some (rr, σ') → gx_Ev lay0 (E0 D) tt_36 (some (.int rr)) σ' 4 [.ref 53, .ref b1, .int a2, .int a3] [] σ) (b1 : Nat) (a2 : Int32) (a3 : Int32) (σ : gx_R) (hb1 : b1 = 9 ∨ b1 = 56) (hf : Cl_wokenByNoise_4_B K4 b1 a2 a3 σ = some (rr, σ')) : gx_Ev lay0 (E0 D) tt_36 (some (.int rr)) σ' 4 [.ref 53, .ref b1, .int a2, .int a3] [] σ := by
  rcases hb1 with rfl | rfl
  · exact vv_Cl_wokenByNoise_4_B_9 D hD rr σ'  K4 hK4 a2 a3 σ hf
  · exact vv_Cl_wokenByNoise_4_B_56 D hD rr σ'  K4 hK4 a2 a3 σ hf
set_option maxHeartbeats 16000000 in
set_option maxRecDepth 20000 in
theorem vv_Cl_wokenByNoise_4 (D : Nat) (hD : 3 ≤ D + 1) (rr : Int32) (σ' : gx_R) : ∀ (n : Nat) (b1 : Nat) (a2 : Int32) (a3 : Int32) (σ : gx_R), (b1 = 9 ∨ b1 = 56) → Cl_wokenByNoise_4 n b1 a2 a3 σ = some (rr, σ') → gx_Ev lay0 (E0 D) tt_36 (some (.int rr)) σ' 4 [.ref 53, .ref b1, .int a2, .int a3] [] σ := by
  intro n
  induction n with
  | zero => intro b1 a2 a3 σ hb1 hf; cases hf
  | succ n ih => intro b1 a2 a3 σ hb1 hf; exact vv_Cl_wokenByNoise_4_B D hD rr σ'  (Cl_wokenByNoise_4 n) ih b1 a2 a3 σ hb1 hf
set_option maxHeartbeats 16000000 in
set_option maxRecDepth 20000 in
theorem vv_Cl_wokenByNoise_E_9 (D : Nat) (hD : 3 ≤ D + 1) (rr : Int32) (σ' : gx_R) (σ : gx_R) (hf : Cl_wokenByNoise 9 σ = some (rr, σ')) : gx_Ev lay0 (E0 D) tt_36 (some (.int rr)) σ' 0 [.ref 53, .ref 9, .null, .null] [] σ := by
  unfold Cl_wokenByNoise at hf
  exact gx_go_ 4 [] [] 4 [.ref 53, .ref 9, .int (0 : Int32), .int (0 : Int32)] [] σ rfl trivial (gx_fgt (ls' := [.ref 53, .ref 9, .int (0 : Int32), .int (0 : Int32)]) ⟨Or.inr rfl, Or.inr rfl, Or.inr rfl, Or.inr rfl, trivial⟩ (vv_Cl_wokenByNoise_4 D hD rr σ' z_FU 9 (0 : Int32) (0 : Int32) σ (Or.inl rfl) hf))
set_option maxHeartbeats 16000000 in
set_option maxRecDepth 20000 in
theorem ww_Cl_wokenByNoise_9 (D : Nat) (hD : 3 ≤ D) (σ : gx_R) (rr : Int32) (σ' : gx_R) (hf : Cl_wokenByNoise 9 σ = some (rr, σ')) : E0 D 36 [.ref 53, .ref 9] σ (some (.int rr)) σ' := by
  cases D with
  | zero => omega
  | succ D => exact Or.inl ⟨Nat.le_of_ble_eq_true rfl, vv_Cl_wokenByNoise_E_9 D hD rr σ' σ hf⟩
set_option maxHeartbeats 16000000 in
set_option maxRecDepth 20000 in
theorem vv_Cl_wokenByNoise_E_56 (D : Nat) (hD : 3 ≤ D + 1) (rr : Int32) (σ' : gx_R) (σ : gx_R) (hf : Cl_wokenByNoise 56 σ = some (rr, σ')) : gx_Ev lay0 (E0 D) tt_36 (some (.int rr)) σ' 0 [.ref 53, .ref 56, .null, .null] [] σ := by
  unfold Cl_wokenByNoise at hf
  exact gx_go_ 4 [] [] 4 [.ref 53, .ref 56, .int (0 : Int32), .int (0 : Int32)] [] σ rfl trivial (gx_fgt (ls' := [.ref 53, .ref 56, .int (0 : Int32), .int (0 : Int32)]) ⟨Or.inr rfl, Or.inr rfl, Or.inr rfl, Or.inr rfl, trivial⟩ (vv_Cl_wokenByNoise_4 D hD rr σ' z_FU 56 (0 : Int32) (0 : Int32) σ (Or.inr rfl) hf))
set_option maxHeartbeats 16000000 in
set_option maxRecDepth 20000 in
theorem ww_Cl_wokenByNoise_56 (D : Nat) (hD : 3 ≤ D) (σ : gx_R) (rr : Int32) (σ' : gx_R) (hf : Cl_wokenByNoise 56 σ = some (rr, σ')) : E0 D 36 [.ref 53, .ref 56] σ (some (.int rr)) σ' := by
  cases D with
  | zero => omega
  | succ D => exact Or.inl ⟨Nat.le_of_ble_eq_true rfl, vv_Cl_wokenByNoise_E_56 D hD rr σ' σ hf⟩
set_option maxHeartbeats 16000000 in
set_option maxRecDepth 20000 in
theorem ww_Cl_wokenByNoise (D : Nat) (hD : 3 ≤ D) (b1 : Nat) (σ : gx_R) (rr : Int32) (σ' : gx_R) (hb1 : b1 = 9 ∨ b1 = 56) (hf : Cl_wokenByNoise b1 σ = some (rr, σ')) : E0 D 36 [.ref 53, .ref b1] σ (some (.int rr)) σ' := by
  rcases hb1 with rfl | rfl
  · exact ww_Cl_wokenByNoise_9 D hD σ rr σ' hf
  · exact ww_Cl_wokenByNoise_56 D hD σ rr σ' hf
set_option maxHeartbeats 16000000 in
set_option maxRecDepth 20000 in
theorem vv_Cl_spread_39 (D : Nat) (hD : 1 ≤ D + 1) (rr : Int32) (σ' : gx_R) (K16 : Int32 → Int32 → Int32 → Int32 → Int32 → gx_R → Option (Int32 × gx_R)) (hK16 : ∀ (a2 : Int32) (a3 : Int32) (a4 : Int32) (a5 : Int32) (a6 : Int32) (σ : gx_R), K16 a2 a3 a4 a5 a6 σ = some (rr, σ') → gx_Ev lay0 (E0 D) tt_39 (some (.int rr)) σ' 16 [.ref 53, .null, .int a2, .int a3, .int a4, .int a5, .int a6] [] σ) (a2 : Int32) (a3 : Int32) (a4 : Int32) (a5 : Int32) (a6 : Int32) (σ : gx_R) (hf : Cl_spread_39 K16 a2 a3 a4 a5 a6 σ = some (rr, σ')) : gx_Ev lay0 (E0 D) tt_39 (some (.int rr)) σ' 39 [.ref 53, .null, .int a2, .int a3, .int a4, .int a5, .int a6] [] σ := by
  unfold Cl_spread_39 at hf
  exact gx_go_ 2 [] [] 16 [.ref 53, .null, .int a2, .int a3, .int a4, .int a5, .int (a6 + 1)] [] σ rfl trivial (gx_fgt (ls' := [.ref 53, .null, .int a2, .int a3, .int a4, .int a5, .int (a6 + 1)]) ⟨Or.inr rfl, Or.inl rfl, Or.inr rfl, Or.inr rfl, Or.inr rfl, Or.inr rfl, Or.inr rfl, trivial⟩ (hK16 a2 a3 a4 a5 (a6 + 1) σ hf))
set_option maxHeartbeats 16000000 in
set_option maxRecDepth 20000 in
theorem vv_Cl_spread_41 (D : Nat) (hD : 1 ≤ D + 1) (rr : Int32) (σ' : gx_R) (K6 : Int32 → Int32 → Int32 → Int32 → gx_R → Option (Int32 × gx_R)) (hK6 : ∀ (a2 : Int32) (a3 : Int32) (a4 : Int32) (a5 : Int32) (σ : gx_R), K6 a2 a3 a4 a5 σ = some (rr, σ') → gx_Ev lay0 (E0 D) tt_39 (some (.int rr)) σ' 6 [.ref 53, .null, .int a2, .int a3, .int a4, .int a5, .null] [] σ) (a2 : Int32) (a3 : Int32) (a4 : Int32) (a5 : Int32) (σ : gx_R) (hf : Cl_spread_41 K6 a2 a3 a4 a5 σ = some (rr, σ')) : gx_Ev lay0 (E0 D) tt_39 (some (.int rr)) σ' 41 [.ref 53, .null, .int a2, .int a3, .int a4, .int a5, .null] [] σ := by
  unfold Cl_spread_41 at hf
  exact gx_go_ 2 [] [] 6 [.ref 53, .null, .int a2, .int a3, .int a4, .int (a5 + 1), .null] [] σ rfl trivial (gx_fgt (ls' := [.ref 53, .null, .int a2, .int a3, .int a4, .int (a5 + 1), .null]) ⟨Or.inr rfl, Or.inl rfl, Or.inr rfl, Or.inr rfl, Or.inr rfl, Or.inr rfl, Or.inl rfl, trivial⟩ (hK6 a2 a3 a4 (a5 + 1) σ hf))
set_option maxHeartbeats 16000000 in
set_option maxRecDepth 20000 in
theorem vv_Cl_spread_16_B (D : Nat) (hD : 1 ≤ D + 1) (rr : Int32) (σ' : gx_R) (K6 : Int32 → Int32 → Int32 → Int32 → gx_R → Option (Int32 × gx_R)) (hK6 : ∀ (a2 : Int32) (a3 : Int32) (a4 : Int32) (a5 : Int32) (σ : gx_R), K6 a2 a3 a4 a5 σ = some (rr, σ') → gx_Ev lay0 (E0 D) tt_39 (some (.int rr)) σ' 6 [.ref 53, .null, .int a2, .int a3, .int a4, .int a5, .null] [] σ) (K16 : Int32 → Int32 → Int32 → Int32 → Int32 → gx_R → Option (Int32 × gx_R)) (hK16 : ∀ (a2 : Int32) (a3 : Int32) (a4 : Int32) (a5 : Int32) (a6 : Int32) (σ : gx_R), K16 a2 a3 a4 a5 a6 σ = some (rr, σ') → gx_Ev lay0 (E0 D) tt_39 (some (.int rr)) σ' 16 [.ref 53, .null, .int a2, .int a3, .int a4, .int a5, .int a6] [] σ) (a2 : Int32) (a3 : Int32) (a4 : Int32) (a5 : Int32) (a6 : Int32) (σ : gx_R) (hf : Cl_spread_16_B K6 K16 a2 a3 a4 a5 a6 σ = some (rr, σ')) : gx_Ev lay0 (E0 D) tt_39 (some (.int rr)) σ' 16 [.ref 53, .null, .int a2, .int a3, .int a4, .int a5, .int a6] [] σ := by
  unfold Cl_spread_16_B at hf
  rcases z_if_inv hf with ⟨h1, hf⟩ | ⟨h1, hf⟩
  · exact gx_go_ 3 [.inl 1] [(8 : Int32) ≤ a6] 41 [.ref 53, .null, .int a2, .int a3, .int a4, .int a5, .int a6] [] σ rfl ⟨h1, trivial⟩ (gx_fgt (ls' := [.ref 53, .null, .int a2, .int a3, .int a4, .int a5, .null]) ⟨Or.inr rfl, Or.inl rfl, Or.inr rfl, Or.inr rfl, Or.inr rfl, Or.inr rfl, Or.inl rfl, trivial⟩ (vv_Cl_spread_41 D hD rr σ' K6 hK6 a2 a3 a4 a5 σ hf))
  · rcases z_if_inv hf with ⟨h2, hf⟩ | ⟨h2, hf⟩
    · obtain ⟨h3, hf⟩ := z_ck_inv hf
      rcases z_if_inv hf with ⟨h4, hf⟩ | ⟨h4, hf⟩
      · exact gx_go_ 17 [.inl 0, .inl 0, .inl 1] [¬ ((8 : Int32) ≤ a6), ¬ ¬ (((a2 >>> (a6 &&& 31)) &&& (1 : Int32)) = (1 : Int32)), vp_in a6 8, ((σ 55 a6.toNatClampNeg) &&& a3) = 0] 39 [.ref 53, .null, .int a2, .int a3, .int a4, .int a5, .int a6] [] σ rfl ⟨h1, (fun q => q h2), (z_ix_in h3), h4, trivial⟩ (gx_fgt (ls' := [.ref 53, .null, .int a2, .int a3, .int a4, .int a5, .int a6]) ⟨Or.inr rfl, Or.inl rfl, Or.inr rfl, Or.inr rfl, Or.inr rfl, Or.inr rfl, Or.inr rfl, trivial⟩ (vv_Cl_spread_39 D hD rr σ' K16 hK16 a2 a3 a4 a5 a6 σ hf))
      · exact gx_go_ 23 [.inl 0, .inl 0, .inl 0] [¬ ((8 : Int32) ≤ a6), ¬ ¬ (((a2 >>> (a6 &&& 31)) &&& (1 : Int32)) = (1 : Int32)), vp_in a6 8, ¬ (((σ 55 a6.toNatClampNeg) &&& a3) = 0)] 39 [.ref 53, .null, .int a2, .int (a3 ||| ((1 : Int32) <<< (a6 &&& 31))), .int a4, .int a5, .int a6] [] σ rfl ⟨h1, (fun q => q h2), (z_ix_in h3), h4, trivial⟩ (gx_fgt (ls' := [.ref 53, .null, .int a2, .int (a3 ||| ((1 : Int32) <<< (a6 &&& 31))), .int a4, .int a5, .int a6]) ⟨Or.inr rfl, Or.inl rfl, Or.inr rfl, Or.inr rfl, Or.inr rfl, Or.inr rfl, Or.inr rfl, trivial⟩ (vv_Cl_spread_39 D hD rr σ' K16 hK16 a2 (a3 ||| ((1 : Int32) <<< (a6 &&& 31))) a4 a5 a6 σ hf))
    · exact gx_go_ 10 [.inl 0, .inl 1] [¬ ((8 : Int32) ≤ a6), ¬ (((a2 >>> (a6 &&& 31)) &&& (1 : Int32)) = (1 : Int32))] 39 [.ref 53, .null, .int a2, .int a3, .int a4, .int a5, .int a6] [] σ rfl ⟨h1, h2, trivial⟩ (gx_fgt (ls' := [.ref 53, .null, .int a2, .int a3, .int a4, .int a5, .int a6]) ⟨Or.inr rfl, Or.inl rfl, Or.inr rfl, Or.inr rfl, Or.inr rfl, Or.inr rfl, Or.inr rfl, trivial⟩ (vv_Cl_spread_39 D hD rr σ' K16 hK16 a2 a3 a4 a5 a6 σ hf))
set_option maxHeartbeats 16000000 in
set_option maxRecDepth 20000 in
theorem vv_Cl_spread_16 (D : Nat) (hD : 1 ≤ D + 1) (rr : Int32) (σ' : gx_R) (K6 : Int32 → Int32 → Int32 → Int32 → gx_R → Option (Int32 × gx_R)) (hK6 : ∀ (a2 : Int32) (a3 : Int32) (a4 : Int32) (a5 : Int32) (σ : gx_R), K6 a2 a3 a4 a5 σ = some (rr, σ') → gx_Ev lay0 (E0 D) tt_39 (some (.int rr)) σ' 6 [.ref 53, .null, .int a2, .int a3, .int a4, .int a5, .null] [] σ) : ∀ (n : Nat) (a2 : Int32) (a3 : Int32) (a4 : Int32) (a5 : Int32) (a6 : Int32) (σ : gx_R), Cl_spread_16 K6 n a2 a3 a4 a5 a6 σ = some (rr, σ') → gx_Ev lay0 (E0 D) tt_39 (some (.int rr)) σ' 16 [.ref 53, .null, .int a2, .int a3, .int a4, .int a5, .int a6] [] σ := by
  intro n
  induction n with
  | zero => intro a2 a3 a4 a5 a6 σ  hf; cases hf
  | succ n ih => intro a2 a3 a4 a5 a6 σ  hf; exact vv_Cl_spread_16_B D hD rr σ'  K6 hK6 (Cl_spread_16 K6 n) ih a2 a3 a4 a5 a6 σ  hf
set_option maxHeartbeats 16000000 in
set_option maxRecDepth 20000 in
theorem vv_Cl_spread_6_B (D : Nat) (hD : 1 ≤ D + 1) (rr : Int32) (σ' : gx_R) (K6 : Int32 → Int32 → Int32 → Int32 → gx_R → Option (Int32 × gx_R)) (hK6 : ∀ (a2 : Int32) (a3 : Int32) (a4 : Int32) (a5 : Int32) (σ : gx_R), K6 a2 a3 a4 a5 σ = some (rr, σ') → gx_Ev lay0 (E0 D) tt_39 (some (.int rr)) σ' 6 [.ref 53, .null, .int a2, .int a3, .int a4, .int a5, .null] [] σ) (a2 : Int32) (a3 : Int32) (a4 : Int32) (a5 : Int32) (σ : gx_R) (hf : Cl_spread_6_B K6 a2 a3 a4 a5 σ = some (rr, σ')) : gx_Ev lay0 (E0 D) tt_39 (some (.int rr)) σ' 6 [.ref 53, .null, .int a2, .int a3, .int a4, .int a5, .null] [] σ := by
  unfold Cl_spread_6_B at hf
  rcases z_if_inv hf with ⟨h1, hf⟩ | ⟨h1, hf⟩
  · obtain ⟨e1, e2⟩ := z_ret hf
    subst e1
    subst e2
    exact gx_end 5 [.inl 1] [(8 : Int32) ≤ a5] rfl ⟨h1, trivial⟩
  · rcases z_if_inv hf with ⟨h2, hf⟩ | ⟨h2, hf⟩
    · obtain ⟨e1, e2⟩ := z_ret hf
      subst e1
      subst e2
      exact gx_end 8 [.inl 0, .inl 1] [¬ ((8 : Int32) ≤ a5), a3 = a4] rfl ⟨h1, h2, trivial⟩
    · exact gx_go_ 10 [.inl 0, .inl 0] [¬ ((8 : Int32) ≤ a5), ¬ (a3 = a4)] 16 [.ref 53, .null, .int a2, .int a3, .int a3, .int a5, .int (0 : Int32)] [] σ rfl ⟨h1, h2, trivial⟩ (gx_fgt (ls' := [.ref 53, .null, .int a2, .int a3, .int a3, .int a5, .int (0 : Int32)]) ⟨Or.inr rfl, Or.inl rfl, Or.inr rfl, Or.inr rfl, Or.inr rfl, Or.inr rfl, Or.inr rfl, trivial⟩ (vv_Cl_spread_16 D hD rr σ' K6 hK6 z_FU a2 a3 a3 a5 (0 : Int32) σ hf))
set_option maxHeartbeats 16000000 in
set_option maxRecDepth 20000 in
theorem vv_Cl_spread_6 (D : Nat) (hD : 1 ≤ D + 1) (rr : Int32) (σ' : gx_R) : ∀ (n : Nat) (a2 : Int32) (a3 : Int32) (a4 : Int32) (a5 : Int32) (σ : gx_R), Cl_spread_6 n a2 a3 a4 a5 σ = some (rr, σ') → gx_Ev lay0 (E0 D) tt_39 (some (.int rr)) σ' 6 [.ref 53, .null, .int a2, .int a3, .int a4, .int a5, .null] [] σ := by
  intro n
  induction n with
  | zero => intro a2 a3 a4 a5 σ  hf; cases hf
  | succ n ih => intro a2 a3 a4 a5 σ  hf; exact vv_Cl_spread_6_B D hD rr σ'  (Cl_spread_6 n) ih a2 a3 a4 a5 σ  hf
set_option maxHeartbeats 16000000 in
set_option maxRecDepth 20000 in
theorem vv_Cl_spread_E (D : Nat) (hD : 1 ≤ D + 1) (rr : Int32) (σ' : gx_R) (a1 : Int32) (a2 : Int32) (σ : gx_R) (hf : Cl_spread a1 a2 σ = some (rr, σ')) : gx_Ev lay0 (E0 D) tt_39 (some (.int rr)) σ' 0 [.ref 53, .int a1, .int a2, .null, .null, .null, .null] [] σ := by
  unfold Cl_spread at hf
  exact gx_go_ 6 [] [] 6 [.ref 53, .int a1, .int a2, .int a1, .int (0 : Int32), .int (0 : Int32), .null] [] σ rfl trivial (gx_fgt (ls' := [.ref 53, .null, .int a2, .int a1, .int (0 : Int32), .int (0 : Int32), .null]) ⟨Or.inr rfl, Or.inl rfl, Or.inr rfl, Or.inr rfl, Or.inr rfl, Or.inr rfl, Or.inl rfl, trivial⟩ (vv_Cl_spread_6 D hD rr σ' z_FU a2 a1 (0 : Int32) (0 : Int32) σ hf))
set_option maxHeartbeats 16000000 in
set_option maxRecDepth 20000 in
theorem ww_Cl_spread (D : Nat) (hD : 1 ≤ D) (a1 : Int32) (a2 : Int32) (σ : gx_R) (rr : Int32) (σ' : gx_R) (hf : Cl_spread a1 a2 σ = some (rr, σ')) : E0 D 39 [.ref 53, .int a1, .int a2] σ (some (.int rr)) σ' := by
  cases D with
  | zero => omega
  | succ D => exact Or.inl ⟨Nat.le_of_ble_eq_true rfl, vv_Cl_spread_E D hD rr σ' a1 a2 σ hf⟩
