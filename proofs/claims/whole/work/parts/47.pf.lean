set_option maxHeartbeats 16000000 in
set_option maxRecDepth 20000 in
theorem vv_Md_valley_14_B (D : Nat) (hD : 2 ≤ D + 1) (rr : Int32) (σ' : gx_R) (K14 : Int32 → Int32 → Int32 → gx_R → Option (Int32 × gx_R)) (hK14 : ∀ (a1 : Int32) (a2 : Int32) (a3 : Int32) (σ : gx_R), K14 a1 a2 a3 σ = some (rr, σ') → gx_Ev lay0 (E0 D) tt_246 (some (.int rr)) σ' 14 [.null, .int a1, .int a2, .int a3, .null] [] σ) (a1 : Int32) (a2 : Int32) (a3 : Int32) (σ : gx_R) (hf : Md_valley_14_B K14 a1 a2 a3 σ = some (rr, σ')) : gx_Ev lay0 (E0 D) tt_246 (some (.int rr)) σ' 14 [.null, .int a1, .int a2, .int a3, .null] [] σ := by
  unfold Md_valley_14_B at hf
  rcases z_if_inv hf with ⟨h1, hf⟩ | ⟨h1, hf⟩
  · obtain ⟨e1, e2⟩ := z_ret hf
    subst e1
    subst e2
    exact gx_end 5 [.inl 1] [(100 : Int32) ≤ a3] rfl ⟨h1, trivial⟩
  · obtain ⟨h2, hf⟩ := z_ck_inv hf
    rcases z_if_inv hf with ⟨h3, hf⟩ | ⟨h3, hf⟩
    · exact gx_go_ 20 [.inl 0, .inl 1] [¬ ((100 : Int32) ≤ a3), ¬ ((10 : Int32) + a2) = 0, ((24 : Int32) * ((a3 * a2) / ((10 : Int32) + a2))) < (a3 * a1)] 14 [.null, .int a1, .int a2, .int (a3 + 1), .int ((a3 * a2) / ((10 : Int32) + a2))] [] σ rfl ⟨h1, (z_nzi_in h2), h3, trivial⟩ (gx_fgt (ls' := [.null, .int a1, .int a2, .int (a3 + 1), .null]) ⟨Or.inl rfl, Or.inr rfl, Or.inr rfl, Or.inr rfl, Or.inl rfl, trivial⟩ (hK14 a1 a2 (a3 + 1) σ hf))
    · obtain ⟨e1, e2⟩ := z_ret hf
      subst e1
      subst e2
      exact gx_end 20 [.inl 0, .inl 0] [¬ ((100 : Int32) ≤ a3), ¬ ((10 : Int32) + a2) = 0, ¬ (((24 : Int32) * ((a3 * a2) / ((10 : Int32) + a2))) < (a3 * a1))] rfl ⟨h1, (z_nzi_in h2), h3, trivial⟩
set_option maxHeartbeats 16000000 in
set_option maxRecDepth 20000 in
theorem vv_Md_valley_14 (D : Nat) (hD : 2 ≤ D + 1) (rr : Int32) (σ' : gx_R) : ∀ (n : Nat) (a1 : Int32) (a2 : Int32) (a3 : Int32) (σ : gx_R), Md_valley_14 n a1 a2 a3 σ = some (rr, σ') → gx_Ev lay0 (E0 D) tt_246 (some (.int rr)) σ' 14 [.null, .int a1, .int a2, .int a3, .null] [] σ := by
  intro n
  induction n with
  | zero => intro a1 a2 a3 σ  hf; cases hf
  | succ n ih => intro a1 a2 a3 σ  hf; exact vv_Md_valley_14_B D hD rr σ'  (Md_valley_14 n) ih a1 a2 a3 σ  hf
set_option maxHeartbeats 16000000 in
set_option maxRecDepth 20000 in
theorem vv_Md_valley_E (D : Nat) (hD : 2 ≤ D + 1) (rr : Int32) (σ' : gx_R) (a1 : Int32) (a2 : Int32) (σ : gx_R) (hf : Md_valley a1 a2 σ = some (rr, σ')) : gx_Ev lay0 (E0 D) tt_246 (some (.int rr)) σ' 0 [.ref 109, .int a1, .int a2, .null, .null] [] σ := by
  unfold Md_valley at hf
  obtain ⟨r1, σ2, h3, hf⟩ := z_bd_inv hf
  rcases z_if_inv hf with ⟨h4, hf⟩ | ⟨h4, hf⟩
  · obtain ⟨e1, e2⟩ := z_ret hf
    subst e1
    subst e2
    exact gx_end 7 [.inr (some (.int r1), σ2), .inl 1] [E0 D 145 [.int a1, .int (1 : Int32), .int (23 : Int32)] σ (some (.int r1)) σ2, r1 = 0] rfl ⟨(ww_Md_in D (by omega) a1 (1 : Int32) (23 : Int32) σ r1 σ2 h3), h4, trivial⟩
  · obtain ⟨r5, σ6, h7, hf⟩ := z_bd_inv hf
    rcases z_if_inv hf with ⟨h8, hf⟩ | ⟨h8, hf⟩
    · obtain ⟨e1, e2⟩ := z_ret hf
      subst e1
      subst e2
      exact gx_end 12 [.inr (some (.int r1), σ2), .inl 0, .inr (some (.int r5), σ6), .inl 0] [E0 D 145 [.int a1, .int (1 : Int32), .int (23 : Int32)] σ (some (.int r1)) σ2, ¬ (r1 = 0), E0 D 145 [.int a2, .int (1 : Int32), .int (99 : Int32)] σ2 (some (.int r5)) σ6, ¬ ¬ (r5 = 0)] rfl ⟨(ww_Md_in D (by omega) a1 (1 : Int32) (23 : Int32) σ r1 σ2 h3), h4, (ww_Md_in D (by omega) a2 (1 : Int32) (99 : Int32) σ2 r5 σ6 h7), (fun q => q h8), trivial⟩
    · exact gx_go_ 12 [.inr (some (.int r1), σ2), .inl 0, .inr (some (.int r5), σ6), .inl 1] [E0 D 145 [.int a1, .int (1 : Int32), .int (23 : Int32)] σ (some (.int r1)) σ2, ¬ (r1 = 0), E0 D 145 [.int a2, .int (1 : Int32), .int (99 : Int32)] σ2 (some (.int r5)) σ6, ¬ (r5 = 0)] 14 [.ref 109, .int a1, .int a2, .int (2 : Int32), .null] [] σ6 rfl ⟨(ww_Md_in D (by omega) a1 (1 : Int32) (23 : Int32) σ r1 σ2 h3), h4, (ww_Md_in D (by omega) a2 (1 : Int32) (99 : Int32) σ2 r5 σ6 h7), h8, trivial⟩ (gx_fgt (ls' := [.null, .int a1, .int a2, .int (2 : Int32), .null]) ⟨Or.inl rfl, Or.inr rfl, Or.inr rfl, Or.inr rfl, Or.inl rfl, trivial⟩ (vv_Md_valley_14 D hD rr σ' z_FU a1 a2 (2 : Int32) σ6 hf))
set_option maxHeartbeats 16000000 in
set_option maxRecDepth 20000 in
theorem ww_Md_valley (D : Nat) (hD : 2 ≤ D) (a1 : Int32) (a2 : Int32) (σ : gx_R) (rr : Int32) (σ' : gx_R) (hf : Md_valley a1 a2 σ = some (rr, σ')) : E0 D 246 [.ref 109, .int a1, .int a2] σ (some (.int rr)) σ' := by
  cases D with
  | zero => omega
  | succ D => exact Or.inl ⟨Nat.le_of_ble_eq_true rfl, vv_Md_valley_E D hD rr σ' a1 a2 σ hf⟩
set_option maxHeartbeats 16000000 in
set_option maxRecDepth 20000 in
theorem vv_Md_onEnd_2_B (D : Nat) (hD : 1 ≤ D + 1) (rr : Int32) (σ' : gx_R) (K2 : Int32 → Int32 → gx_R → Option (Int32 × gx_R)) (hK2 : ∀ (a1 : Int32) (a2 : Int32) (σ : gx_R), K2 a1 a2 σ = some (rr, σ') → gx_Ev lay0 (E0 D) tt_247 (some (.int rr)) σ' 2 [.ref 109, .int a1, .int a2] [] σ) (a1 : Int32) (a2 : Int32) (σ : gx_R) (hf : Md_onEnd_2_B K2 a1 a2 σ = some (rr, σ')) : gx_Ev lay0 (E0 D) tt_247 (some (.int rr)) σ' 2 [.ref 109, .int a1, .int a2] [] σ := by
  unfold Md_onEnd_2_B at hf
  rcases z_if_inv hf with ⟨h1, hf⟩ | ⟨h1, hf⟩
  · obtain ⟨e1, e2⟩ := z_ret hf
    subst e1
    subst e2
    exact gx_end 6 [.inl 1] [(a1 - a2) < 0] rfl ⟨h1, trivial⟩
  · obtain ⟨h2, hf⟩ := z_ck_inv hf
    obtain ⟨h3, hf⟩ := z_ck_inv hf
    rcases z_if_inv hf with ⟨h4, hf⟩ | ⟨h4, hf⟩
    · exact gx_go_ 17 [.inl 0, .inl 0] [¬ ((a1 - a2) < 0), vp_in (a1 - a2) 8, vp_in a1 8, ¬ ¬ ((σ 150 ((a1 - a2).toNatClampNeg)) = (σ 150 a1.toNatClampNeg))] 2 [.ref 109, .int a1, .int (a2 + 1)] [] σ rfl ⟨h1, (z_ix_in h2), (z_ix_in h3), (fun q => q h4), trivial⟩ (gx_fgt (ls' := [.ref 109, .int a1, .int (a2 + 1)]) ⟨Or.inr rfl, Or.inr rfl, Or.inr rfl, trivial⟩ (hK2 a1 (a2 + 1) σ hf))
    · obtain ⟨e1, e2⟩ := z_ret hf
      subst e1
      subst e2
      exact gx_end 17 [.inl 0, .inl 1] [¬ ((a1 - a2) < 0), vp_in (a1 - a2) 8, vp_in a1 8, ¬ ((σ 150 ((a1 - a2).toNatClampNeg)) = (σ 150 a1.toNatClampNeg))] rfl ⟨h1, (z_ix_in h2), (z_ix_in h3), h4, trivial⟩
set_option maxHeartbeats 16000000 in
set_option maxRecDepth 20000 in
theorem vv_Md_onEnd_2 (D : Nat) (hD : 1 ≤ D + 1) (rr : Int32) (σ' : gx_R) : ∀ (n : Nat) (a1 : Int32) (a2 : Int32) (σ : gx_R), Md_onEnd_2 n a1 a2 σ = some (rr, σ') → gx_Ev lay0 (E0 D) tt_247 (some (.int rr)) σ' 2 [.ref 109, .int a1, .int a2] [] σ := by
  intro n
  induction n with
  | zero => intro a1 a2 σ  hf; cases hf
  | succ n ih => intro a1 a2 σ  hf; exact vv_Md_onEnd_2_B D hD rr σ'  (Md_onEnd_2 n) ih a1 a2 σ  hf
set_option maxHeartbeats 16000000 in
set_option maxRecDepth 20000 in
theorem vv_Md_onEnd_E (D : Nat) (hD : 1 ≤ D + 1) (rr : Int32) (σ' : gx_R) (a1 : Int32) (σ : gx_R) (hf : Md_onEnd a1 σ = some (rr, σ')) : gx_Ev lay0 (E0 D) tt_247 (some (.int rr)) σ' 0 [.ref 109, .int a1, .null] [] σ := by
  unfold Md_onEnd at hf
  exact gx_go_ 2 [] [] 2 [.ref 109, .int a1, .int (1 : Int32)] [] σ rfl trivial (gx_fgt (ls' := [.ref 109, .int a1, .int (1 : Int32)]) ⟨Or.inr rfl, Or.inr rfl, Or.inr rfl, trivial⟩ (vv_Md_onEnd_2 D hD rr σ' z_FU a1 (1 : Int32) σ hf))
set_option maxHeartbeats 16000000 in
set_option maxRecDepth 20000 in
theorem ww_Md_onEnd (D : Nat) (hD : 1 ≤ D) (a1 : Int32) (σ : gx_R) (rr : Int32) (σ' : gx_R) (hf : Md_onEnd a1 σ = some (rr, σ')) : E0 D 247 [.ref 109, .int a1] σ (some (.int rr)) σ' := by
  cases D with
  | zero => omega
  | succ D => exact Or.inl ⟨Nat.le_of_ble_eq_true rfl, vv_Md_onEnd_E D hD rr σ' a1 σ hf⟩
set_option maxHeartbeats 16000000 in
set_option maxRecDepth 20000 in
theorem vv_Md_mayShift_29 (D : Nat) (hD : 2 ≤ D + 1) (rr : Int32) (σ' : gx_R) (a1 : Int32) (a3 : Int32) (a5 : Int32) (σ : gx_R) (hf : Md_mayShift_29 a1 a3 a5 σ = some (rr, σ')) : gx_Ev lay0 (E0 D) tt_248 (some (.int rr)) σ' 29 [.null, .int a1, .null, .int a3, .null, .int a5] [] σ := by
  unfold Md_mayShift_29 at hf
  rcases z_if_inv hf with ⟨h1, hf⟩ | ⟨h1, hf⟩
  · obtain ⟨e1, e2⟩ := z_ret hf
    subst e1
    subst e2
    exact gx_end 9 [.inl 1] [((a1 - a5) - (1 : Int32)) < a3, (0 : Int32) &&& 1 = (0 : Int32)] rfl ⟨h1, rfl, trivial⟩
  · obtain ⟨e1, e2⟩ := z_ret hf
    subst e1
    subst e2
    exact gx_end 10 [.inl 0] [¬ (((a1 - a5) - (1 : Int32)) < a3), (1 : Int32) &&& 1 = (1 : Int32)] rfl ⟨h1, rfl, trivial⟩
set_option maxHeartbeats 16000000 in
set_option maxRecDepth 20000 in
theorem vv_Md_mayShift_18_B (D : Nat) (hD : 2 ≤ D + 1) (rr : Int32) (σ' : gx_R) (K18 : Int32 → Int32 → Int32 → gx_R → Option (Int32 × gx_R)) (hK18 : ∀ (a1 : Int32) (a3 : Int32) (a5 : Int32) (σ : gx_R), K18 a1 a3 a5 σ = some (rr, σ') → gx_Ev lay0 (E0 D) tt_248 (some (.int rr)) σ' 18 [.ref 109, .int a1, .null, .int a3, .null, .int a5] [] σ) (a1 : Int32) (a3 : Int32) (a5 : Int32) (σ : gx_R) (hf : Md_mayShift_18_B K18 a1 a3 a5 σ = some (rr, σ')) : gx_Ev lay0 (E0 D) tt_248 (some (.int rr)) σ' 18 [.ref 109, .int a1, .null, .int a3, .null, .int a5] [] σ := by
  unfold Md_mayShift_18_B at hf
  rcases z_if_inv hf with ⟨h1, hf⟩ | ⟨h1, hf⟩
  · obtain ⟨e1, e2⟩ := z_ret hf
    subst e1
    subst e2
    exact gx_end 4 [.inl 1] [a5 < 0, (1 : Int32) &&& 1 = (1 : Int32)] rfl ⟨h1, rfl, trivial⟩
  · obtain ⟨h2, hf⟩ := z_ck_inv hf
    obtain ⟨h3, hf⟩ := z_ck_inv hf
    rcases z_if_inv hf with ⟨h4, hf⟩ | ⟨h4, hf⟩
    · exact gx_go_ 11 [.inl 0, .inl 0] [¬ (a5 < 0), vp_in a5 8, vp_in a1 8, ¬ ¬ ((σ 150 a5.toNatClampNeg) = (σ 150 a1.toNatClampNeg))] 29 [.ref 109, .int a1, .null, .int a3, .null, .int a5] [] σ rfl ⟨h1, (z_ix_in h2), (z_ix_in h3), (fun q => q h4), trivial⟩ (gx_fgt (ls' := [.null, .int a1, .null, .int a3, .null, .int a5]) ⟨Or.inl rfl, Or.inr rfl, Or.inl rfl, Or.inr rfl, Or.inl rfl, Or.inr rfl, trivial⟩ (vv_Md_mayShift_29 D hD rr σ' a1 a3 a5 σ hf))
    · exact gx_go_ 13 [.inl 0, .inl 1] [¬ (a5 < 0), vp_in a5 8, vp_in a1 8, ¬ ((σ 150 a5.toNatClampNeg) = (σ 150 a1.toNatClampNeg))] 18 [.ref 109, .int a1, .null, .int a3, .null, .int (a5 + (-1))] [] σ rfl ⟨h1, (z_ix_in h2), (z_ix_in h3), h4, trivial⟩ (gx_fgt (ls' := [.ref 109, .int a1, .null, .int a3, .null, .int (a5 + (-1))]) ⟨Or.inr rfl, Or.inr rfl, Or.inl rfl, Or.inr rfl, Or.inl rfl, Or.inr rfl, trivial⟩ (hK18 a1 a3 (a5 + (-1)) σ hf))
set_option maxHeartbeats 16000000 in
set_option maxRecDepth 20000 in
theorem vv_Md_mayShift_18 (D : Nat) (hD : 2 ≤ D + 1) (rr : Int32) (σ' : gx_R) : ∀ (n : Nat) (a1 : Int32) (a3 : Int32) (a5 : Int32) (σ : gx_R), Md_mayShift_18 n a1 a3 a5 σ = some (rr, σ') → gx_Ev lay0 (E0 D) tt_248 (some (.int rr)) σ' 18 [.ref 109, .int a1, .null, .int a3, .null, .int a5] [] σ := by
  intro n
  induction n with
  | zero => intro a1 a3 a5 σ  hf; cases hf
  | succ n ih => intro a1 a3 a5 σ  hf; exact vv_Md_mayShift_18_B D hD rr σ'  (Md_mayShift_18 n) ih a1 a3 a5 σ  hf
set_option maxHeartbeats 16000000 in
set_option maxRecDepth 20000 in
theorem vv_Md_mayShift_E (D : Nat) (hD : 2 ≤ D + 1) (rr : Int32) (σ' : gx_R) (a1 : Int32) (a2 : Int32) (a3 : Int32) (σ : gx_R) (hf : Md_mayShift a1 a2 a3 σ = some (rr, σ')) : gx_Ev lay0 (E0 D) tt_248 (some (.int rr)) σ' 0 [.ref 109, .int a1, .int a2, .int a3, .null, .null] [] σ := by
  unfold Md_mayShift at hf
  obtain ⟨r1, σ2, h3, hf⟩ := z_bd_inv hf
  rcases z_if_inv hf with ⟨h4, hf⟩ | ⟨h4, hf⟩
  · rcases z_if_inv hf with ⟨h5, hf⟩ | ⟨h5, hf⟩
    · exact gx_go_ 14 [.inr (some (.int r1), σ2), .inl 1, .inl 1] [E0 D 247 [.ref 109, .int a1] σ (some (.int r1)) σ2, r1 ≤ a2, r1 ≤ (1 : Int32)] 18 [.ref 109, .int a1, .int a2, .int a3, .int r1, .int (a1 - (2 : Int32))] [] σ2 rfl ⟨(ww_Md_onEnd D (by omega) a1 σ r1 σ2 h3), h4, h5, trivial⟩ (gx_fgt (ls' := [.ref 109, .int a1, .null, .int a3, .null, .int (a1 - (2 : Int32))]) ⟨Or.inr rfl, Or.inr rfl, Or.inl rfl, Or.inr rfl, Or.inl rfl, Or.inr rfl, trivial⟩ (vv_Md_mayShift_18 D hD rr σ' z_FU a1 a3 (a1 - (2 : Int32)) σ2 hf))
    · obtain ⟨e1, e2⟩ := z_ret hf
      subst e1
      subst e2
      exact gx_end 12 [.inr (some (.int r1), σ2), .inl 1, .inl 0] [E0 D 247 [.ref 109, .int a1] σ (some (.int r1)) σ2, r1 ≤ a2, ¬ (r1 ≤ (1 : Int32)), (1 : Int32) &&& 1 = (1 : Int32)] rfl ⟨(ww_Md_onEnd D (by omega) a1 σ r1 σ2 h3), h4, h5, rfl, trivial⟩
  · obtain ⟨e1, e2⟩ := z_ret hf
    subst e1
    subst e2
    exact gx_end 9 [.inr (some (.int r1), σ2), .inl 0] [E0 D 247 [.ref 109, .int a1] σ (some (.int r1)) σ2, ¬ (r1 ≤ a2), (0 : Int32) &&& 1 = (0 : Int32)] rfl ⟨(ww_Md_onEnd D (by omega) a1 σ r1 σ2 h3), h4, rfl, trivial⟩
set_option maxHeartbeats 16000000 in
set_option maxRecDepth 20000 in
theorem ww_Md_mayShift (D : Nat) (hD : 2 ≤ D) (a1 : Int32) (a2 : Int32) (a3 : Int32) (σ : gx_R) (rr : Int32) (σ' : gx_R) (hf : Md_mayShift a1 a2 a3 σ = some (rr, σ')) : E0 D 248 [.ref 109, .int a1, .int a2, .int a3] σ (some (.int rr)) σ' := by
  cases D with
  | zero => omega
  | succ D => exact Or.inl ⟨Nat.le_of_ble_eq_true rfl, vv_Md_mayShift_E D hD rr σ' a1 a2 a3 σ hf⟩
set_option maxHeartbeats 16000000 in
set_option maxRecDepth 20000 in
theorem vv_Md_changesTo_22 (D : Nat) (hD : 1 ≤ D + 1) (rr : Int32) (σ' : gx_R) (K4 : Int32 → Int32 → Int32 → gx_R → Option (Int32 × gx_R)) (hK4 : ∀ (a1 : Int32) (a2 : Int32) (a3 : Int32) (σ : gx_R), K4 a1 a2 a3 σ = some (rr, σ') → gx_Ev lay0 (E0 D) tt_249 (some (.int rr)) σ' 4 [.ref 109, .int a1, .int a2, .int a3] [] σ) (a1 : Int32) (a3 : Int32) (s0 : Int32) (s1 : Int32) (σ : gx_R) (hf : Md_changesTo_22 K4 a1 a3 s0 s1 σ = some (rr, σ')) : gx_Ev lay0 (E0 D) tt_249 (some (.int rr)) σ' 22 [.ref 109, .int a1, .null, .int a3] [.int s1, .int s0] σ := by
  unfold Md_changesTo_22 at hf
  exact gx_go_ 4 [] [] 4 [.ref 109, .int a1, .int (s0 + s1), .int (a3 + 1)] [] σ rfl trivial (gx_fgt (ls' := [.ref 109, .int a1, .int (s0 + s1), .int (a3 + 1)]) ⟨Or.inr rfl, Or.inr rfl, Or.inr rfl, Or.inr rfl, trivial⟩ (hK4 a1 (s0 + s1) (a3 + 1) σ hf))
set_option maxHeartbeats 16000000 in
set_option maxRecDepth 20000 in
theorem vv_Md_changesTo_4_B (D : Nat) (hD : 1 ≤ D + 1) (rr : Int32) (σ' : gx_R) (K4 : Int32 → Int32 → Int32 → gx_R → Option (Int32 × gx_R)) (hK4 : ∀ (a1 : Int32) (a2 : Int32) (a3 : Int32) (σ : gx_R), K4 a1 a2 a3 σ = some (rr, σ') → gx_Ev lay0 (E0 D) tt_249 (some (.int rr)) σ' 4 [.ref 109, .int a1, .int a2, .int a3] [] σ) (a1 : Int32) (a2 : Int32) (a3 : Int32) (σ : gx_R) (hf : Md_changesTo_4_B K4 a1 a2 a3 σ = some (rr, σ')) : gx_Ev lay0 (E0 D) tt_249 (some (.int rr)) σ' 4 [.ref 109, .int a1, .int a2, .int a3] [] σ := by
  unfold Md_changesTo_4_B at hf
  rcases z_if_inv hf with ⟨h1, hf⟩ | ⟨h1, hf⟩
  · obtain ⟨e1, e2⟩ := z_ret hf
    subst e1
    subst e2
    exact gx_end 5 [.inl 1] [a1 < a3] rfl ⟨h1, trivial⟩
  · obtain ⟨h2, hf⟩ := z_ck_inv hf
    obtain ⟨h3, hf⟩ := z_ck_inv hf
    rcases z_if_inv hf with ⟨h4, hf⟩ | ⟨h4, hf⟩
    · exact gx_go_ 17 [.inl 0, .inl 0] [¬ (a1 < a3), vp_in a3 8, vp_in (a3 - (1 : Int32)) 8, ¬ ¬ ((σ 150 a3.toNatClampNeg) = (σ 150 ((a3 - (1 : Int32)).toNatClampNeg)))] 22 [.ref 109, .int a1, .int a2, .int a3] [.int (0 : Int32), .int a2] σ rfl ⟨h1, (z_ix_in h2), (z_ix_in h3), (fun q => q h4), trivial⟩ (gx_fgt (ls' := [.ref 109, .int a1, .null, .int a3]) ⟨Or.inr rfl, Or.inr rfl, Or.inl rfl, Or.inr rfl, trivial⟩ (vv_Md_changesTo_22 D hD rr σ' K4 hK4 a1 a3 a2 (0 : Int32) σ hf))
    · exact gx_go_ 16 [.inl 0, .inl 1] [¬ (a1 < a3), vp_in a3 8, vp_in (a3 - (1 : Int32)) 8, ¬ ((σ 150 a3.toNatClampNeg) = (σ 150 ((a3 - (1 : Int32)).toNatClampNeg)))] 22 [.ref 109, .int a1, .int a2, .int a3] [.int (1 : Int32), .int a2] σ rfl ⟨h1, (z_ix_in h2), (z_ix_in h3), h4, trivial⟩ (gx_fgt (ls' := [.ref 109, .int a1, .null, .int a3]) ⟨Or.inr rfl, Or.inr rfl, Or.inl rfl, Or.inr rfl, trivial⟩ (vv_Md_changesTo_22 D hD rr σ' K4 hK4 a1 a3 a2 (1 : Int32) σ hf))
set_option maxHeartbeats 16000000 in
set_option maxRecDepth 20000 in
theorem vv_Md_changesTo_4 (D : Nat) (hD : 1 ≤ D + 1) (rr : Int32) (σ' : gx_R) : ∀ (n : Nat) (a1 : Int32) (a2 : Int32) (a3 : Int32) (σ : gx_R), Md_changesTo_4 n a1 a2 a3 σ = some (rr, σ') → gx_Ev lay0 (E0 D) tt_249 (some (.int rr)) σ' 4 [.ref 109, .int a1, .int a2, .int a3] [] σ := by
  intro n
  induction n with
  | zero => intro a1 a2 a3 σ  hf; cases hf
  | succ n ih => intro a1 a2 a3 σ  hf; exact vv_Md_changesTo_4_B D hD rr σ'  (Md_changesTo_4 n) ih a1 a2 a3 σ  hf
set_option maxHeartbeats 16000000 in
set_option maxRecDepth 20000 in
theorem vv_Md_changesTo_E (D : Nat) (hD : 1 ≤ D + 1) (rr : Int32) (σ' : gx_R) (a1 : Int32) (σ : gx_R) (hf : Md_changesTo a1 σ = some (rr, σ')) : gx_Ev lay0 (E0 D) tt_249 (some (.int rr)) σ' 0 [.ref 109, .int a1, .null, .null] [] σ := by
  unfold Md_changesTo at hf
  exact gx_go_ 4 [] [] 4 [.ref 109, .int a1, .int (0 : Int32), .int (1 : Int32)] [] σ rfl trivial (gx_fgt (ls' := [.ref 109, .int a1, .int (0 : Int32), .int (1 : Int32)]) ⟨Or.inr rfl, Or.inr rfl, Or.inr rfl, Or.inr rfl, trivial⟩ (vv_Md_changesTo_4 D hD rr σ' z_FU a1 (0 : Int32) (1 : Int32) σ hf))
set_option maxHeartbeats 16000000 in
set_option maxRecDepth 20000 in
theorem ww_Md_changesTo (D : Nat) (hD : 1 ≤ D) (a1 : Int32) (σ : gx_R) (rr : Int32) (σ' : gx_R) (hf : Md_changesTo a1 σ = some (rr, σ')) : E0 D 249 [.ref 109, .int a1] σ (some (.int rr)) σ' := by
  cases D with
  | zero => omega
  | succ D => exact Or.inl ⟨Nat.le_of_ble_eq_true rfl, vv_Md_changesTo_E D hD rr σ' a1 σ hf⟩
set_option maxHeartbeats 16000000 in
set_option maxRecDepth 20000 in
theorem vv_Md_staysWithin_23 (D : Nat) (hD : 2 ≤ D + 1) (rr : Int32) (σ' : gx_R) (a1 : Int32) (a4 : Int32) (s0 : Int32) (σ : gx_R) (hf : Md_staysWithin_23 a1 a4 s0 σ = some (rr, σ')) : gx_Ev lay0 (E0 D) tt_250 (some (.int rr)) σ' 23 [.ref 109, .int a1, .null, .null, .int a4, .null, .null] [.int s0] σ := by
  unfold Md_staysWithin_23 at hf
  obtain ⟨r1, σ2, h3, hf⟩ := z_bd_inv hf
  rcases z_if_inv hf with ⟨h4, hf⟩ | ⟨h4, hf⟩
  · obtain ⟨e1, e2⟩ := z_ret hf
    subst e1
    subst e2
    exact gx_end 10 [.inr (some (.int r1), σ2), .inl 1] [E0 D 249 [.ref 109, .int a1] σ (some (.int r1)) σ2, a4 < (r1 + s0), (0 : Int32) &&& 1 = (0 : Int32)] rfl ⟨(ww_Md_changesTo D (by omega) a1 σ r1 σ2 h3), h4, rfl, trivial⟩
  · obtain ⟨e1, e2⟩ := z_ret hf
    subst e1
    subst e2
    exact gx_end 11 [.inr (some (.int r1), σ2), .inl 0] [E0 D 249 [.ref 109, .int a1] σ (some (.int r1)) σ2, ¬ (a4 < (r1 + s0)), (1 : Int32) &&& 1 = (1 : Int32)] rfl ⟨(ww_Md_changesTo D (by omega) a1 σ r1 σ2 h3), h4, rfl, trivial⟩
set_option maxHeartbeats 16000000 in
set_option maxRecDepth 20000 in
theorem vv_Md_staysWithin_E (D : Nat) (hD : 2 ≤ D + 1) (rr : Int32) (σ' : gx_R) (a1 : Int32) (a2 : Int32) (a3 : Int32) (a4 : Int32) (σ : gx_R) (hf : Md_staysWithin a1 a2 a3 a4 σ = some (rr, σ')) : gx_Ev lay0 (E0 D) tt_250 (some (.int rr)) σ' 0 [.ref 109, .int a1, .int a2, .int a3, .int a4, .null, .null] [] σ := by
  unfold Md_staysWithin at hf
  obtain ⟨r1, σ2, h3, hf⟩ := z_bd_inv hf
  rcases z_if_inv hf with ⟨h4, hf⟩ | ⟨h4, hf⟩
  · obtain ⟨h5, hf⟩ := z_ck_inv hf
    exact gx_go_ 21 [.inr (some (.int r1), σ2), .inl 1] [E0 D 247 [.ref 109, .int a1] σ (some (.int r1)) σ2, 0 < (((a2 - (1 : Int32)) - a1) - (a3 - r1)), ¬ a3 = 0] 23 [.ref 109, .int a1, .int a2, .int a3, .int a4, .int (((a2 - (1 : Int32)) - a1) - (a3 - r1)), .null] [.int ((((((a2 - (1 : Int32)) - a1) - (a3 - r1)) + a3) - (1 : Int32)) / a3)] σ2 rfl ⟨(ww_Md_onEnd D (by omega) a1 σ r1 σ2 h3), h4, (z_nzi_in h5), trivial⟩ (gx_fgt (ls' := [.ref 109, .int a1, .null, .null, .int a4, .null, .null]) ⟨Or.inr rfl, Or.inr rfl, Or.inl rfl, Or.inl rfl, Or.inr rfl, Or.inl rfl, Or.inl rfl, trivial⟩ (vv_Md_staysWithin_23 D hD rr σ' a1 a4 ((((((a2 - (1 : Int32)) - a1) - (a3 - r1)) + a3) - (1 : Int32)) / a3) σ2 hf))
  · exact gx_go_ 16 [.inr (some (.int r1), σ2), .inl 0] [E0 D 247 [.ref 109, .int a1] σ (some (.int r1)) σ2, ¬ (0 < (((a2 - (1 : Int32)) - a1) - (a3 - r1)))] 23 [.ref 109, .int a1, .int a2, .int a3, .int a4, .int (((a2 - (1 : Int32)) - a1) - (a3 - r1)), .null] [.int (0 : Int32)] σ2 rfl ⟨(ww_Md_onEnd D (by omega) a1 σ r1 σ2 h3), h4, trivial⟩ (gx_fgt (ls' := [.ref 109, .int a1, .null, .null, .int a4, .null, .null]) ⟨Or.inr rfl, Or.inr rfl, Or.inl rfl, Or.inl rfl, Or.inr rfl, Or.inl rfl, Or.inl rfl, trivial⟩ (vv_Md_staysWithin_23 D hD rr σ' a1 a4 (0 : Int32) σ2 hf))
set_option maxHeartbeats 16000000 in
set_option maxRecDepth 20000 in
theorem ww_Md_staysWithin (D : Nat) (hD : 2 ≤ D) (a1 : Int32) (a2 : Int32) (a3 : Int32) (a4 : Int32) (σ : gx_R) (rr : Int32) (σ' : gx_R) (hf : Md_staysWithin a1 a2 a3 a4 σ = some (rr, σ')) : E0 D 250 [.ref 109, .int a1, .int a2, .int a3, .int a4] σ (some (.int rr)) σ' := by
  cases D with
  | zero => omega
  | succ D => exact Or.inl ⟨Nat.le_of_ble_eq_true rfl, vv_Md_staysWithin_E D hD rr σ' a1 a2 a3 a4 σ hf⟩
set_option maxHeartbeats 16000000 in
set_option maxRecDepth 20000 in
theorem vv_Md_rotaWithin_7_B (D : Nat) (hD : 3 ≤ D + 1) (rr : Int32) (σ' : gx_R) (K7 : Int32 → Int32 → Int32 → Int32 → Int32 → Int32 → gx_R → Option (Int32 × gx_R)) (hK7 : ∀ (a1 : Int32) (a2 : Int32) (a3 : Int32) (a4 : Int32) (a5 : Int32) (a6 : Int32) (σ : gx_R), K7 a1 a2 a3 a4 a5 a6 σ = some (rr, σ') → gx_Ev lay0 (E0 D) tt_251 (some (.int rr)) σ' 7 [.ref 109, .int a1, .int a2, .int a3, .int a4, .int a5, .int a6] [] σ) (a1 : Int32) (a2 : Int32) (a3 : Int32) (a4 : Int32) (a5 : Int32) (a6 : Int32) (σ : gx_R) (hf : Md_rotaWithin_7_B K7 a1 a2 a3 a4 a5 a6 σ = some (rr, σ')) : gx_Ev lay0 (E0 D) tt_251 (some (.int rr)) σ' 7 [.ref 109, .int a1, .int a2, .int a3, .int a4, .int a5, .int a6] [] σ := by
  unfold Md_rotaWithin_7_B at hf
  rcases z_if_inv hf with ⟨h1, hf⟩ | ⟨h1, hf⟩
  · obtain ⟨e1, e2⟩ := z_ret hf
    subst e1
    subst e2
    exact gx_end 4 [.inl 1] [a6 < 0, (0 : Int32) &&& 1 = (0 : Int32)] rfl ⟨h1, rfl, trivial⟩
  · obtain ⟨h2, hf⟩ := z_ck_inv hf
    obtain ⟨h3, hf⟩ := z_ck_inv hf
    obtain ⟨h4, hf⟩ := z_ck_inv hf
    rcases z_if_inv hf with ⟨h5, hf⟩ | ⟨h5, hf⟩
    · exact gx_go_ 18 [.inl 0, .inl 0] [¬ (a6 < 0), vp_in a6 8, vp_in a6 8, vp_in a6 8, ¬ ¬ (((gx_up σ 150 a6.toNatClampNeg ((σ 150 a6.toNatClampNeg) + (1 : Int32))) 150 a6.toNatClampNeg) = a2)] 7 [.ref 109, .int a1, .int a2, .int a3, .int a4, .int a5, .int (a6 + (-1))] [] (gx_up σ 150 a6.toNatClampNeg ((σ 150 a6.toNatClampNeg) + (1 : Int32))) rfl ⟨h1, (z_ix_in h2), (z_ix_in h3), (z_ix_in h4), (fun q => q h5), trivial⟩ (gx_fgt (ls' := [.ref 109, .int a1, .int a2, .int a3, .int a4, .int a5, .int (a6 + (-1))]) ⟨Or.inr rfl, Or.inr rfl, Or.inr rfl, Or.inr rfl, Or.inr rfl, Or.inr rfl, Or.inr rfl, trivial⟩ (hK7 a1 a2 a3 a4 a5 (a6 + (-1)) (gx_up σ 150 a6.toNatClampNeg ((σ 150 a6.toNatClampNeg) + (1 : Int32))) hf))
    · obtain ⟨r6, σ7, h8, hf⟩ := z_bd_inv hf
      rcases z_if_inv hf with ⟨h9, hf⟩ | ⟨h9, hf⟩
      · exact gx_go_ 22 [.inl 0, .inl 1, .inr (some (.int r6), σ7), .inl 1] [¬ (a6 < 0), vp_in a6 8, vp_in a6 8, vp_in a6 8, ¬ (((gx_up σ 150 a6.toNatClampNeg ((σ 150 a6.toNatClampNeg) + (1 : Int32))) 150 a6.toNatClampNeg) = a2), E0 D 248 [.ref 109, .int a6, .int a3, .int a4] (gx_up σ 150 a6.toNatClampNeg ((σ 150 a6.toNatClampNeg) + (1 : Int32))) (some (.int r6)) σ7, r6 = 0] 7 [.ref 109, .int a1, .int a2, .int a3, .int a4, .int a5, .int a6] [] σ7 rfl ⟨h1, (z_ix_in h2), (z_ix_in h3), (z_ix_in h4), h5, (ww_Md_mayShift D (by omega) a6 a3 a4 (gx_up σ 150 a6.toNatClampNeg ((σ 150 a6.toNatClampNeg) + (1 : Int32))) r6 σ7 h8), h9, trivial⟩ (gx_fgt (ls' := [.ref 109, .int a1, .int a2, .int a3, .int a4, .int a5, .int a6]) ⟨Or.inr rfl, Or.inr rfl, Or.inr rfl, Or.inr rfl, Or.inr rfl, Or.inr rfl, Or.inr rfl, trivial⟩ (hK7 a1 a2 a3 a4 a5 a6 σ7 hf))
      · obtain ⟨r10, σ11, h12, hf⟩ := z_bd_inv hf
        rcases z_if_inv hf with ⟨h13, hf⟩ | ⟨h13, hf⟩
        · exact gx_go_ 29 [.inl 0, .inl 1, .inr (some (.int r6), σ7), .inl 0, .inr (some (.int r10), σ11), .inl 1] [¬ (a6 < 0), vp_in a6 8, vp_in a6 8, vp_in a6 8, ¬ (((gx_up σ 150 a6.toNatClampNeg ((σ 150 a6.toNatClampNeg) + (1 : Int32))) 150 a6.toNatClampNeg) = a2), E0 D 248 [.ref 109, .int a6, .int a3, .int a4] (gx_up σ 150 a6.toNatClampNeg ((σ 150 a6.toNatClampNeg) + (1 : Int32))) (some (.int r6)) σ7, ¬ (r6 = 0), E0 D 250 [.ref 109, .int a6, .int a1, .int a3, .int a5] σ7 (some (.int r10)) σ11, r10 = 0] 7 [.ref 109, .int a1, .int a2, .int a3, .int a4, .int a5, .int a6] [] σ11 rfl ⟨h1, (z_ix_in h2), (z_ix_in h3), (z_ix_in h4), h5, (ww_Md_mayShift D (by omega) a6 a3 a4 (gx_up σ 150 a6.toNatClampNeg ((σ 150 a6.toNatClampNeg) + (1 : Int32))) r6 σ7 h8), h9, (ww_Md_staysWithin D (by omega) a6 a1 a3 a5 σ7 r10 σ11 h12), h13, trivial⟩ (gx_fgt (ls' := [.ref 109, .int a1, .int a2, .int a3, .int a4, .int a5, .int a6]) ⟨Or.inr rfl, Or.inr rfl, Or.inr rfl, Or.inr rfl, Or.inr rfl, Or.inr rfl, Or.inr rfl, trivial⟩ (hK7 a1 a2 a3 a4 a5 a6 σ11 hf))
        · rcases z_if_inv hf with ⟨h14, hf⟩ | ⟨h14, hf⟩
          · obtain ⟨e1, e2⟩ := z_ret hf
            subst e1
            subst e2
            exact gx_end 36 [.inl 0, .inl 1, .inr (some (.int r6), σ7), .inl 0, .inr (some (.int r10), σ11), .inl 0, .inl 0] [¬ (a6 < 0), vp_in a6 8, vp_in a6 8, vp_in a6 8, ¬ (((gx_up σ 150 a6.toNatClampNeg ((σ 150 a6.toNatClampNeg) + (1 : Int32))) 150 a6.toNatClampNeg) = a2), E0 D 248 [.ref 109, .int a6, .int a3, .int a4] (gx_up σ 150 a6.toNatClampNeg ((σ 150 a6.toNatClampNeg) + (1 : Int32))) (some (.int r6)) σ7, ¬ (r6 = 0), E0 D 250 [.ref 109, .int a6, .int a1, .int a3, .int a5] σ7 (some (.int r10)) σ11, ¬ (r10 = 0), ¬ ¬ (a6 = (a1 - (1 : Int32))), (1 : Int32) &&& 1 = (1 : Int32)] rfl ⟨h1, (z_ix_in h2), (z_ix_in h3), (z_ix_in h4), h5, (ww_Md_mayShift D (by omega) a6 a3 a4 (gx_up σ 150 a6.toNatClampNeg ((σ 150 a6.toNatClampNeg) + (1 : Int32))) r6 σ7 h8), h9, (ww_Md_staysWithin D (by omega) a6 a1 a3 a5 σ7 r10 σ11 h12), h13, (fun q => q h14), rfl, trivial⟩
          · obtain ⟨h15, hf⟩ := z_ck_inv hf
            exact gx_go_ 41 [.inl 0, .inl 1, .inr (some (.int r6), σ7), .inl 0, .inr (some (.int r10), σ11), .inl 0, .inl 1] [¬ (a6 < 0), vp_in a6 8, vp_in a6 8, vp_in a6 8, ¬ (((gx_up σ 150 a6.toNatClampNeg ((σ 150 a6.toNatClampNeg) + (1 : Int32))) 150 a6.toNatClampNeg) = a2), E0 D 248 [.ref 109, .int a6, .int a3, .int a4] (gx_up σ 150 a6.toNatClampNeg ((σ 150 a6.toNatClampNeg) + (1 : Int32))) (some (.int r6)) σ7, ¬ (r6 = 0), E0 D 250 [.ref 109, .int a6, .int a1, .int a3, .int a5] σ7 (some (.int r10)) σ11, ¬ (r10 = 0), ¬ (a6 = (a1 - (1 : Int32))), vp_in (a6 + 1) 8] 7 [.ref 109, .int a1, .int a2, .int a3, .int a4, .int a5, .int (a6 + 1)] [] (gx_up σ11 150 (a6 + 1).toNatClampNeg (-1 : Int32)) rfl ⟨h1, (z_ix_in h2), (z_ix_in h3), (z_ix_in h4), h5, (ww_Md_mayShift D (by omega) a6 a3 a4 (gx_up σ 150 a6.toNatClampNeg ((σ 150 a6.toNatClampNeg) + (1 : Int32))) r6 σ7 h8), h9, (ww_Md_staysWithin D (by omega) a6 a1 a3 a5 σ7 r10 σ11 h12), h13, h14, (z_ix_in h15), trivial⟩ (gx_fgt (ls' := [.ref 109, .int a1, .int a2, .int a3, .int a4, .int a5, .int (a6 + 1)]) ⟨Or.inr rfl, Or.inr rfl, Or.inr rfl, Or.inr rfl, Or.inr rfl, Or.inr rfl, Or.inr rfl, trivial⟩ (hK7 a1 a2 a3 a4 a5 (a6 + 1) (gx_up σ11 150 (a6 + 1).toNatClampNeg (-1 : Int32)) hf))
set_option maxHeartbeats 16000000 in
set_option maxRecDepth 20000 in
theorem vv_Md_rotaWithin_7 (D : Nat) (hD : 3 ≤ D + 1) (rr : Int32) (σ' : gx_R) : ∀ (n : Nat) (a1 : Int32) (a2 : Int32) (a3 : Int32) (a4 : Int32) (a5 : Int32) (a6 : Int32) (σ : gx_R), Md_rotaWithin_7 n a1 a2 a3 a4 a5 a6 σ = some (rr, σ') → gx_Ev lay0 (E0 D) tt_251 (some (.int rr)) σ' 7 [.ref 109, .int a1, .int a2, .int a3, .int a4, .int a5, .int a6] [] σ := by
  intro n
  induction n with
  | zero => intro a1 a2 a3 a4 a5 a6 σ  hf; cases hf
  | succ n ih => intro a1 a2 a3 a4 a5 a6 σ  hf; exact vv_Md_rotaWithin_7_B D hD rr σ'  (Md_rotaWithin_7 n) ih a1 a2 a3 a4 a5 a6 σ  hf
set_option maxHeartbeats 16000000 in
set_option maxRecDepth 20000 in
theorem vv_Md_rotaWithin_E (D : Nat) (hD : 3 ≤ D + 1) (rr : Int32) (σ' : gx_R) (a1 : Int32) (a2 : Int32) (a3 : Int32) (a4 : Int32) (a5 : Int32) (σ : gx_R) (hf : Md_rotaWithin a1 a2 a3 a4 a5 σ = some (rr, σ')) : gx_Ev lay0 (E0 D) tt_251 (some (.int rr)) σ' 0 [.ref 109, .int a1, .int a2, .int a3, .int a4, .int a5, .null] [] σ := by
  unfold Md_rotaWithin at hf
  exact gx_go_ 7 [] [vp_in (0 : Int32) 8] 7 [.ref 109, .int a1, .int a2, .int a3, .int a4, .int a5, .int (0 : Int32)] [] (gx_up σ 150 (0 : Int32).toNatClampNeg (-1 : Int32)) rfl ⟨(z_ix_in rfl), trivial⟩ (gx_fgt (ls' := [.ref 109, .int a1, .int a2, .int a3, .int a4, .int a5, .int (0 : Int32)]) ⟨Or.inr rfl, Or.inr rfl, Or.inr rfl, Or.inr rfl, Or.inr rfl, Or.inr rfl, Or.inr rfl, trivial⟩ (vv_Md_rotaWithin_7 D hD rr σ' z_FU a1 a2 a3 a4 a5 (0 : Int32) (gx_up σ 150 (0 : Int32).toNatClampNeg (-1 : Int32)) hf))
set_option maxHeartbeats 16000000 in
set_option maxRecDepth 20000 in
theorem ww_Md_rotaWithin (D : Nat) (hD : 3 ≤ D) (a1 : Int32) (a2 : Int32) (a3 : Int32) (a4 : Int32) (a5 : Int32) (σ : gx_R) (rr : Int32) (σ' : gx_R) (hf : Md_rotaWithin a1 a2 a3 a4 a5 σ = some (rr, σ')) : E0 D 251 [.ref 109, .int a1, .int a2, .int a3, .int a4, .int a5] σ (some (.int rr)) σ' := by
  cases D with
  | zero => omega
  | succ D => exact Or.inl ⟨Nat.le_of_ble_eq_true rfl, vv_Md_rotaWithin_E D hD rr σ' a1 a2 a3 a4 a5 σ hf⟩
set_option maxHeartbeats 16000000 in
set_option maxRecDepth 20000 in
theorem vv_Md_rota_75 (D : Nat) (hD : 4 ≤ D + 1) (rr : Int32) (σ' : gx_R) (a1 : Int32) (a5 : Int32) (σ : gx_R) (hf : Md_rota_75 a1 a5 σ = some (rr, σ')) : gx_Ev lay0 (E0 D) tt_252 (some (.int rr)) σ' 75 [.ref 109, .int a1, .null, .null, .null, .int a5, .null, .null] [] σ := by
  unfold Md_rota_75 at hf
  rcases z_if_inv hf with ⟨h1, hf⟩ | ⟨h1, hf⟩
  · obtain ⟨r2, σ3, h4, hf⟩ := z_bd_inv hf
    obtain ⟨e1, e2⟩ := z_ret hf
    subst e1
    subst e2
    exact gx_end 10 [.inl 0, .inr (some (.int r2), σ3)] [¬ ¬ (a5 = (-1 : Int32)), E0 D 249 [.ref 109, .int (a1 - (1 : Int32))] σ (some (.int r2)) σ3] rfl ⟨(fun q => q h1), (ww_Md_changesTo D (by omega) (a1 - (1 : Int32)) σ r2 σ3 h4), trivial⟩
  · obtain ⟨h5, hf⟩ := z_ck_inv hf
    obtain ⟨h6, hf⟩ := z_ck_inv hf
    obtain ⟨e1, e2⟩ := z_ret hf
    subst e1
    subst e2
    exact gx_end 11 [.inl 1] [¬ (a5 = (-1 : Int32)), vp_in a5 8, vp_in (σ 150 a5.toNatClampNeg) 8] rfl ⟨h1, (z_ix_in h5), (z_ix_in h6), trivial⟩
set_option maxHeartbeats 16000000 in
set_option maxRecDepth 20000 in
theorem vv_Md_rota_64_B (D : Nat) (hD : 4 ≤ D + 1) (rr : Int32) (σ' : gx_R) (K64 : Int32 → Int32 → Int32 → Int32 → Int32 → Int32 → gx_R → Option (Int32 × gx_R)) (hK64 : ∀ (a1 : Int32) (a3 : Int32) (a4 : Int32) (a5 : Int32) (a6 : Int32) (a7 : Int32) (σ : gx_R), K64 a1 a3 a4 a5 a6 a7 σ = some (rr, σ') → gx_Ev lay0 (E0 D) tt_252 (some (.int rr)) σ' 64 [.ref 109, .int a1, .null, .int a3, .int a4, .int a5, .int a6, .int a7] [] σ) (a1 : Int32) (a3 : Int32) (a4 : Int32) (a5 : Int32) (a6 : Int32) (a7 : Int32) (σ : gx_R) (hf : Md_rota_64_B K64 a1 a3 a4 a5 a6 a7 σ = some (rr, σ')) : gx_Ev lay0 (E0 D) tt_252 (some (.int rr)) σ' 64 [.ref 109, .int a1, .null, .int a3, .int a4, .int a5, .int a6, .int a7] [] σ := by
  unfold Md_rota_64_B at hf
  rcases z_if_inv hf with ⟨h1, hf⟩ | ⟨h1, hf⟩
  · obtain ⟨e1, e2⟩ := z_ret hf
    subst e1
    subst e2
    exact gx_end 5 [.inl 1] [a1 ≤ a7] rfl ⟨h1, trivial⟩
  · obtain ⟨r2, σ3, h4, hf⟩ := z_bd_inv hf
    rcases z_if_inv hf with ⟨h5, hf⟩ | ⟨h5, hf⟩
    · exact gx_go_ 13 [.inl 0, .inr (some (.int r2), σ3), .inl 1] [¬ (a1 ≤ a7), E0 D 251 [.ref 109, .int a1, .int a6, .int a3, .int a4, .int a7] σ (some (.int r2)) σ3, r2 = 0] 64 [.ref 109, .int a1, .null, .int a3, .int a4, .int a5, .int a6, .int (a7 + 1)] [] σ3 rfl ⟨h1, (ww_Md_rotaWithin D (by omega) a1 a6 a3 a4 a7 σ r2 σ3 h4), h5, trivial⟩ (gx_fgt (ls' := [.ref 109, .int a1, .null, .int a3, .int a4, .int a5, .int a6, .int (a7 + 1)]) ⟨Or.inr rfl, Or.inr rfl, Or.inl rfl, Or.inr rfl, Or.inr rfl, Or.inr rfl, Or.inr rfl, Or.inr rfl, trivial⟩ (hK64 a1 a3 a4 a5 a6 (a7 + 1) σ3 hf))
    · exact gx_go_ 11 [.inl 0, .inr (some (.int r2), σ3), .inl 0] [¬ (a1 ≤ a7), E0 D 251 [.ref 109, .int a1, .int a6, .int a3, .int a4, .int a7] σ (some (.int r2)) σ3, ¬ (r2 = 0)] 75 [.ref 109, .int a1, .null, .int a3, .int a4, .int a5, .int a6, .int a7] [] σ3 rfl ⟨h1, (ww_Md_rotaWithin D (by omega) a1 a6 a3 a4 a7 σ r2 σ3 h4), h5, trivial⟩ (gx_fgt (ls' := [.ref 109, .int a1, .null, .null, .null, .int a5, .null, .null]) ⟨Or.inr rfl, Or.inr rfl, Or.inl rfl, Or.inl rfl, Or.inl rfl, Or.inr rfl, Or.inl rfl, Or.inl rfl, trivial⟩ (vv_Md_rota_75 D hD rr σ' a1 a5 σ3 hf))
set_option maxHeartbeats 16000000 in
set_option maxRecDepth 20000 in
theorem vv_Md_rota_64 (D : Nat) (hD : 4 ≤ D + 1) (rr : Int32) (σ' : gx_R) : ∀ (n : Nat) (a1 : Int32) (a3 : Int32) (a4 : Int32) (a5 : Int32) (a6 : Int32) (a7 : Int32) (σ : gx_R), Md_rota_64 n a1 a3 a4 a5 a6 a7 σ = some (rr, σ') → gx_Ev lay0 (E0 D) tt_252 (some (.int rr)) σ' 64 [.ref 109, .int a1, .null, .int a3, .int a4, .int a5, .int a6, .int a7] [] σ := by
  intro n
  induction n with
  | zero => intro a1 a3 a4 a5 a6 a7 σ  hf; cases hf
  | succ n ih => intro a1 a3 a4 a5 a6 a7 σ  hf; exact vv_Md_rota_64_B D hD rr σ'  (Md_rota_64 n) ih a1 a3 a4 a5 a6 a7 σ  hf
set_option maxHeartbeats 16000000 in
set_option maxRecDepth 20000 in
theorem vv_Md_rota_52 (D : Nat) (hD : 4 ≤ D + 1) (rr : Int32) (σ' : gx_R) (K36 : Int32 → Int32 → Int32 → Int32 → Int32 → Int32 → Int32 → gx_R → Option (Int32 × gx_R)) (hK36 : ∀ (a1 : Int32) (a2 : Int32) (a3 : Int32) (a4 : Int32) (a5 : Int32) (a6 : Int32) (a7 : Int32) (σ : gx_R), K36 a1 a2 a3 a4 a5 a6 a7 σ = some (rr, σ') → gx_Ev lay0 (E0 D) tt_252 (some (.int rr)) σ' 36 [.ref 109, .int a1, .int a2, .int a3, .int a4, .int a5, .int a6, .int a7] [] σ) (a1 : Int32) (a2 : Int32) (a3 : Int32) (a4 : Int32) (a5 : Int32) (a6 : Int32) (a7 : Int32) (σ : gx_R) (hf : Md_rota_52 K36 a1 a2 a3 a4 a5 a6 a7 σ = some (rr, σ')) : gx_Ev lay0 (E0 D) tt_252 (some (.int rr)) σ' 52 [.ref 109, .int a1, .int a2, .int a3, .int a4, .int a5, .int a6, .int a7] [] σ := by
  unfold Md_rota_52 at hf
  exact gx_go_ 2 [] [] 36 [.ref 109, .int a1, .int a2, .int a3, .int a4, .int a5, .int a6, .int (a7 + 1)] [] σ rfl trivial (gx_fgt (ls' := [.ref 109, .int a1, .int a2, .int a3, .int a4, .int a5, .int a6, .int (a7 + 1)]) ⟨Or.inr rfl, Or.inr rfl, Or.inr rfl, Or.inr rfl, Or.inr rfl, Or.inr rfl, Or.inr rfl, Or.inr rfl, trivial⟩ (hK36 a1 a2 a3 a4 a5 a6 (a7 + 1) σ hf))
set_option maxHeartbeats 16000000 in
set_option maxRecDepth 20000 in
theorem vv_Md_rota_54 (D : Nat) (hD : 4 ≤ D + 1) (rr : Int32) (σ' : gx_R) (a1 : Int32) (a3 : Int32) (a4 : Int32) (a5 : Int32) (a6 : Int32) (σ : gx_R) (hf : Md_rota_54 a1 a3 a4 a5 a6 σ = some (rr, σ')) : gx_Ev lay0 (E0 D) tt_252 (some (.int rr)) σ' 54 [.ref 109, .int a1, .null, .int a3, .int a4, .int a5, .int a6, .null] [] σ := by
  unfold Md_rota_54 at hf
  obtain ⟨h1, hf⟩ := z_ck_inv hf
  exact gx_go_ 10 [] [¬ a3 = 0] 64 [.ref 109, .int a1, .null, .int a3, .int a4, .int a5, .int a6, .int ((((a1 + a3) - (1 : Int32)) / a3) - (1 : Int32))] [] σ rfl ⟨(z_nzi_in h1), trivial⟩ (gx_fgt (ls' := [.ref 109, .int a1, .null, .int a3, .int a4, .int a5, .int a6, .int ((((a1 + a3) - (1 : Int32)) / a3) - (1 : Int32))]) ⟨Or.inr rfl, Or.inr rfl, Or.inl rfl, Or.inr rfl, Or.inr rfl, Or.inr rfl, Or.inr rfl, Or.inr rfl, trivial⟩ (vv_Md_rota_64 D hD rr σ' z_FU a1 a3 a4 a5 a6 ((((a1 + a3) - (1 : Int32)) / a3) - (1 : Int32)) σ hf))
set_option maxHeartbeats 16000000 in
set_option maxRecDepth 20000 in
theorem vv_Md_rota_36_B (D : Nat) (hD : 4 ≤ D + 1) (rr : Int32) (σ' : gx_R) (K36 : Int32 → Int32 → Int32 → Int32 → Int32 → Int32 → Int32 → gx_R → Option (Int32 × gx_R)) (hK36 : ∀ (a1 : Int32) (a2 : Int32) (a3 : Int32) (a4 : Int32) (a5 : Int32) (a6 : Int32) (a7 : Int32) (σ : gx_R), K36 a1 a2 a3 a4 a5 a6 a7 σ = some (rr, σ') → gx_Ev lay0 (E0 D) tt_252 (some (.int rr)) σ' 36 [.ref 109, .int a1, .int a2, .int a3, .int a4, .int a5, .int a6, .int a7] [] σ) (a1 : Int32) (a2 : Int32) (a3 : Int32) (a4 : Int32) (a5 : Int32) (a6 : Int32) (a7 : Int32) (σ : gx_R) (hf : Md_rota_36_B K36 a1 a2 a3 a4 a5 a6 a7 σ = some (rr, σ')) : gx_Ev lay0 (E0 D) tt_252 (some (.int rr)) σ' 36 [.ref 109, .int a1, .int a2, .int a3, .int a4, .int a5, .int a6, .int a7] [] σ := by
  unfold Md_rota_36_B at hf
  rcases z_if_inv hf with ⟨h1, hf⟩ | ⟨h1, hf⟩
  · exact gx_go_ 6 [.inl 1] [vp_in (0 : Int32) 8880, (σ 110 ((0 : Int32).toNatClampNeg)) ≤ a7] 54 [.ref 109, .int a1, .int a2, .int a3, .int a4, .int a5, .int a6, .int a7] [] σ rfl ⟨(z_ix_in rfl), h1, trivial⟩ (gx_fgt (ls' := [.ref 109, .int a1, .null, .int a3, .int a4, .int a5, .int a6, .null]) ⟨Or.inr rfl, Or.inr rfl, Or.inl rfl, Or.inr rfl, Or.inr rfl, Or.inr rfl, Or.inr rfl, Or.inl rfl, trivial⟩ (vv_Md_rota_54 D hD rr σ' a1 a3 a4 a5 a6 σ hf))
  · obtain ⟨r2, σ3, h4, hf⟩ := z_bd_inv hf
    rcases z_if_inv hf with ⟨h5, hf⟩ | ⟨h5, hf⟩
    · exact gx_go_ 10 [.inl 0, .inr (some (.int r2), σ3), .inl 1] [vp_in (0 : Int32) 8880, ¬ ((σ 110 ((0 : Int32).toNatClampNeg)) ≤ a7), E0 D 146 [.int a2, .int a7] σ (some (.int r2)) σ3, r2 = 0] 52 [.ref 109, .int a1, .int a2, .int a3, .int a4, .int a5, .int a6, .int a7] [] σ3 rfl ⟨(z_ix_in rfl), h1, (ww_Md_has D (by omega) a2 a7 σ r2 σ3 h4), h5, trivial⟩ (gx_fgt (ls' := [.ref 109, .int a1, .int a2, .int a3, .int a4, .int a5, .int a6, .int a7]) ⟨Or.inr rfl, Or.inr rfl, Or.inr rfl, Or.inr rfl, Or.inr rfl, Or.inr rfl, Or.inr rfl, Or.inr rfl, trivial⟩ (vv_Md_rota_52 D hD rr σ' K36 hK36 a1 a2 a3 a4 a5 a6 a7 σ3 hf))
    · obtain ⟨h6, hf⟩ := z_ck_inv hf
      exact gx_go_ 16 [.inl 0, .inr (some (.int r2), σ3), .inl 0] [vp_in (0 : Int32) 8880, ¬ ((σ 110 ((0 : Int32).toNatClampNeg)) ≤ a7), E0 D 146 [.int a2, .int a7] σ (some (.int r2)) σ3, ¬ (r2 = 0), vp_in a6 8] 52 [.ref 109, .int a1, .int a2, .int a3, .int a4, .int a5, .int (a6 + 1), .int a7] [] (gx_up σ3 149 a6.toNatClampNeg a7) rfl ⟨(z_ix_in rfl), h1, (ww_Md_has D (by omega) a2 a7 σ r2 σ3 h4), h5, (z_ix_in h6), trivial⟩ (gx_fgt (ls' := [.ref 109, .int a1, .int a2, .int a3, .int a4, .int a5, .int (a6 + 1), .int a7]) ⟨Or.inr rfl, Or.inr rfl, Or.inr rfl, Or.inr rfl, Or.inr rfl, Or.inr rfl, Or.inr rfl, Or.inr rfl, trivial⟩ (vv_Md_rota_52 D hD rr σ' K36 hK36 a1 a2 a3 a4 a5 (a6 + 1) a7 (gx_up σ3 149 a6.toNatClampNeg a7) hf))
set_option maxHeartbeats 16000000 in
set_option maxRecDepth 20000 in
theorem vv_Md_rota_36 (D : Nat) (hD : 4 ≤ D + 1) (rr : Int32) (σ' : gx_R) : ∀ (n : Nat) (a1 : Int32) (a2 : Int32) (a3 : Int32) (a4 : Int32) (a5 : Int32) (a6 : Int32) (a7 : Int32) (σ : gx_R), Md_rota_36 n a1 a2 a3 a4 a5 a6 a7 σ = some (rr, σ') → gx_Ev lay0 (E0 D) tt_252 (some (.int rr)) σ' 36 [.ref 109, .int a1, .int a2, .int a3, .int a4, .int a5, .int a6, .int a7] [] σ := by
  intro n
  induction n with
  | zero => intro a1 a2 a3 a4 a5 a6 a7 σ  hf; cases hf
  | succ n ih => intro a1 a2 a3 a4 a5 a6 a7 σ  hf; exact vv_Md_rota_36_B D hD rr σ'  (Md_rota_36 n) ih a1 a2 a3 a4 a5 a6 a7 σ  hf
set_option maxHeartbeats 16000000 in
set_option maxRecDepth 20000 in
theorem vv_Md_rota_E (D : Nat) (hD : 4 ≤ D + 1) (rr : Int32) (σ' : gx_R) (a1 : Int32) (a2 : Int32) (a3 : Int32) (a4 : Int32) (a5 : Int32) (σ : gx_R) (hf : Md_rota a1 a2 a3 a4 a5 σ = some (rr, σ')) : gx_Ev lay0 (E0 D) tt_252 (some (.int rr)) σ' 0 [.ref 109, .int a1, .int a2, .int a3, .int a4, .int a5, .null, .null] [] σ := by
  unfold Md_rota at hf
  obtain ⟨r1, σ2, h3, hf⟩ := z_bd_inv hf
  rcases z_if_inv hf with ⟨h4, hf⟩ | ⟨h4, hf⟩
  · obtain ⟨e1, e2⟩ := z_ret hf
    subst e1
    subst e2
    exact gx_end 7 [.inr (some (.int r1), σ2), .inl 1] [E0 D 145 [.int a1, .int (1 : Int32), .int (8 : Int32)] σ (some (.int r1)) σ2, r1 = 0] rfl ⟨(ww_Md_in D (by omega) a1 (1 : Int32) (8 : Int32) σ r1 σ2 h3), h4, trivial⟩
  · obtain ⟨r5, σ6, h7, hf⟩ := z_bd_inv hf
    rcases z_if_inv hf with ⟨h8, hf⟩ | ⟨h8, hf⟩
    · obtain ⟨e1, e2⟩ := z_ret hf
      subst e1
      subst e2
      exact gx_end 11 [.inr (some (.int r1), σ2), .inl 0, .inr (some (.int r5), σ6), .inl 1] [E0 D 145 [.int a1, .int (1 : Int32), .int (8 : Int32)] σ (some (.int r1)) σ2, ¬ (r1 = 0), E0 D 151 [.ref 109, .int a2] σ2 (some (.int r5)) σ6, r5 = 0] rfl ⟨(ww_Md_in D (by omega) a1 (1 : Int32) (8 : Int32) σ r1 σ2 h3), h4, (ww_Md_isSet D (by omega) a2 σ2 r5 σ6 h7), h8, trivial⟩
    · obtain ⟨r9, σ10, h11, hf⟩ := z_bd_inv hf
      rcases z_if_inv hf with ⟨h12, hf⟩ | ⟨h12, hf⟩
      · obtain ⟨e1, e2⟩ := z_ret hf
        subst e1
        subst e2
        exact gx_end 15 [.inr (some (.int r1), σ2), .inl 0, .inr (some (.int r5), σ6), .inl 0, .inr (some (.int r9), σ10), .inl 1] [E0 D 145 [.int a1, .int (1 : Int32), .int (8 : Int32)] σ (some (.int r1)) σ2, ¬ (r1 = 0), E0 D 151 [.ref 109, .int a2] σ2 (some (.int r5)) σ6, ¬ (r5 = 0), E0 D 147 [.int a2] σ6 (some (.int r9)) σ10, (4 : Int32) < r9] rfl ⟨(ww_Md_in D (by omega) a1 (1 : Int32) (8 : Int32) σ r1 σ2 h3), h4, (ww_Md_isSet D (by omega) a2 σ2 r5 σ6 h7), h8, (ww_Md_many D (by omega) a2 σ6 r9 σ10 h11), h12, trivial⟩
      · obtain ⟨r13, σ14, h15, hf⟩ := z_bd_inv hf
        rcases z_if_inv hf with ⟨h16, hf⟩ | ⟨h16, hf⟩
        · obtain ⟨e1, e2⟩ := z_ret hf
          subst e1
          subst e2
          exact gx_end 20 [.inr (some (.int r1), σ2), .inl 0, .inr (some (.int r5), σ6), .inl 0, .inr (some (.int r9), σ10), .inl 0, .inr (some (.int r13), σ14), .inl 1] [E0 D 145 [.int a1, .int (1 : Int32), .int (8 : Int32)] σ (some (.int r1)) σ2, ¬ (r1 = 0), E0 D 151 [.ref 109, .int a2] σ2 (some (.int r5)) σ6, ¬ (r5 = 0), E0 D 147 [.int a2] σ6 (some (.int r9)) σ10, ¬ ((4 : Int32) < r9), E0 D 145 [.int a3, .int (1 : Int32), .int (8 : Int32)] σ10 (some (.int r13)) σ14, r13 = 0] rfl ⟨(ww_Md_in D (by omega) a1 (1 : Int32) (8 : Int32) σ r1 σ2 h3), h4, (ww_Md_isSet D (by omega) a2 σ2 r5 σ6 h7), h8, (ww_Md_many D (by omega) a2 σ6 r9 σ10 h11), h12, (ww_Md_in D (by omega) a3 (1 : Int32) (8 : Int32) σ10 r13 σ14 h15), h16, trivial⟩
        · obtain ⟨r17, σ18, h19, hf⟩ := z_bd_inv hf
          rcases z_if_inv hf with ⟨h20, hf⟩ | ⟨h20, hf⟩
          · obtain ⟨e1, e2⟩ := z_ret hf
            subst e1
            subst e2
            exact gx_end 25 [.inr (some (.int r1), σ2), .inl 0, .inr (some (.int r5), σ6), .inl 0, .inr (some (.int r9), σ10), .inl 0, .inr (some (.int r13), σ14), .inl 0, .inr (some (.int r17), σ18), .inl 1] [E0 D 145 [.int a1, .int (1 : Int32), .int (8 : Int32)] σ (some (.int r1)) σ2, ¬ (r1 = 0), E0 D 151 [.ref 109, .int a2] σ2 (some (.int r5)) σ6, ¬ (r5 = 0), E0 D 147 [.int a2] σ6 (some (.int r9)) σ10, ¬ ((4 : Int32) < r9), E0 D 145 [.int a3, .int (1 : Int32), .int (8 : Int32)] σ10 (some (.int r13)) σ14, ¬ (r13 = 0), E0 D 145 [.int a4, .int (0 : Int32), .int (8 : Int32)] σ14 (some (.int r17)) σ18, r17 = 0] rfl ⟨(ww_Md_in D (by omega) a1 (1 : Int32) (8 : Int32) σ r1 σ2 h3), h4, (ww_Md_isSet D (by omega) a2 σ2 r5 σ6 h7), h8, (ww_Md_many D (by omega) a2 σ6 r9 σ10 h11), h12, (ww_Md_in D (by omega) a3 (1 : Int32) (8 : Int32) σ10 r13 σ14 h15), h16, (ww_Md_in D (by omega) a4 (0 : Int32) (8 : Int32) σ14 r17 σ18 h19), h20, trivial⟩
          · obtain ⟨r21, σ22, h23, hf⟩ := z_bd_inv hf
            rcases z_if_inv hf with ⟨h24, hf⟩ | ⟨h24, hf⟩
            · obtain ⟨e1, e2⟩ := z_ret hf
              subst e1
              subst e2
              exact gx_end 32 [.inr (some (.int r1), σ2), .inl 0, .inr (some (.int r5), σ6), .inl 0, .inr (some (.int r9), σ10), .inl 0, .inr (some (.int r13), σ14), .inl 0, .inr (some (.int r17), σ18), .inl 0, .inr (some (.int r21), σ22), .inl 0] [E0 D 145 [.int a1, .int (1 : Int32), .int (8 : Int32)] σ (some (.int r1)) σ2, ¬ (r1 = 0), E0 D 151 [.ref 109, .int a2] σ2 (some (.int r5)) σ6, ¬ (r5 = 0), E0 D 147 [.int a2] σ6 (some (.int r9)) σ10, ¬ ((4 : Int32) < r9), E0 D 145 [.int a3, .int (1 : Int32), .int (8 : Int32)] σ10 (some (.int r13)) σ14, ¬ (r13 = 0), E0 D 145 [.int a4, .int (0 : Int32), .int (8 : Int32)] σ14 (some (.int r17)) σ18, ¬ (r17 = 0), E0 D 145 [.int a5, .int (-1 : Int32), .int (a1 - (1 : Int32))] σ18 (some (.int r21)) σ22, ¬ ¬ (r21 = 0)] rfl ⟨(ww_Md_in D (by omega) a1 (1 : Int32) (8 : Int32) σ r1 σ2 h3), h4, (ww_Md_isSet D (by omega) a2 σ2 r5 σ6 h7), h8, (ww_Md_many D (by omega) a2 σ6 r9 σ10 h11), h12, (ww_Md_in D (by omega) a3 (1 : Int32) (8 : Int32) σ10 r13 σ14 h15), h16, (ww_Md_in D (by omega) a4 (0 : Int32) (8 : Int32) σ14 r17 σ18 h19), h20, (ww_Md_in D (by omega) a5 (-1 : Int32) (a1 - (1 : Int32)) σ18 r21 σ22 h23), (fun q => q h24), trivial⟩
            · exact gx_go_ 34 [.inr (some (.int r1), σ2), .inl 0, .inr (some (.int r5), σ6), .inl 0, .inr (some (.int r9), σ10), .inl 0, .inr (some (.int r13), σ14), .inl 0, .inr (some (.int r17), σ18), .inl 0, .inr (some (.int r21), σ22), .inl 1] [E0 D 145 [.int a1, .int (1 : Int32), .int (8 : Int32)] σ (some (.int r1)) σ2, ¬ (r1 = 0), E0 D 151 [.ref 109, .int a2] σ2 (some (.int r5)) σ6, ¬ (r5 = 0), E0 D 147 [.int a2] σ6 (some (.int r9)) σ10, ¬ ((4 : Int32) < r9), E0 D 145 [.int a3, .int (1 : Int32), .int (8 : Int32)] σ10 (some (.int r13)) σ14, ¬ (r13 = 0), E0 D 145 [.int a4, .int (0 : Int32), .int (8 : Int32)] σ14 (some (.int r17)) σ18, ¬ (r17 = 0), E0 D 145 [.int a5, .int (-1 : Int32), .int (a1 - (1 : Int32))] σ18 (some (.int r21)) σ22, ¬ (r21 = 0)] 36 [.ref 109, .int a1, .int a2, .int a3, .int a4, .int a5, .int (0 : Int32), .int (0 : Int32)] [] σ22 rfl ⟨(ww_Md_in D (by omega) a1 (1 : Int32) (8 : Int32) σ r1 σ2 h3), h4, (ww_Md_isSet D (by omega) a2 σ2 r5 σ6 h7), h8, (ww_Md_many D (by omega) a2 σ6 r9 σ10 h11), h12, (ww_Md_in D (by omega) a3 (1 : Int32) (8 : Int32) σ10 r13 σ14 h15), h16, (ww_Md_in D (by omega) a4 (0 : Int32) (8 : Int32) σ14 r17 σ18 h19), h20, (ww_Md_in D (by omega) a5 (-1 : Int32) (a1 - (1 : Int32)) σ18 r21 σ22 h23), h24, trivial⟩ (gx_fgt (ls' := [.ref 109, .int a1, .int a2, .int a3, .int a4, .int a5, .int (0 : Int32), .int (0 : Int32)]) ⟨Or.inr rfl, Or.inr rfl, Or.inr rfl, Or.inr rfl, Or.inr rfl, Or.inr rfl, Or.inr rfl, Or.inr rfl, trivial⟩ (vv_Md_rota_36 D hD rr σ' z_FU a1 a2 a3 a4 a5 (0 : Int32) (0 : Int32) σ22 hf))
set_option maxHeartbeats 16000000 in
set_option maxRecDepth 20000 in
theorem ww_Md_rota (D : Nat) (hD : 4 ≤ D) (a1 : Int32) (a2 : Int32) (a3 : Int32) (a4 : Int32) (a5 : Int32) (σ : gx_R) (rr : Int32) (σ' : gx_R) (hf : Md_rota a1 a2 a3 a4 a5 σ = some (rr, σ')) : E0 D 252 [.ref 109, .int a1, .int a2, .int a3, .int a4, .int a5] σ (some (.int rr)) σ' := by
  cases D with
  | zero => omega
  | succ D => exact Or.inl ⟨Nat.le_of_ble_eq_true rfl, vv_Md_rota_E D hD rr σ' a1 a2 a3 a4 a5 σ hf⟩
set_option maxHeartbeats 16000000 in
set_option maxRecDepth 20000 in
theorem vv_Md_chain_E (D : Nat) (hD : 6 ≤ D + 1) (rr : Int32) (σ' : gx_R) (a1 : Int32) (σ : gx_R) (hf : Md_chain a1 σ = some (rr, σ')) : gx_Ev lay0 (E0 D) tt_253 (some (.int rr)) σ' 0 [.ref 109, .int a1] [] σ := by
  unfold Md_chain at hf
  obtain ⟨r1, σ2, h3, hf⟩ := z_bd_inv hf
  rcases z_if_inv hf with ⟨h4, hf⟩ | ⟨h4, hf⟩
  · obtain ⟨e1, e2⟩ := z_ret hf
    subst e1
    subst e2
    exact gx_end 7 [.inr (some (.int r1), σ2), .inl 0] [E0 D 216 [.ref 109, .int a1, .int (2 : Int32)] σ (some (.int r1)) σ2, ¬ ¬ (r1 = 0)] rfl ⟨(ww_Md_isAt D (by omega) a1 (2 : Int32) σ r1 σ2 h3), (fun q => q h4), trivial⟩
  · obtain ⟨⟨⟩, σ6, h7, hf⟩ := z_bd_inv hf
    obtain ⟨r8, σ9, h10, hf⟩ := z_bd_inv hf
    obtain ⟨e1, e2⟩ := z_ret hf
    subst e1
    subst e2
    exact gx_end 14 [.inr (some (.int r1), σ2), .inl 1, .inr (none, σ6), .inr (some (.int r8), σ9)] [E0 D 216 [.ref 109, .int a1, .int (2 : Int32)] σ (some (.int r1)) σ2, ¬ (r1 = 0), E0 D 198 [.ref 109] σ2 (none) σ6, E0 D 209 [.ref 109, .int ((1 : Int32) <<< (a1 &&& 31)), .int (0 : Int32)] σ6 (some (.int r8)) σ9] rfl ⟨(ww_Md_isAt D (by omega) a1 (2 : Int32) σ r1 σ2 h3), h4, (ww_Md_laysNow D (by omega) σ2 () σ6 h7), (ww_Md_wakesOn D (by omega) ((1 : Int32) <<< (a1 &&& 31)) (0 : Int32) σ6 r8 σ9 h10), trivial⟩
set_option maxHeartbeats 16000000 in
set_option maxRecDepth 20000 in
theorem ww_Md_chain (D : Nat) (hD : 6 ≤ D) (a1 : Int32) (σ : gx_R) (rr : Int32) (σ' : gx_R) (hf : Md_chain a1 σ = some (rr, σ')) : E0 D 253 [.ref 109, .int a1] σ (some (.int rr)) σ' := by
  cases D with
  | zero => omega
  | succ D => exact Or.inl ⟨Nat.le_of_ble_eq_true rfl, vv_Md_chain_E D hD rr σ' a1 σ hf⟩
set_option maxHeartbeats 16000000 in
set_option maxRecDepth 20000 in
theorem vv_Md_guard_58 (D : Nat) (hD : 6 ≤ D + 1) (rr : Int32) (σ' : gx_R) (K34 : Int32 → Int32 → Int32 → Int32 → Int32 → gx_R → Option (Int32 × gx_R)) (hK34 : ∀ (a1 : Int32) (a2 : Int32) (a3 : Int32) (a4 : Int32) (a5 : Int32) (σ : gx_R), K34 a1 a2 a3 a4 a5 σ = some (rr, σ') → gx_Ev lay0 (E0 D) tt_254 (some (.int rr)) σ' 34 [.ref 109, .int a1, .int a2, .int a3, .int a4, .int a5] [] σ) (a1 : Int32) (a2 : Int32) (a3 : Int32) (a4 : Int32) (a5 : Int32) (σ : gx_R) (hf : Md_guard_58 K34 a1 a2 a3 a4 a5 σ = some (rr, σ')) : gx_Ev lay0 (E0 D) tt_254 (some (.int rr)) σ' 58 [.ref 109, .int a1, .int a2, .int a3, .int a4, .int a5] [] σ := by
  unfold Md_guard_58 at hf
  exact gx_go_ 2 [] [] 34 [.ref 109, .int a1, .int a2, .int a3, .int a4, .int (a5 + 1)] [] σ rfl trivial (gx_fgt (ls' := [.ref 109, .int a1, .int a2, .int a3, .int a4, .int (a5 + 1)]) ⟨Or.inr rfl, Or.inr rfl, Or.inr rfl, Or.inr rfl, Or.inr rfl, Or.inr rfl, trivial⟩ (hK34 a1 a2 a3 a4 (a5 + 1) σ hf))
set_option maxHeartbeats 16000000 in
set_option maxRecDepth 20000 in
theorem vv_Md_guard_60 (D : Nat) (hD : 6 ≤ D + 1) (rr : Int32) (σ' : gx_R) (K29 : Int32 → Int32 → Int32 → Int32 → gx_R → Option (Int32 × gx_R)) (hK29 : ∀ (a1 : Int32) (a2 : Int32) (a3 : Int32) (a4 : Int32) (σ : gx_R), K29 a1 a2 a3 a4 σ = some (rr, σ') → gx_Ev lay0 (E0 D) tt_254 (some (.int rr)) σ' 29 [.ref 109, .int a1, .int a2, .int a3, .int a4, .null] [] σ) (a1 : Int32) (a2 : Int32) (a3 : Int32) (a4 : Int32) (σ : gx_R) (hf : Md_guard_60 K29 a1 a2 a3 a4 σ = some (rr, σ')) : gx_Ev lay0 (E0 D) tt_254 (some (.int rr)) σ' 60 [.ref 109, .int a1, .int a2, .int a3, .int a4, .null] [] σ := by
  unfold Md_guard_60 at hf
  exact gx_go_ 2 [] [] 29 [.ref 109, .int a1, .int a2, .int a3, .int (a4 + 1), .null] [] σ rfl trivial (gx_fgt (ls' := [.ref 109, .int a1, .int a2, .int a3, .int (a4 + 1), .null]) ⟨Or.inr rfl, Or.inr rfl, Or.inr rfl, Or.inr rfl, Or.inr rfl, Or.inl rfl, trivial⟩ (hK29 a1 a2 a3 (a4 + 1) σ hf))
set_option maxHeartbeats 16000000 in
set_option maxRecDepth 20000 in
theorem vv_Md_guard_34_B (D : Nat) (hD : 6 ≤ D + 1) (rr : Int32) (σ' : gx_R) (K29 : Int32 → Int32 → Int32 → Int32 → gx_R → Option (Int32 × gx_R)) (hK29 : ∀ (a1 : Int32) (a2 : Int32) (a3 : Int32) (a4 : Int32) (σ : gx_R), K29 a1 a2 a3 a4 σ = some (rr, σ') → gx_Ev lay0 (E0 D) tt_254 (some (.int rr)) σ' 29 [.ref 109, .int a1, .int a2, .int a3, .int a4, .null] [] σ) (K34 : Int32 → Int32 → Int32 → Int32 → Int32 → gx_R → Option (Int32 × gx_R)) (hK34 : ∀ (a1 : Int32) (a2 : Int32) (a3 : Int32) (a4 : Int32) (a5 : Int32) (σ : gx_R), K34 a1 a2 a3 a4 a5 σ = some (rr, σ') → gx_Ev lay0 (E0 D) tt_254 (some (.int rr)) σ' 34 [.ref 109, .int a1, .int a2, .int a3, .int a4, .int a5] [] σ) (a1 : Int32) (a2 : Int32) (a3 : Int32) (a4 : Int32) (a5 : Int32) (σ : gx_R) (hf : Md_guard_34_B K29 K34 a1 a2 a3 a4 a5 σ = some (rr, σ')) : gx_Ev lay0 (E0 D) tt_254 (some (.int rr)) σ' 34 [.ref 109, .int a1, .int a2, .int a3, .int a4, .int a5] [] σ := by
  unfold Md_guard_34_B at hf
  rcases z_if_inv hf with ⟨h1, hf⟩ | ⟨h1, hf⟩
  · exact gx_go_ 3 [.inl 1] [(256 : Int32) ≤ a5] 60 [.ref 109, .int a1, .int a2, .int a3, .int a4, .int a5] [] σ rfl ⟨h1, trivial⟩ (gx_fgt (ls' := [.ref 109, .int a1, .int a2, .int a3, .int a4, .null]) ⟨Or.inr rfl, Or.inr rfl, Or.inr rfl, Or.inr rfl, Or.inr rfl, Or.inl rfl, trivial⟩ (vv_Md_guard_60 D hD rr σ' K29 hK29 a1 a2 a3 a4 σ hf))
  · rcases z_if_inv hf with ⟨h2, hf⟩ | ⟨h2, hf⟩
    · obtain ⟨r3, σ4, h5, hf⟩ := z_bd_inv hf
      rcases z_if_inv hf with ⟨h6, hf⟩ | ⟨h6, hf⟩
      · obtain ⟨r7, σ8, h9, hf⟩ := z_bd_inv hf
        rcases z_if_inv hf with ⟨h10, hf⟩ | ⟨h10, hf⟩
        · obtain ⟨e1, e2⟩ := z_ret hf
          subst e1
          subst e2
          exact gx_end 24 [.inl 0, .inl 0, .inr (some (.int r3), σ4), .inl 0, .inr (some (.int r7), σ8), .inl 0] [¬ ((256 : Int32) ≤ a5), ¬ ¬ ((a5 &&& (a3 ^^^ (-1 : Int32))) = 0), E0 D 147 [.int a5] σ (some (.int r3)) σ4, ¬ ¬ (r3 = a4), E0 D 209 [.ref 109, .int ((1 : Int32) <<< (a1 &&& 31)), .int a5] σ4 (some (.int r7)) σ8, ¬ ¬ ((r7 &&& a2) = 0)] rfl ⟨h1, (fun q => q h2), (ww_Md_many D (by omega) a5 σ r3 σ4 h5), (fun q => q h6), (ww_Md_wakesOn D (by omega) ((1 : Int32) <<< (a1 &&& 31)) a5 σ4 r7 σ8 h9), (fun q => q h10), trivial⟩
        · exact gx_go_ 22 [.inl 0, .inl 0, .inr (some (.int r3), σ4), .inl 0, .inr (some (.int r7), σ8), .inl 1] [¬ ((256 : Int32) ≤ a5), ¬ ¬ ((a5 &&& (a3 ^^^ (-1 : Int32))) = 0), E0 D 147 [.int a5] σ (some (.int r3)) σ4, ¬ ¬ (r3 = a4), E0 D 209 [.ref 109, .int ((1 : Int32) <<< (a1 &&& 31)), .int a5] σ4 (some (.int r7)) σ8, ¬ ((r7 &&& a2) = 0)] 58 [.ref 109, .int a1, .int a2, .int a3, .int a4, .int a5] [] σ8 rfl ⟨h1, (fun q => q h2), (ww_Md_many D (by omega) a5 σ r3 σ4 h5), (fun q => q h6), (ww_Md_wakesOn D (by omega) ((1 : Int32) <<< (a1 &&& 31)) a5 σ4 r7 σ8 h9), h10, trivial⟩ (gx_fgt (ls' := [.ref 109, .int a1, .int a2, .int a3, .int a4, .int a5]) ⟨Or.inr rfl, Or.inr rfl, Or.inr rfl, Or.inr rfl, Or.inr rfl, Or.inr rfl, trivial⟩ (vv_Md_guard_58 D hD rr σ' K34 hK34 a1 a2 a3 a4 a5 σ8 hf))
      · exact gx_go_ 13 [.inl 0, .inl 0, .inr (some (.int r3), σ4), .inl 1] [¬ ((256 : Int32) ≤ a5), ¬ ¬ ((a5 &&& (a3 ^^^ (-1 : Int32))) = 0), E0 D 147 [.int a5] σ (some (.int r3)) σ4, ¬ (r3 = a4)] 58 [.ref 109, .int a1, .int a2, .int a3, .int a4, .int a5] [] σ4 rfl ⟨h1, (fun q => q h2), (ww_Md_many D (by omega) a5 σ r3 σ4 h5), h6, trivial⟩ (gx_fgt (ls' := [.ref 109, .int a1, .int a2, .int a3, .int a4, .int a5]) ⟨Or.inr rfl, Or.inr rfl, Or.inr rfl, Or.inr rfl, Or.inr rfl, Or.inr rfl, trivial⟩ (vv_Md_guard_58 D hD rr σ' K34 hK34 a1 a2 a3 a4 a5 σ4 hf))
    · exact gx_go_ 9 [.inl 0, .inl 1] [¬ ((256 : Int32) ≤ a5), ¬ ((a5 &&& (a3 ^^^ (-1 : Int32))) = 0)] 58 [.ref 109, .int a1, .int a2, .int a3, .int a4, .int a5] [] σ rfl ⟨h1, h2, trivial⟩ (gx_fgt (ls' := [.ref 109, .int a1, .int a2, .int a3, .int a4, .int a5]) ⟨Or.inr rfl, Or.inr rfl, Or.inr rfl, Or.inr rfl, Or.inr rfl, Or.inr rfl, trivial⟩ (vv_Md_guard_58 D hD rr σ' K34 hK34 a1 a2 a3 a4 a5 σ hf))
set_option maxHeartbeats 16000000 in
set_option maxRecDepth 20000 in
theorem vv_Md_guard_34 (D : Nat) (hD : 6 ≤ D + 1) (rr : Int32) (σ' : gx_R) (K29 : Int32 → Int32 → Int32 → Int32 → gx_R → Option (Int32 × gx_R)) (hK29 : ∀ (a1 : Int32) (a2 : Int32) (a3 : Int32) (a4 : Int32) (σ : gx_R), K29 a1 a2 a3 a4 σ = some (rr, σ') → gx_Ev lay0 (E0 D) tt_254 (some (.int rr)) σ' 29 [.ref 109, .int a1, .int a2, .int a3, .int a4, .null] [] σ) : ∀ (n : Nat) (a1 : Int32) (a2 : Int32) (a3 : Int32) (a4 : Int32) (a5 : Int32) (σ : gx_R), Md_guard_34 K29 n a1 a2 a3 a4 a5 σ = some (rr, σ') → gx_Ev lay0 (E0 D) tt_254 (some (.int rr)) σ' 34 [.ref 109, .int a1, .int a2, .int a3, .int a4, .int a5] [] σ := by
  intro n
  induction n with
  | zero => intro a1 a2 a3 a4 a5 σ  hf; cases hf
  | succ n ih => intro a1 a2 a3 a4 a5 σ  hf; exact vv_Md_guard_34_B D hD rr σ'  K29 hK29 (Md_guard_34 K29 n) ih a1 a2 a3 a4 a5 σ  hf
set_option maxHeartbeats 16000000 in
set_option maxRecDepth 20000 in
theorem vv_Md_guard_29_B (D : Nat) (hD : 6 ≤ D + 1) (rr : Int32) (σ' : gx_R) (K29 : Int32 → Int32 → Int32 → Int32 → gx_R → Option (Int32 × gx_R)) (hK29 : ∀ (a1 : Int32) (a2 : Int32) (a3 : Int32) (a4 : Int32) (σ : gx_R), K29 a1 a2 a3 a4 σ = some (rr, σ') → gx_Ev lay0 (E0 D) tt_254 (some (.int rr)) σ' 29 [.ref 109, .int a1, .int a2, .int a3, .int a4, .null] [] σ) (a1 : Int32) (a2 : Int32) (a3 : Int32) (a4 : Int32) (σ : gx_R) (hf : Md_guard_29_B K29 a1 a2 a3 a4 σ = some (rr, σ')) : gx_Ev lay0 (E0 D) tt_254 (some (.int rr)) σ' 29 [.ref 109, .int a1, .int a2, .int a3, .int a4, .null] [] σ := by
  unfold Md_guard_29_B at hf
  rcases z_if_inv hf with ⟨h1, hf⟩ | ⟨h1, hf⟩
  · obtain ⟨e1, e2⟩ := z_ret hf
    subst e1
    subst e2
    exact gx_end 5 [.inl 1] [(8 : Int32) ≤ a4] rfl ⟨h1, trivial⟩
  · exact gx_go_ 5 [.inl 0] [¬ ((8 : Int32) ≤ a4)] 34 [.ref 109, .int a1, .int a2, .int a3, .int a4, .int (0 : Int32)] [] σ rfl ⟨h1, trivial⟩ (gx_fgt (ls' := [.ref 109, .int a1, .int a2, .int a3, .int a4, .int (0 : Int32)]) ⟨Or.inr rfl, Or.inr rfl, Or.inr rfl, Or.inr rfl, Or.inr rfl, Or.inr rfl, trivial⟩ (vv_Md_guard_34 D hD rr σ' K29 hK29 z_FU a1 a2 a3 a4 (0 : Int32) σ hf))
set_option maxHeartbeats 16000000 in
set_option maxRecDepth 20000 in
theorem vv_Md_guard_29 (D : Nat) (hD : 6 ≤ D + 1) (rr : Int32) (σ' : gx_R) : ∀ (n : Nat) (a1 : Int32) (a2 : Int32) (a3 : Int32) (a4 : Int32) (σ : gx_R), Md_guard_29 n a1 a2 a3 a4 σ = some (rr, σ') → gx_Ev lay0 (E0 D) tt_254 (some (.int rr)) σ' 29 [.ref 109, .int a1, .int a2, .int a3, .int a4, .null] [] σ := by
  intro n
  induction n with
  | zero => intro a1 a2 a3 a4 σ  hf; cases hf
  | succ n ih => intro a1 a2 a3 a4 σ  hf; exact vv_Md_guard_29_B D hD rr σ'  (Md_guard_29 n) ih a1 a2 a3 a4 σ  hf
set_option maxHeartbeats 16000000 in
set_option maxRecDepth 20000 in
theorem vv_Md_guard_E (D : Nat) (hD : 6 ≤ D + 1) (rr : Int32) (σ' : gx_R) (a1 : Int32) (a2 : Int32) (σ : gx_R) (hf : Md_guard a1 a2 σ = some (rr, σ')) : gx_Ev lay0 (E0 D) tt_254 (some (.int rr)) σ' 0 [.ref 109, .int a1, .int a2, .null, .null, .null] [] σ := by
  unfold Md_guard at hf
  obtain ⟨r1, σ2, h3, hf⟩ := z_bd_inv hf
  rcases z_if_inv hf with ⟨h4, hf⟩ | ⟨h4, hf⟩
  · obtain ⟨e1, e2⟩ := z_ret hf
    subst e1
    subst e2
    exact gx_end 7 [.inr (some (.int r1), σ2), .inl 1] [E0 D 216 [.ref 109, .int a1, .int (2 : Int32)] σ (some (.int r1)) σ2, r1 = 0] rfl ⟨(ww_Md_isAt D (by omega) a1 (2 : Int32) σ r1 σ2 h3), h4, trivial⟩
  · obtain ⟨r5, σ6, h7, hf⟩ := z_bd_inv hf
    rcases z_if_inv hf with ⟨h8, hf⟩ | ⟨h8, hf⟩
    · obtain ⟨e1, e2⟩ := z_ret hf
      subst e1
      subst e2
      exact gx_end 11 [.inr (some (.int r1), σ2), .inl 0, .inr (some (.int r5), σ6), .inl 1] [E0 D 216 [.ref 109, .int a1, .int (2 : Int32)] σ (some (.int r1)) σ2, ¬ (r1 = 0), E0 D 151 [.ref 109, .int a2] σ2 (some (.int r5)) σ6, r5 = 0] rfl ⟨(ww_Md_isAt D (by omega) a1 (2 : Int32) σ r1 σ2 h3), h4, (ww_Md_isSet D (by omega) a2 σ2 r5 σ6 h7), h8, trivial⟩
    · obtain ⟨r9, σ10, h11, hf⟩ := z_bd_inv hf
      rcases z_if_inv hf with ⟨h12, hf⟩ | ⟨h12, hf⟩
      · obtain ⟨⟨⟩, σ14, h15, hf⟩ := z_bd_inv hf
        obtain ⟨r16, σ17, h18, hf⟩ := z_bd_inv hf
        exact gx_go_ 27 [.inr (some (.int r1), σ2), .inl 0, .inr (some (.int r5), σ6), .inl 0, .inr (some (.int r9), σ10), .inl 1, .inr (none, σ14), .inr (some (.int r16), σ17)] [E0 D 216 [.ref 109, .int a1, .int (2 : Int32)] σ (some (.int r1)) σ2, ¬ (r1 = 0), E0 D 151 [.ref 109, .int a2] σ2 (some (.int r5)) σ6, ¬ (r5 = 0), E0 D 146 [.int a2, .int a1] σ6 (some (.int r9)) σ10, r9 = 0, E0 D 198 [.ref 109] σ10 (none) σ14, E0 D 206 [.ref 109, .int (2 : Int32)] σ14 (some (.int r16)) σ17] 29 [.ref 109, .int a1, .int a2, .int (r16 &&& (((1 : Int32) <<< (a1 &&& 31)) ^^^ (-1 : Int32))), .int (0 : Int32), .null] [] σ17 rfl ⟨(ww_Md_isAt D (by omega) a1 (2 : Int32) σ r1 σ2 h3), h4, (ww_Md_isSet D (by omega) a2 σ2 r5 σ6 h7), h8, (ww_Md_has D (by omega) a2 a1 σ6 r9 σ10 h11), h12, (ww_Md_laysNow D (by omega) σ10 () σ14 h15), (ww_Md_allThat D (by omega) (2 : Int32) σ14 r16 σ17 h18), trivial⟩ (gx_fgt (ls' := [.ref 109, .int a1, .int a2, .int (r16 &&& (((1 : Int32) <<< (a1 &&& 31)) ^^^ (-1 : Int32))), .int (0 : Int32), .null]) ⟨Or.inr rfl, Or.inr rfl, Or.inr rfl, Or.inr rfl, Or.inr rfl, Or.inl rfl, trivial⟩ (vv_Md_guard_29 D hD rr σ' z_FU a1 a2 (r16 &&& (((1 : Int32) <<< (a1 &&& 31)) ^^^ (-1 : Int32))) (0 : Int32) σ17 hf))
      · obtain ⟨e1, e2⟩ := z_ret hf
        subst e1
        subst e2
        exact gx_end 15 [.inr (some (.int r1), σ2), .inl 0, .inr (some (.int r5), σ6), .inl 0, .inr (some (.int r9), σ10), .inl 0] [E0 D 216 [.ref 109, .int a1, .int (2 : Int32)] σ (some (.int r1)) σ2, ¬ (r1 = 0), E0 D 151 [.ref 109, .int a2] σ2 (some (.int r5)) σ6, ¬ (r5 = 0), E0 D 146 [.int a2, .int a1] σ6 (some (.int r9)) σ10, ¬ (r9 = 0)] rfl ⟨(ww_Md_isAt D (by omega) a1 (2 : Int32) σ r1 σ2 h3), h4, (ww_Md_isSet D (by omega) a2 σ2 r5 σ6 h7), h8, (ww_Md_has D (by omega) a2 a1 σ6 r9 σ10 h11), h12, trivial⟩
set_option maxHeartbeats 16000000 in
set_option maxRecDepth 20000 in
theorem ww_Md_guard (D : Nat) (hD : 6 ≤ D) (a1 : Int32) (a2 : Int32) (σ : gx_R) (rr : Int32) (σ' : gx_R) (hf : Md_guard a1 a2 σ = some (rr, σ')) : E0 D 254 [.ref 109, .int a1, .int a2] σ (some (.int rr)) σ' := by
  cases D with
  | zero => omega
  | succ D => exact Or.inl ⟨Nat.le_of_ble_eq_true rfl, vv_Md_guard_E D hD rr σ' a1 a2 σ hf⟩
set_option maxHeartbeats 16000000 in
set_option maxRecDepth 20000 in
theorem vv_Md_power_4_B (D : Nat) (hD : 1 ≤ D + 1) (rr : Int64) (σ' : gx_R) (K4 : Int64 → Int32 → Int64 → Int32 → gx_R → Option (Int64 × gx_R)) (hK4 : ∀ (l0 : Int64) (a2 : Int32) (l3 : Int64) (a5 : Int32) (σ : gx_R), K4 l0 a2 l3 a5 σ = some (rr, σ') → gx_Ev lay0 (E0 D) tt_255 (some (.long rr)) σ' 4 [.long l0, .null, .int a2, .long l3, .null, .int a5] [] σ) (l0 : Int64) (a2 : Int32) (l3 : Int64) (a5 : Int32) (σ : gx_R) (hf : Md_power_4_B K4 l0 a2 l3 a5 σ = some (rr, σ')) : gx_Ev lay0 (E0 D) tt_255 (some (.long rr)) σ' 4 [.long l0, .null, .int a2, .long l3, .null, .int a5] [] σ := by
  unfold Md_power_4_B at hf
  rcases z_if_inv hf with ⟨h1, hf⟩ | ⟨h1, hf⟩
  · obtain ⟨e1, e2⟩ := z_ret hf
    subst e1
    subst e2
    exact gx_end 5 [.inl 1] [a2 ≤ a5] rfl ⟨h1, trivial⟩
  · exact gx_go_ 9 [.inl 0] [¬ (a2 ≤ a5)] 4 [.long l0, .null, .int a2, .long (l3 * l0), .null, .int (a5 + 1)] [] σ rfl ⟨h1, trivial⟩ (gx_fgt (ls' := [.long l0, .null, .int a2, .long (l3 * l0), .null, .int (a5 + 1)]) ⟨Or.inr rfl, Or.inl rfl, Or.inr rfl, Or.inr rfl, Or.inl rfl, Or.inr rfl, trivial⟩ (hK4 l0 a2 (l3 * l0) (a5 + 1) σ hf))
set_option maxHeartbeats 16000000 in
set_option maxRecDepth 20000 in
theorem vv_Md_power_4 (D : Nat) (hD : 1 ≤ D + 1) (rr : Int64) (σ' : gx_R) : ∀ (n : Nat) (l0 : Int64) (a2 : Int32) (l3 : Int64) (a5 : Int32) (σ : gx_R), Md_power_4 n l0 a2 l3 a5 σ = some (rr, σ') → gx_Ev lay0 (E0 D) tt_255 (some (.long rr)) σ' 4 [.long l0, .null, .int a2, .long l3, .null, .int a5] [] σ := by
  intro n
  induction n with
  | zero => intro l0 a2 l3 a5 σ  hf; cases hf
  | succ n ih => intro l0 a2 l3 a5 σ  hf; exact vv_Md_power_4_B D hD rr σ'  (Md_power_4 n) ih l0 a2 l3 a5 σ  hf
set_option maxHeartbeats 16000000 in
set_option maxRecDepth 20000 in
theorem vv_Md_power_E (D : Nat) (hD : 1 ≤ D + 1) (rr : Int64) (σ' : gx_R) (l0 : Int64) (a2 : Int32) (σ : gx_R) (hf : Md_power l0 a2 σ = some (rr, σ')) : gx_Ev lay0 (E0 D) tt_255 (some (.long rr)) σ' 0 [.long l0, .null, .int a2, .null, .null, .null] [] σ := by
  unfold Md_power at hf
  exact gx_go_ 4 [] [] 4 [.long l0, .null, .int a2, .long (1 : Int64), .null, .int (0 : Int32)] [] σ rfl trivial (gx_fgt (ls' := [.long l0, .null, .int a2, .long (1 : Int64), .null, .int (0 : Int32)]) ⟨Or.inr rfl, Or.inl rfl, Or.inr rfl, Or.inr rfl, Or.inl rfl, Or.inr rfl, trivial⟩ (vv_Md_power_4 D hD rr σ' z_FU l0 a2 (1 : Int64) (0 : Int32) σ hf))
set_option maxHeartbeats 16000000 in
set_option maxRecDepth 20000 in
theorem ww_Md_power (D : Nat) (hD : 1 ≤ D) (l0 : Int64) (a2 : Int32) (σ : gx_R) (rr : Int64) (σ' : gx_R) (hf : Md_power l0 a2 σ = some (rr, σ')) : E0 D 255 [.long l0, .int a2] σ (some (.long rr)) σ' := by
  cases D with
  | zero => omega
  | succ D => exact Or.inl ⟨Nat.le_of_ble_eq_true rfl, vv_Md_power_E D hD rr σ' l0 a2 σ hf⟩
set_option maxHeartbeats 16000000 in
set_option maxRecDepth 20000 in
theorem vv_Md_common_4_B (D : Nat) (hD : 1 ≤ D + 1) (rr : Int64) (σ' : gx_R) (K4 : Int64 → Int64 → gx_R → Option (Int64 × gx_R)) (hK4 : ∀ (l4 : Int64) (l6 : Int64) (σ : gx_R), K4 l4 l6 σ = some (rr, σ') → gx_Ev lay0 (E0 D) tt_256 (some (.long rr)) σ' 4 [.null, .null, .null, .null, .long l4, .null, .long l6, .null, .null, .null] [] σ) (l4 : Int64) (l6 : Int64) (σ : gx_R) (hf : Md_common_4_B K4 l4 l6 σ = some (rr, σ')) : gx_Ev lay0 (E0 D) tt_256 (some (.long rr)) σ' 4 [.null, .null, .null, .null, .long l4, .null, .long l6, .null, .null, .null] [] σ := by
  unfold Md_common_4_B at hf
  rcases z_if_inv hf with ⟨h1, hf⟩ | ⟨h1, hf⟩
  · obtain ⟨e1, e2⟩ := z_ret hf
    subst e1
    subst e2
    exact gx_end 6 [.inl 1] [(lg_cmp l6 (0 : Int64)) = 0] rfl ⟨h1, trivial⟩
  · obtain ⟨h2, hf⟩ := z_ck_inv hf
    exact gx_go_ 13 [.inl 0] [¬ ((lg_cmp l6 (0 : Int64)) = 0), ¬ l6 = 0] 4 [.null, .null, .null, .null, .long l6, .null, .long (l4 - l4 / l6 * l6), .null, .long (l4 - l4 / l6 * l6), .null] [] σ rfl ⟨h1, (z_nzl_in h2), trivial⟩ (gx_fgt (ls' := [.null, .null, .null, .null, .long l6, .null, .long (l4 - l4 / l6 * l6), .null, .null, .null]) ⟨Or.inl rfl, Or.inl rfl, Or.inl rfl, Or.inl rfl, Or.inr rfl, Or.inl rfl, Or.inr rfl, Or.inl rfl, Or.inl rfl, Or.inl rfl, trivial⟩ (hK4 l6 (l4 - l4 / l6 * l6) σ hf))
set_option maxHeartbeats 16000000 in
set_option maxRecDepth 20000 in
theorem vv_Md_common_4 (D : Nat) (hD : 1 ≤ D + 1) (rr : Int64) (σ' : gx_R) : ∀ (n : Nat) (l4 : Int64) (l6 : Int64) (σ : gx_R), Md_common_4 n l4 l6 σ = some (rr, σ') → gx_Ev lay0 (E0 D) tt_256 (some (.long rr)) σ' 4 [.null, .null, .null, .null, .long l4, .null, .long l6, .null, .null, .null] [] σ := by
  intro n
  induction n with
  | zero => intro l4 l6 σ  hf; cases hf
  | succ n ih => intro l4 l6 σ  hf; exact vv_Md_common_4_B D hD rr σ'  (Md_common_4 n) ih l4 l6 σ  hf
set_option maxHeartbeats 16000000 in
set_option maxRecDepth 20000 in
theorem vv_Md_common_E (D : Nat) (hD : 1 ≤ D + 1) (rr : Int64) (σ' : gx_R) (l0 : Int64) (l2 : Int64) (σ : gx_R) (hf : Md_common l0 l2 σ = some (rr, σ')) : gx_Ev lay0 (E0 D) tt_256 (some (.long rr)) σ' 0 [.long l0, .null, .long l2, .null, .null, .null, .null, .null, .null, .null] [] σ := by
  unfold Md_common at hf
  exact gx_go_ 4 [] [] 4 [.long l0, .null, .long l2, .null, .long l0, .null, .long l2, .null, .null, .null] [] σ rfl trivial (gx_fgt (ls' := [.null, .null, .null, .null, .long l0, .null, .long l2, .null, .null, .null]) ⟨Or.inl rfl, Or.inl rfl, Or.inl rfl, Or.inl rfl, Or.inr rfl, Or.inl rfl, Or.inr rfl, Or.inl rfl, Or.inl rfl, Or.inl rfl, trivial⟩ (vv_Md_common_4 D hD rr σ' z_FU l0 l2 σ hf))
set_option maxHeartbeats 16000000 in
set_option maxRecDepth 20000 in
theorem ww_Md_common (D : Nat) (hD : 1 ≤ D) (l0 : Int64) (l2 : Int64) (σ : gx_R) (rr : Int64) (σ' : gx_R) (hf : Md_common l0 l2 σ = some (rr, σ')) : E0 D 256 [.long l0, .long l2] σ (some (.long rr)) σ' := by
  cases D with
  | zero => omega
  | succ D => exact Or.inl ⟨Nat.le_of_ble_eq_true rfl, vv_Md_common_E D hD rr σ' l0 l2 σ hf⟩
set_option maxHeartbeats 16000000 in
set_option maxRecDepth 20000 in
theorem vv_Md_choices_4_B (D : Nat) (hD : 1 ≤ D + 1) (rr : Int64) (σ' : gx_R) (K4 : Int32 → Int32 → Int64 → Int32 → gx_R → Option (Int64 × gx_R)) (hK4 : ∀ (a0 : Int32) (a1 : Int32) (l2 : Int64) (a4 : Int32) (σ : gx_R), K4 a0 a1 l2 a4 σ = some (rr, σ') → gx_Ev lay0 (E0 D) tt_257 (some (.long rr)) σ' 4 [.int a0, .int a1, .long l2, .null, .int a4] [] σ) (a0 : Int32) (a1 : Int32) (l2 : Int64) (a4 : Int32) (σ : gx_R) (hf : Md_choices_4_B K4 a0 a1 l2 a4 σ = some (rr, σ')) : gx_Ev lay0 (E0 D) tt_257 (some (.long rr)) σ' 4 [.int a0, .int a1, .long l2, .null, .int a4] [] σ := by
  unfold Md_choices_4_B at hf
  rcases z_if_inv hf with ⟨h1, hf⟩ | ⟨h1, hf⟩
  · obtain ⟨e1, e2⟩ := z_ret hf
    subst e1
    subst e2
    exact gx_end 5 [.inl 1] [a1 < a4] rfl ⟨h1, trivial⟩
  · obtain ⟨h2, hf⟩ := z_ck_inv hf
    exact gx_go_ 17 [.inl 0] [¬ (a1 < a4), ¬ a4.toInt64 = 0] 4 [.int a0, .int a1, .long ((l2 * ((a0 - a1) + a4).toInt64) / a4.toInt64), .null, .int (a4 + 1)] [] σ rfl ⟨h1, (z_nzl_in h2), trivial⟩ (gx_fgt (ls' := [.int a0, .int a1, .long ((l2 * ((a0 - a1) + a4).toInt64) / a4.toInt64), .null, .int (a4 + 1)]) ⟨Or.inr rfl, Or.inr rfl, Or.inr rfl, Or.inl rfl, Or.inr rfl, trivial⟩ (hK4 a0 a1 ((l2 * ((a0 - a1) + a4).toInt64) / a4.toInt64) (a4 + 1) σ hf))
set_option maxHeartbeats 16000000 in
set_option maxRecDepth 20000 in
theorem vv_Md_choices_4 (D : Nat) (hD : 1 ≤ D + 1) (rr : Int64) (σ' : gx_R) : ∀ (n : Nat) (a0 : Int32) (a1 : Int32) (l2 : Int64) (a4 : Int32) (σ : gx_R), Md_choices_4 n a0 a1 l2 a4 σ = some (rr, σ') → gx_Ev lay0 (E0 D) tt_257 (some (.long rr)) σ' 4 [.int a0, .int a1, .long l2, .null, .int a4] [] σ := by
  intro n
  induction n with
  | zero => intro a0 a1 l2 a4 σ  hf; cases hf
  | succ n ih => intro a0 a1 l2 a4 σ  hf; exact vv_Md_choices_4_B D hD rr σ'  (Md_choices_4 n) ih a0 a1 l2 a4 σ  hf
set_option maxHeartbeats 16000000 in
set_option maxRecDepth 20000 in
theorem vv_Md_choices_E (D : Nat) (hD : 1 ≤ D + 1) (rr : Int64) (σ' : gx_R) (a0 : Int32) (a1 : Int32) (σ : gx_R) (hf : Md_choices a0 a1 σ = some (rr, σ')) : gx_Ev lay0 (E0 D) tt_257 (some (.long rr)) σ' 0 [.int a0, .int a1, .null, .null, .null] [] σ := by
  unfold Md_choices at hf
  exact gx_go_ 4 [] [] 4 [.int a0, .int a1, .long (1 : Int64), .null, .int (1 : Int32)] [] σ rfl trivial (gx_fgt (ls' := [.int a0, .int a1, .long (1 : Int64), .null, .int (1 : Int32)]) ⟨Or.inr rfl, Or.inr rfl, Or.inr rfl, Or.inl rfl, Or.inr rfl, trivial⟩ (vv_Md_choices_4 D hD rr σ' z_FU a0 a1 (1 : Int64) (1 : Int32) σ hf))
set_option maxHeartbeats 16000000 in
set_option maxRecDepth 20000 in
theorem ww_Md_choices (D : Nat) (hD : 1 ≤ D) (a0 : Int32) (a1 : Int32) (σ : gx_R) (rr : Int64) (σ' : gx_R) (hf : Md_choices a0 a1 σ = some (rr, σ')) : E0 D 257 [.int a0, .int a1] σ (some (.long rr)) σ' := by
  cases D with
  | zero => omega
  | succ D => exact Or.inl ⟨Nat.le_of_ble_eq_true rfl, vv_Md_choices_E D hD rr σ' a0 a1 σ hf⟩
set_option maxHeartbeats 16000000 in
set_option maxRecDepth 20000 in
theorem vv_Md_enough_65 (D : Nat) (hD : 2 ≤ D + 1) (rr : Int64) (σ' : gx_R) (a1 : Int32) (a3 : Int32) (a5 : Int32) (l10 : Int64) (σ : gx_R) (hf : Md_enough_65 a1 a3 a5 l10 σ = some (rr, σ')) : gx_Ev lay0 (E0 D) tt_258 (some (.long rr)) σ' 65 [.null, .int a1, .null, .int a3, .null, .int a5, .null, .null, .null, .null, .long l10, .null, .null, .null, .null, .null] [] σ := by
  unfold Md_enough_65 at hf
  obtain ⟨r1, σ2, h3, hf⟩ := z_bd_inv hf
  obtain ⟨r4, σ5, h6, hf⟩ := z_bd_inv hf
  rcases z_if_inv hf with ⟨h7, hf⟩ | ⟨h7, hf⟩
  · obtain ⟨h8, hf⟩ := z_ck_inv hf
    obtain ⟨e1, e2⟩ := z_ret hf
    subst e1
    subst e2
    exact gx_end 16 [.inr (some (.long r1), σ2), .inr (some (.long r4), σ5), .inl 1] [E0 D 255 [.long (10 : Int64), .int (a1 * a3)] σ (some (.long r1)) σ2, E0 D 256 [.long r1, .long l10] σ2 (some (.long r4)) σ5, a5 = 0, ¬ r4 = 0] rfl ⟨(ww_Md_power D (by omega) (10 : Int64) (a1 * a3) σ r1 σ2 h3), (ww_Md_common D (by omega) r1 l10 σ2 r4 σ5 h6), h7, (z_nzl_in h8), trivial⟩
  · obtain ⟨h9, hf⟩ := z_ck_inv hf
    obtain ⟨e1, e2⟩ := z_ret hf
    subst e1
    subst e2
    exact gx_end 17 [.inr (some (.long r1), σ2), .inr (some (.long r4), σ5), .inl 0] [E0 D 255 [.long (10 : Int64), .int (a1 * a3)] σ (some (.long r1)) σ2, E0 D 256 [.long r1, .long l10] σ2 (some (.long r4)) σ5, ¬ (a5 = 0), ¬ r4 = 0] rfl ⟨(ww_Md_power D (by omega) (10 : Int64) (a1 * a3) σ r1 σ2 h3), (ww_Md_common D (by omega) r1 l10 σ2 r4 σ5 h6), h7, (z_nzl_in h9), trivial⟩
set_option maxHeartbeats 16000000 in
set_option maxRecDepth 20000 in
theorem vv_Md_enough_44_B (D : Nat) (hD : 2 ≤ D + 1) (rr : Int64) (σ' : gx_R) (K44 : Int32 → Int32 → Int32 → Int64 → Int64 → Int64 → Int32 → gx_R → Option (Int64 × gx_R)) (hK44 : ∀ (a1 : Int32) (a3 : Int32) (a5 : Int32) (l6 : Int64) (l8 : Int64) (l10 : Int64) (a12 : Int32) (σ : gx_R), K44 a1 a3 a5 l6 l8 l10 a12 σ = some (rr, σ') → gx_Ev lay0 (E0 D) tt_258 (some (.long rr)) σ' 44 [.null, .int a1, .null, .int a3, .null, .int a5, .long l6, .null, .long l8, .null, .long l10, .null, .int a12, .null, .null, .null] [] σ) (a1 : Int32) (a3 : Int32) (a5 : Int32) (l6 : Int64) (l8 : Int64) (l10 : Int64) (a12 : Int32) (σ : gx_R) (hf : Md_enough_44_B K44 a1 a3 a5 l6 l8 l10 a12 σ = some (rr, σ')) : gx_Ev lay0 (E0 D) tt_258 (some (.long rr)) σ' 44 [.null, .int a1, .null, .int a3, .null, .int a5, .long l6, .null, .long l8, .null, .long l10, .null, .int a12, .null, .null, .null] [] σ := by
  unfold Md_enough_44_B at hf
  rcases z_if_inv hf with ⟨h1, hf⟩ | ⟨h1, hf⟩
  · exact gx_go_ 3 [.inl 1] [a1 < a12] 65 [.null, .int a1, .null, .int a3, .null, .int a5, .long l6, .null, .long l8, .null, .long l10, .null, .int a12, .null, .null, .null] [] σ rfl ⟨h1, trivial⟩ (gx_fgt (ls' := [.null, .int a1, .null, .int a3, .null, .int a5, .null, .null, .null, .null, .long l10, .null, .null, .null, .null, .null]) ⟨Or.inl rfl, Or.inr rfl, Or.inl rfl, Or.inr rfl, Or.inl rfl, Or.inr rfl, Or.inl rfl, Or.inl rfl, Or.inl rfl, Or.inl rfl, Or.inr rfl, Or.inl rfl, Or.inl rfl, Or.inl rfl, Or.inl rfl, Or.inl rfl, trivial⟩ (vv_Md_enough_65 D hD rr σ' a1 a3 a5 l10 σ hf))
  · obtain ⟨r2, σ3, h4, hf⟩ := z_bd_inv hf
    obtain ⟨r5, σ6, h7, hf⟩ := z_bd_inv hf
    obtain ⟨r8, σ9, h10, hf⟩ := z_bd_inv hf
    exact gx_go_ 21 [.inl 0, .inr (some (.long r2), σ3), .inr (some (.long r5), σ6), .inr (some (.long r8), σ9)] [¬ (a1 < a12), E0 D 257 [.int a1, .int a12] σ (some (.long r2)) σ3, E0 D 255 [.long l6, .int a12] σ3 (some (.long r5)) σ6, E0 D 255 [.long l8, .int (a1 - a12)] σ6 (some (.long r8)) σ9] 44 [.null, .int a1, .null, .int a3, .null, .int a5, .long l6, .null, .long l8, .null, .long (l10 + ((r2 * r5) * r8)), .null, .int (a12 + 1), .null, .null, .null] [] σ9 rfl ⟨h1, (ww_Md_choices D (by omega) a1 a12 σ r2 σ3 h4), (ww_Md_power D (by omega) l6 a12 σ3 r5 σ6 h7), (ww_Md_power D (by omega) l8 (a1 - a12) σ6 r8 σ9 h10), trivial⟩ (gx_fgt (ls' := [.null, .int a1, .null, .int a3, .null, .int a5, .long l6, .null, .long l8, .null, .long (l10 + ((r2 * r5) * r8)), .null, .int (a12 + 1), .null, .null, .null]) ⟨Or.inl rfl, Or.inr rfl, Or.inl rfl, Or.inr rfl, Or.inl rfl, Or.inr rfl, Or.inr rfl, Or.inl rfl, Or.inr rfl, Or.inl rfl, Or.inr rfl, Or.inl rfl, Or.inr rfl, Or.inl rfl, Or.inl rfl, Or.inl rfl, trivial⟩ (hK44 a1 a3 a5 l6 l8 (l10 + ((r2 * r5) * r8)) (a12 + 1) σ9 hf))
set_option maxHeartbeats 16000000 in
set_option maxRecDepth 20000 in
theorem vv_Md_enough_44 (D : Nat) (hD : 2 ≤ D + 1) (rr : Int64) (σ' : gx_R) : ∀ (n : Nat) (a1 : Int32) (a3 : Int32) (a5 : Int32) (l6 : Int64) (l8 : Int64) (l10 : Int64) (a12 : Int32) (σ : gx_R), Md_enough_44 n a1 a3 a5 l6 l8 l10 a12 σ = some (rr, σ') → gx_Ev lay0 (E0 D) tt_258 (some (.long rr)) σ' 44 [.null, .int a1, .null, .int a3, .null, .int a5, .long l6, .null, .long l8, .null, .long l10, .null, .int a12, .null, .null, .null] [] σ := by
  intro n
  induction n with
  | zero => intro a1 a3 a5 l6 l8 l10 a12 σ  hf; cases hf
  | succ n ih => intro a1 a3 a5 l6 l8 l10 a12 σ  hf; exact vv_Md_enough_44_B D hD rr σ'  (Md_enough_44 n) ih a1 a3 a5 l6 l8 l10 a12 σ  hf
set_option maxHeartbeats 16000000 in
set_option maxRecDepth 20000 in
theorem vv_Md_enough_E (D : Nat) (hD : 2 ≤ D + 1) (rr : Int64) (σ' : gx_R) (a1 : Int32) (a2 : Int32) (a3 : Int32) (a4 : Int32) (a5 : Int32) (σ : gx_R) (hf : Md_enough a1 a2 a3 a4 a5 σ = some (rr, σ')) : gx_Ev lay0 (E0 D) tt_258 (some (.long rr)) σ' 0 [.ref 109, .int a1, .int a2, .int a3, .int a4, .int a5, .null, .null, .null, .null, .null, .null, .null, .null, .null, .null] [] σ := by
  unfold Md_enough at hf
  obtain ⟨r1, σ2, h3, hf⟩ := z_bd_inv hf
  rcases z_if_inv hf with ⟨h4, hf⟩ | ⟨h4, hf⟩
  · obtain ⟨e1, e2⟩ := z_ret hf
    subst e1
    subst e2
    exact gx_end 7 [.inr (some (.int r1), σ2), .inl 1] [E0 D 145 [.int a1, .int (1 : Int32), .int (5 : Int32)] σ (some (.int r1)) σ2, r1 = 0] rfl ⟨(ww_Md_in D (by omega) a1 (1 : Int32) (5 : Int32) σ r1 σ2 h3), h4, trivial⟩
  · obtain ⟨r5, σ6, h7, hf⟩ := z_bd_inv hf
    rcases z_if_inv hf with ⟨h8, hf⟩ | ⟨h8, hf⟩
    · obtain ⟨e1, e2⟩ := z_ret hf
      subst e1
      subst e2
      exact gx_end 12 [.inr (some (.int r1), σ2), .inl 0, .inr (some (.int r5), σ6), .inl 1] [E0 D 145 [.int a1, .int (1 : Int32), .int (5 : Int32)] σ (some (.int r1)) σ2, ¬ (r1 = 0), E0 D 145 [.int a2, .int (0 : Int32), .int (10 : Int32)] σ2 (some (.int r5)) σ6, r5 = 0] rfl ⟨(ww_Md_in D (by omega) a1 (1 : Int32) (5 : Int32) σ r1 σ2 h3), h4, (ww_Md_in D (by omega) a2 (0 : Int32) (10 : Int32) σ2 r5 σ6 h7), h8, trivial⟩
    · obtain ⟨r9, σ10, h11, hf⟩ := z_bd_inv hf
      rcases z_if_inv hf with ⟨h12, hf⟩ | ⟨h12, hf⟩
      · obtain ⟨e1, e2⟩ := z_ret hf
        subst e1
        subst e2
        exact gx_end 17 [.inr (some (.int r1), σ2), .inl 0, .inr (some (.int r5), σ6), .inl 0, .inr (some (.int r9), σ10), .inl 1] [E0 D 145 [.int a1, .int (1 : Int32), .int (5 : Int32)] σ (some (.int r1)) σ2, ¬ (r1 = 0), E0 D 145 [.int a2, .int (0 : Int32), .int (10 : Int32)] σ2 (some (.int r5)) σ6, ¬ (r5 = 0), E0 D 145 [.int a3, .int (0 : Int32), .int (15 : Int32)] σ6 (some (.int r9)) σ10, r9 = 0] rfl ⟨(ww_Md_in D (by omega) a1 (1 : Int32) (5 : Int32) σ r1 σ2 h3), h4, (ww_Md_in D (by omega) a2 (0 : Int32) (10 : Int32) σ2 r5 σ6 h7), h8, (ww_Md_in D (by omega) a3 (0 : Int32) (15 : Int32) σ6 r9 σ10 h11), h12, trivial⟩
      · rcases z_if_inv hf with ⟨h13, hf⟩ | ⟨h13, hf⟩
        · obtain ⟨e1, e2⟩ := z_ret hf
          subst e1
          subst e2
          exact gx_end 22 [.inr (some (.int r1), σ2), .inl 0, .inr (some (.int r5), σ6), .inl 0, .inr (some (.int r9), σ10), .inl 0, .inl 1] [E0 D 145 [.int a1, .int (1 : Int32), .int (5 : Int32)] σ (some (.int r1)) σ2, ¬ (r1 = 0), E0 D 145 [.int a2, .int (0 : Int32), .int (10 : Int32)] σ2 (some (.int r5)) σ6, ¬ (r5 = 0), E0 D 145 [.int a3, .int (0 : Int32), .int (15 : Int32)] σ6 (some (.int r9)) σ10, ¬ (r9 = 0), (15 : Int32) < (a1 * a3)] rfl ⟨(ww_Md_in D (by omega) a1 (1 : Int32) (5 : Int32) σ r1 σ2 h3), h4, (ww_Md_in D (by omega) a2 (0 : Int32) (10 : Int32) σ2 r5 σ6 h7), h8, (ww_Md_in D (by omega) a3 (0 : Int32) (15 : Int32) σ6 r9 σ10 h11), h12, h13, trivial⟩
        · obtain ⟨r14, σ15, h16, hf⟩ := z_bd_inv hf
          rcases z_if_inv hf with ⟨h17, hf⟩ | ⟨h17, hf⟩
          · obtain ⟨e1, e2⟩ := z_ret hf
            subst e1
            subst e2
            exact gx_end 27 [.inr (some (.int r1), σ2), .inl 0, .inr (some (.int r5), σ6), .inl 0, .inr (some (.int r9), σ10), .inl 0, .inl 0, .inr (some (.int r14), σ15), .inl 0] [E0 D 145 [.int a1, .int (1 : Int32), .int (5 : Int32)] σ (some (.int r1)) σ2, ¬ (r1 = 0), E0 D 145 [.int a2, .int (0 : Int32), .int (10 : Int32)] σ2 (some (.int r5)) σ6, ¬ (r5 = 0), E0 D 145 [.int a3, .int (0 : Int32), .int (15 : Int32)] σ6 (some (.int r9)) σ10, ¬ (r9 = 0), ¬ ((15 : Int32) < (a1 * a3)), E0 D 145 [.int a4, .int (0 : Int32), .int (5 : Int32)] σ10 (some (.int r14)) σ15, ¬ ¬ (r14 = 0)] rfl ⟨(ww_Md_in D (by omega) a1 (1 : Int32) (5 : Int32) σ r1 σ2 h3), h4, (ww_Md_in D (by omega) a2 (0 : Int32) (10 : Int32) σ2 r5 σ6 h7), h8, (ww_Md_in D (by omega) a3 (0 : Int32) (15 : Int32) σ6 r9 σ10 h11), h12, h13, (ww_Md_in D (by omega) a4 (0 : Int32) (5 : Int32) σ10 r14 σ15 h16), (fun q => q h17), trivial⟩
          · obtain ⟨r18, σ19, h20, hf⟩ := z_bd_inv hf
            obtain ⟨r21, σ22, h23, hf⟩ := z_bd_inv hf
            exact gx_go_ 42 [.inr (some (.int r1), σ2), .inl 0, .inr (some (.int r5), σ6), .inl 0, .inr (some (.int r9), σ10), .inl 0, .inl 0, .inr (some (.int r14), σ15), .inl 1, .inr (some (.long r18), σ19), .inr (some (.long r21), σ22)] [E0 D 145 [.int a1, .int (1 : Int32), .int (5 : Int32)] σ (some (.int r1)) σ2, ¬ (r1 = 0), E0 D 145 [.int a2, .int (0 : Int32), .int (10 : Int32)] σ2 (some (.int r5)) σ6, ¬ (r5 = 0), E0 D 145 [.int a3, .int (0 : Int32), .int (15 : Int32)] σ6 (some (.int r9)) σ10, ¬ (r9 = 0), ¬ ((15 : Int32) < (a1 * a3)), E0 D 145 [.int a4, .int (0 : Int32), .int (5 : Int32)] σ10 (some (.int r14)) σ15, ¬ (r14 = 0), E0 D 255 [.long ((10 : Int64) - a2.toInt64), .int a3] σ15 (some (.long r18)) σ19, E0 D 255 [.long (10 : Int64), .int a3] σ19 (some (.long r21)) σ22] 44 [.ref 109, .int a1, .int a2, .int a3, .int a4, .int a5, .long r18, .null, .long (r21 - r18), .null, .long (0 : Int64), .null, .int a4, .null, .null, .null] [] σ22 rfl ⟨(ww_Md_in D (by omega) a1 (1 : Int32) (5 : Int32) σ r1 σ2 h3), h4, (ww_Md_in D (by omega) a2 (0 : Int32) (10 : Int32) σ2 r5 σ6 h7), h8, (ww_Md_in D (by omega) a3 (0 : Int32) (15 : Int32) σ6 r9 σ10 h11), h12, h13, (ww_Md_in D (by omega) a4 (0 : Int32) (5 : Int32) σ10 r14 σ15 h16), h17, (ww_Md_power D (by omega) ((10 : Int64) - a2.toInt64) a3 σ15 r18 σ19 h20), (ww_Md_power D (by omega) (10 : Int64) a3 σ19 r21 σ22 h23), trivial⟩ (gx_fgt (ls' := [.null, .int a1, .null, .int a3, .null, .int a5, .long r18, .null, .long (r21 - r18), .null, .long (0 : Int64), .null, .int a4, .null, .null, .null]) ⟨Or.inl rfl, Or.inr rfl, Or.inl rfl, Or.inr rfl, Or.inl rfl, Or.inr rfl, Or.inr rfl, Or.inl rfl, Or.inr rfl, Or.inl rfl, Or.inr rfl, Or.inl rfl, Or.inr rfl, Or.inl rfl, Or.inl rfl, Or.inl rfl, trivial⟩ (vv_Md_enough_44 D hD rr σ' z_FU a1 a3 a5 r18 (r21 - r18) (0 : Int64) a4 σ22 hf))
set_option maxHeartbeats 16000000 in
set_option maxRecDepth 20000 in
theorem ww_Md_enough (D : Nat) (hD : 2 ≤ D) (a1 : Int32) (a2 : Int32) (a3 : Int32) (a4 : Int32) (a5 : Int32) (σ : gx_R) (rr : Int64) (σ' : gx_R) (hf : Md_enough a1 a2 a3 a4 a5 σ = some (rr, σ')) : E0 D 258 [.ref 109, .int a1, .int a2, .int a3, .int a4, .int a5] σ (some (.long rr)) σ' := by
  cases D with
  | zero => omega
  | succ D => exact Or.inl ⟨Nat.le_of_ble_eq_true rfl, vv_Md_enough_E D hD rr σ' a1 a2 a3 a4 a5 σ hf⟩
set_option maxHeartbeats 16000000 in
set_option maxRecDepth 20000 in
theorem vv_Md_isInRound_2_B (D : Nat) (hD : 1 ≤ D + 1) (rr : Int32) (σ' : gx_R) (K2 : Int32 → Int32 → Int32 → gx_R → Option (Int32 × gx_R)) (hK2 : ∀ (a1 : Int32) (a2 : Int32) (a3 : Int32) (σ : gx_R), K2 a1 a2 a3 σ = some (rr, σ') → gx_Ev lay0 (E0 D) tt_259 (some (.int rr)) σ' 2 [.ref 109, .int a1, .int a2, .int a3] [] σ) (a1 : Int32) (a2 : Int32) (a3 : Int32) (σ : gx_R) (hf : Md_isInRound_2_B K2 a1 a2 a3 σ = some (rr, σ')) : gx_Ev lay0 (E0 D) tt_259 (some (.int rr)) σ' 2 [.ref 109, .int a1, .int a2, .int a3] [] σ := by
  unfold Md_isInRound_2_B at hf
  rcases z_if_inv hf with ⟨h1, hf⟩ | ⟨h1, hf⟩
  · obtain ⟨e1, e2⟩ := z_ret hf
    subst e1
    subst e2
    exact gx_end 5 [.inl 1] [a2 ≤ a3, (0 : Int32) &&& 1 = (0 : Int32)] rfl ⟨h1, rfl, trivial⟩
  · obtain ⟨h2, hf⟩ := z_ck_inv hf
    rcases z_if_inv hf with ⟨h3, hf⟩ | ⟨h3, hf⟩
    · obtain ⟨e1, e2⟩ := z_ret hf
      subst e1
      subst e2
      exact gx_end 11 [.inl 0, .inl 0] [¬ (a2 ≤ a3), vp_in a3 8, ¬ ¬ ((σ 151 a3.toNatClampNeg) = a1), (1 : Int32) &&& 1 = (1 : Int32)] rfl ⟨h1, (z_ix_in h2), (fun q => q h3), rfl, trivial⟩
    · exact gx_go_ 11 [.inl 0, .inl 1] [¬ (a2 ≤ a3), vp_in a3 8, ¬ ((σ 151 a3.toNatClampNeg) = a1)] 2 [.ref 109, .int a1, .int a2, .int (a3 + 1)] [] σ rfl ⟨h1, (z_ix_in h2), h3, trivial⟩ (gx_fgt (ls' := [.ref 109, .int a1, .int a2, .int (a3 + 1)]) ⟨Or.inr rfl, Or.inr rfl, Or.inr rfl, Or.inr rfl, trivial⟩ (hK2 a1 a2 (a3 + 1) σ hf))
set_option maxHeartbeats 16000000 in
set_option maxRecDepth 20000 in
theorem vv_Md_isInRound_2 (D : Nat) (hD : 1 ≤ D + 1) (rr : Int32) (σ' : gx_R) : ∀ (n : Nat) (a1 : Int32) (a2 : Int32) (a3 : Int32) (σ : gx_R), Md_isInRound_2 n a1 a2 a3 σ = some (rr, σ') → gx_Ev lay0 (E0 D) tt_259 (some (.int rr)) σ' 2 [.ref 109, .int a1, .int a2, .int a3] [] σ := by
  intro n
  induction n with
  | zero => intro a1 a2 a3 σ  hf; cases hf
  | succ n ih => intro a1 a2 a3 σ  hf; exact vv_Md_isInRound_2_B D hD rr σ'  (Md_isInRound_2 n) ih a1 a2 a3 σ  hf
set_option maxHeartbeats 16000000 in
set_option maxRecDepth 20000 in
theorem vv_Md_isInRound_E (D : Nat) (hD : 1 ≤ D + 1) (rr : Int32) (σ' : gx_R) (a1 : Int32) (a2 : Int32) (σ : gx_R) (hf : Md_isInRound a1 a2 σ = some (rr, σ')) : gx_Ev lay0 (E0 D) tt_259 (some (.int rr)) σ' 0 [.ref 109, .int a1, .int a2, .null] [] σ := by
  unfold Md_isInRound at hf
  exact gx_go_ 2 [] [] 2 [.ref 109, .int a1, .int a2, .int (0 : Int32)] [] σ rfl trivial (gx_fgt (ls' := [.ref 109, .int a1, .int a2, .int (0 : Int32)]) ⟨Or.inr rfl, Or.inr rfl, Or.inr rfl, Or.inr rfl, trivial⟩ (vv_Md_isInRound_2 D hD rr σ' z_FU a1 a2 (0 : Int32) σ hf))
set_option maxHeartbeats 16000000 in
set_option maxRecDepth 20000 in
theorem ww_Md_isInRound (D : Nat) (hD : 1 ≤ D) (a1 : Int32) (a2 : Int32) (σ : gx_R) (rr : Int32) (σ' : gx_R) (hf : Md_isInRound a1 a2 σ = some (rr, σ')) : E0 D 259 [.ref 109, .int a1, .int a2] σ (some (.int rr)) σ' := by
  cases D with
  | zero => omega
  | succ D => exact Or.inl ⟨Nat.le_of_ble_eq_true rfl, vv_Md_isInRound_E D hD rr σ' a1 a2 σ hf⟩
set_option maxHeartbeats 16000000 in
set_option maxRecDepth 20000 in
theorem vv_Md_isRing_12_B (D : Nat) (hD : 2 ≤ D + 1) (rr : Int32) (σ' : gx_R) (K12 : Int32 → Int32 → Int32 → gx_R → Option (Int32 × gx_R)) (hK12 : ∀ (a1 : Int32) (a2 : Int32) (a3 : Int32) (σ : gx_R), K12 a1 a2 a3 σ = some (rr, σ') → gx_Ev lay0 (E0 D) tt_260 (some (.int rr)) σ' 12 [.ref 109, .int a1, .int a2, .int a3] [] σ) (a1 : Int32) (a2 : Int32) (a3 : Int32) (σ : gx_R) (hf : Md_isRing_12_B K12 a1 a2 a3 σ = some (rr, σ')) : gx_Ev lay0 (E0 D) tt_260 (some (.int rr)) σ' 12 [.ref 109, .int a1, .int a2, .int a3] [] σ := by
  unfold Md_isRing_12_B at hf
  rcases z_if_inv hf with ⟨h1, hf⟩ | ⟨h1, hf⟩
  · obtain ⟨e1, e2⟩ := z_ret hf
    subst e1
    subst e2
    exact gx_end 4 [.inl 1] [a3 ≤ 0, (0 : Int32) &&& 1 = (0 : Int32)] rfl ⟨h1, rfl, trivial⟩
  · obtain ⟨h2, hf⟩ := z_ck_inv hf
    obtain ⟨h3, hf⟩ := z_ck_inv hf
    obtain ⟨h4, hf⟩ := z_ck_inv hf
    rcases z_if_inv hf with ⟨h5, hf⟩ | ⟨h5, hf⟩
    · obtain ⟨h6, hf⟩ := z_ck_inv hf
      obtain ⟨r7, σ8, h9, hf⟩ := z_bd_inv hf
      rcases z_if_inv hf with ⟨h10, hf⟩ | ⟨h10, hf⟩
      · obtain ⟨h11, hf⟩ := z_ck_inv hf
        obtain ⟨h12, hf⟩ := z_ck_inv hf
        obtain ⟨h13, hf⟩ := z_ck_inv hf
        rcases z_if_inv hf with ⟨h14, hf⟩ | ⟨h14, hf⟩
        · exact gx_go_ 46 [.inl 0, .inl 1, .inr (some (.int r7), σ8), .inl 0, .inl 1] [¬ (a3 ≤ 0), vp_in a3 8, vp_in a3 8, vp_in a3 8, vp_in (0 : Int32) 8880, ((gx_up σ 151 a3.toNatClampNeg ((σ 151 a3.toNatClampNeg) + (1 : Int32))) 151 a3.toNatClampNeg) < ((gx_up σ 151 a3.toNatClampNeg ((σ 151 a3.toNatClampNeg) + (1 : Int32))) 110 ((0 : Int32).toNatClampNeg)), vp_in a3 8, E0 D 259 [.ref 109, .int ((gx_up σ 151 a3.toNatClampNeg ((σ 151 a3.toNatClampNeg) + (1 : Int32))) 151 a3.toNatClampNeg), .int a3] (gx_up σ 151 a3.toNatClampNeg ((σ 151 a3.toNatClampNeg) + (1 : Int32))) (some (.int r7)) σ8, ¬ ¬ (r7 = 0), vp_in (a3 - (1 : Int32)) 8, vp_in a3 8, vp_in (((98 : Int32) + ((8 : Int32) * (σ8 151 ((a3 - (1 : Int32)).toNatClampNeg)))) + (σ8 151 a3.toNatClampNeg)) 8880, (σ8 110 ((((98 : Int32) + ((8 : Int32) * (σ8 151 ((a3 - (1 : Int32)).toNatClampNeg)))) + (σ8 151 a3.toNatClampNeg)).toNatClampNeg)) ≤ 0] 12 [.ref 109, .int a1, .int a2, .int a3] [] σ8 rfl ⟨h1, (z_ix_in h2), (z_ix_in h3), (z_ix_in h4), (z_ix_in rfl), h5, (z_ix_in h6), (ww_Md_isInRound D (by omega) ((gx_up σ 151 a3.toNatClampNeg ((σ 151 a3.toNatClampNeg) + (1 : Int32))) 151 a3.toNatClampNeg) a3 (gx_up σ 151 a3.toNatClampNeg ((σ 151 a3.toNatClampNeg) + (1 : Int32))) r7 σ8 h9), (fun q => q h10), (z_ix_in h11), (z_ix_in h12), (z_ix_in h13), h14, trivial⟩ (gx_fgt (ls' := [.ref 109, .int a1, .int a2, .int a3]) ⟨Or.inr rfl, Or.inr rfl, Or.inr rfl, Or.inr rfl, trivial⟩ (hK12 a1 a2 a3 σ8 hf))
        · rcases z_if_inv hf with ⟨h15, hf⟩ | ⟨h15, hf⟩
          · obtain ⟨h16, hf⟩ := z_ck_inv hf
            obtain ⟨h17, hf⟩ := z_ck_inv hf
            rcases z_if_inv hf with ⟨h18, hf⟩ | ⟨h18, hf⟩
            · exact gx_go_ 65 [.inl 0, .inl 1, .inr (some (.int r7), σ8), .inl 0, .inl 0, .inl 0, .inl 1] [¬ (a3 ≤ 0), vp_in a3 8, vp_in a3 8, vp_in a3 8, vp_in (0 : Int32) 8880, ((gx_up σ 151 a3.toNatClampNeg ((σ 151 a3.toNatClampNeg) + (1 : Int32))) 151 a3.toNatClampNeg) < ((gx_up σ 151 a3.toNatClampNeg ((σ 151 a3.toNatClampNeg) + (1 : Int32))) 110 ((0 : Int32).toNatClampNeg)), vp_in a3 8, E0 D 259 [.ref 109, .int ((gx_up σ 151 a3.toNatClampNeg ((σ 151 a3.toNatClampNeg) + (1 : Int32))) 151 a3.toNatClampNeg), .int a3] (gx_up σ 151 a3.toNatClampNeg ((σ 151 a3.toNatClampNeg) + (1 : Int32))) (some (.int r7)) σ8, ¬ ¬ (r7 = 0), vp_in (a3 - (1 : Int32)) 8, vp_in a3 8, vp_in (((98 : Int32) + ((8 : Int32) * (σ8 151 ((a3 - (1 : Int32)).toNatClampNeg)))) + (σ8 151 a3.toNatClampNeg)) 8880, ¬ ((σ8 110 ((((98 : Int32) + ((8 : Int32) * (σ8 151 ((a3 - (1 : Int32)).toNatClampNeg)))) + (σ8 151 a3.toNatClampNeg)).toNatClampNeg)) ≤ 0), ¬ ¬ (a3 = (a2 - (1 : Int32))), vp_in a3 8, vp_in (((98 : Int32) + ((8 : Int32) * (σ8 151 a3.toNatClampNeg))) + a1) 8880, (σ8 110 ((((98 : Int32) + ((8 : Int32) * (σ8 151 a3.toNatClampNeg))) + a1).toNatClampNeg)) ≤ 0] 12 [.ref 109, .int a1, .int a2, .int a3] [] σ8 rfl ⟨h1, (z_ix_in h2), (z_ix_in h3), (z_ix_in h4), (z_ix_in rfl), h5, (z_ix_in h6), (ww_Md_isInRound D (by omega) ((gx_up σ 151 a3.toNatClampNeg ((σ 151 a3.toNatClampNeg) + (1 : Int32))) 151 a3.toNatClampNeg) a3 (gx_up σ 151 a3.toNatClampNeg ((σ 151 a3.toNatClampNeg) + (1 : Int32))) r7 σ8 h9), (fun q => q h10), (z_ix_in h11), (z_ix_in h12), (z_ix_in h13), h14, (fun q => q h15), (z_ix_in h16), (z_ix_in h17), h18, trivial⟩ (gx_fgt (ls' := [.ref 109, .int a1, .int a2, .int a3]) ⟨Or.inr rfl, Or.inr rfl, Or.inr rfl, Or.inr rfl, trivial⟩ (hK12 a1 a2 a3 σ8 hf))
            · obtain ⟨e1, e2⟩ := z_ret hf
              subst e1
              subst e2
              exact gx_end 67 [.inl 0, .inl 1, .inr (some (.int r7), σ8), .inl 0, .inl 0, .inl 0, .inl 0] [¬ (a3 ≤ 0), vp_in a3 8, vp_in a3 8, vp_in a3 8, vp_in (0 : Int32) 8880, ((gx_up σ 151 a3.toNatClampNeg ((σ 151 a3.toNatClampNeg) + (1 : Int32))) 151 a3.toNatClampNeg) < ((gx_up σ 151 a3.toNatClampNeg ((σ 151 a3.toNatClampNeg) + (1 : Int32))) 110 ((0 : Int32).toNatClampNeg)), vp_in a3 8, E0 D 259 [.ref 109, .int ((gx_up σ 151 a3.toNatClampNeg ((σ 151 a3.toNatClampNeg) + (1 : Int32))) 151 a3.toNatClampNeg), .int a3] (gx_up σ 151 a3.toNatClampNeg ((σ 151 a3.toNatClampNeg) + (1 : Int32))) (some (.int r7)) σ8, ¬ ¬ (r7 = 0), vp_in (a3 - (1 : Int32)) 8, vp_in a3 8, vp_in (((98 : Int32) + ((8 : Int32) * (σ8 151 ((a3 - (1 : Int32)).toNatClampNeg)))) + (σ8 151 a3.toNatClampNeg)) 8880, ¬ ((σ8 110 ((((98 : Int32) + ((8 : Int32) * (σ8 151 ((a3 - (1 : Int32)).toNatClampNeg)))) + (σ8 151 a3.toNatClampNeg)).toNatClampNeg)) ≤ 0), ¬ ¬ (a3 = (a2 - (1 : Int32))), vp_in a3 8, vp_in (((98 : Int32) + ((8 : Int32) * (σ8 151 a3.toNatClampNeg))) + a1) 8880, ¬ ((σ8 110 ((((98 : Int32) + ((8 : Int32) * (σ8 151 a3.toNatClampNeg))) + a1).toNatClampNeg)) ≤ 0), (1 : Int32) &&& 1 = (1 : Int32)] rfl ⟨h1, (z_ix_in h2), (z_ix_in h3), (z_ix_in h4), (z_ix_in rfl), h5, (z_ix_in h6), (ww_Md_isInRound D (by omega) ((gx_up σ 151 a3.toNatClampNeg ((σ 151 a3.toNatClampNeg) + (1 : Int32))) 151 a3.toNatClampNeg) a3 (gx_up σ 151 a3.toNatClampNeg ((σ 151 a3.toNatClampNeg) + (1 : Int32))) r7 σ8 h9), (fun q => q h10), (z_ix_in h11), (z_ix_in h12), (z_ix_in h13), h14, (fun q => q h15), (z_ix_in h16), (z_ix_in h17), h18, rfl, trivial⟩
          · obtain ⟨h19, hf⟩ := z_ck_inv hf
            exact gx_go_ 58 [.inl 0, .inl 1, .inr (some (.int r7), σ8), .inl 0, .inl 0, .inl 1] [¬ (a3 ≤ 0), vp_in a3 8, vp_in a3 8, vp_in a3 8, vp_in (0 : Int32) 8880, ((gx_up σ 151 a3.toNatClampNeg ((σ 151 a3.toNatClampNeg) + (1 : Int32))) 151 a3.toNatClampNeg) < ((gx_up σ 151 a3.toNatClampNeg ((σ 151 a3.toNatClampNeg) + (1 : Int32))) 110 ((0 : Int32).toNatClampNeg)), vp_in a3 8, E0 D 259 [.ref 109, .int ((gx_up σ 151 a3.toNatClampNeg ((σ 151 a3.toNatClampNeg) + (1 : Int32))) 151 a3.toNatClampNeg), .int a3] (gx_up σ 151 a3.toNatClampNeg ((σ 151 a3.toNatClampNeg) + (1 : Int32))) (some (.int r7)) σ8, ¬ ¬ (r7 = 0), vp_in (a3 - (1 : Int32)) 8, vp_in a3 8, vp_in (((98 : Int32) + ((8 : Int32) * (σ8 151 ((a3 - (1 : Int32)).toNatClampNeg)))) + (σ8 151 a3.toNatClampNeg)) 8880, ¬ ((σ8 110 ((((98 : Int32) + ((8 : Int32) * (σ8 151 ((a3 - (1 : Int32)).toNatClampNeg)))) + (σ8 151 a3.toNatClampNeg)).toNatClampNeg)) ≤ 0), ¬ (a3 = (a2 - (1 : Int32))), vp_in (a3 + 1) 8] 12 [.ref 109, .int a1, .int a2, .int (a3 + 1)] [] (gx_up σ8 151 (a3 + 1).toNatClampNeg a1) rfl ⟨h1, (z_ix_in h2), (z_ix_in h3), (z_ix_in h4), (z_ix_in rfl), h5, (z_ix_in h6), (ww_Md_isInRound D (by omega) ((gx_up σ 151 a3.toNatClampNeg ((σ 151 a3.toNatClampNeg) + (1 : Int32))) 151 a3.toNatClampNeg) a3 (gx_up σ 151 a3.toNatClampNeg ((σ 151 a3.toNatClampNeg) + (1 : Int32))) r7 σ8 h9), (fun q => q h10), (z_ix_in h11), (z_ix_in h12), (z_ix_in h13), h14, h15, (z_ix_in h19), trivial⟩ (gx_fgt (ls' := [.ref 109, .int a1, .int a2, .int (a3 + 1)]) ⟨Or.inr rfl, Or.inr rfl, Or.inr rfl, Or.inr rfl, trivial⟩ (hK12 a1 a2 (a3 + 1) (gx_up σ8 151 (a3 + 1).toNatClampNeg a1) hf))
      · exact gx_go_ 27 [.inl 0, .inl 1, .inr (some (.int r7), σ8), .inl 1] [¬ (a3 ≤ 0), vp_in a3 8, vp_in a3 8, vp_in a3 8, vp_in (0 : Int32) 8880, ((gx_up σ 151 a3.toNatClampNeg ((σ 151 a3.toNatClampNeg) + (1 : Int32))) 151 a3.toNatClampNeg) < ((gx_up σ 151 a3.toNatClampNeg ((σ 151 a3.toNatClampNeg) + (1 : Int32))) 110 ((0 : Int32).toNatClampNeg)), vp_in a3 8, E0 D 259 [.ref 109, .int ((gx_up σ 151 a3.toNatClampNeg ((σ 151 a3.toNatClampNeg) + (1 : Int32))) 151 a3.toNatClampNeg), .int a3] (gx_up σ 151 a3.toNatClampNeg ((σ 151 a3.toNatClampNeg) + (1 : Int32))) (some (.int r7)) σ8, ¬ (r7 = 0)] 12 [.ref 109, .int a1, .int a2, .int a3] [] σ8 rfl ⟨h1, (z_ix_in h2), (z_ix_in h3), (z_ix_in h4), (z_ix_in rfl), h5, (z_ix_in h6), (ww_Md_isInRound D (by omega) ((gx_up σ 151 a3.toNatClampNeg ((σ 151 a3.toNatClampNeg) + (1 : Int32))) 151 a3.toNatClampNeg) a3 (gx_up σ 151 a3.toNatClampNeg ((σ 151 a3.toNatClampNeg) + (1 : Int32))) r7 σ8 h9), h10, trivial⟩ (gx_fgt (ls' := [.ref 109, .int a1, .int a2, .int a3]) ⟨Or.inr rfl, Or.inr rfl, Or.inr rfl, Or.inr rfl, trivial⟩ (hK12 a1 a2 a3 σ8 hf))
    · exact gx_go_ 21 [.inl 0, .inl 0] [¬ (a3 ≤ 0), vp_in a3 8, vp_in a3 8, vp_in a3 8, vp_in (0 : Int32) 8880, ¬ (((gx_up σ 151 a3.toNatClampNeg ((σ 151 a3.toNatClampNeg) + (1 : Int32))) 151 a3.toNatClampNeg) < ((gx_up σ 151 a3.toNatClampNeg ((σ 151 a3.toNatClampNeg) + (1 : Int32))) 110 ((0 : Int32).toNatClampNeg)))] 12 [.ref 109, .int a1, .int a2, .int (a3 + (-1))] [] (gx_up σ 151 a3.toNatClampNeg ((σ 151 a3.toNatClampNeg) + (1 : Int32))) rfl ⟨h1, (z_ix_in h2), (z_ix_in h3), (z_ix_in h4), (z_ix_in rfl), h5, trivial⟩ (gx_fgt (ls' := [.ref 109, .int a1, .int a2, .int (a3 + (-1))]) ⟨Or.inr rfl, Or.inr rfl, Or.inr rfl, Or.inr rfl, trivial⟩ (hK12 a1 a2 (a3 + (-1)) (gx_up σ 151 a3.toNatClampNeg ((σ 151 a3.toNatClampNeg) + (1 : Int32))) hf))
set_option maxHeartbeats 16000000 in
set_option maxRecDepth 20000 in
theorem vv_Md_isRing_12 (D : Nat) (hD : 2 ≤ D + 1) (rr : Int32) (σ' : gx_R) : ∀ (n : Nat) (a1 : Int32) (a2 : Int32) (a3 : Int32) (σ : gx_R), Md_isRing_12 n a1 a2 a3 σ = some (rr, σ') → gx_Ev lay0 (E0 D) tt_260 (some (.int rr)) σ' 12 [.ref 109, .int a1, .int a2, .int a3] [] σ := by
  intro n
  induction n with
  | zero => intro a1 a2 a3 σ  hf; cases hf
  | succ n ih => intro a1 a2 a3 σ  hf; exact vv_Md_isRing_12_B D hD rr σ'  (Md_isRing_12 n) ih a1 a2 a3 σ  hf
set_option maxHeartbeats 16000000 in
set_option maxRecDepth 20000 in
theorem vv_Md_isRing_E (D : Nat) (hD : 2 ≤ D + 1) (rr : Int32) (σ' : gx_R) (a1 : Int32) (a2 : Int32) (σ : gx_R) (hf : Md_isRing a1 a2 σ = some (rr, σ')) : gx_Ev lay0 (E0 D) tt_260 (some (.int rr)) σ' 0 [.ref 109, .int a1, .int a2, .null] [] σ := by
  unfold Md_isRing at hf
  exact gx_go_ 12 [] [vp_in (0 : Int32) 8, vp_in (1 : Int32) 8] 12 [.ref 109, .int a1, .int a2, .int (1 : Int32)] [] (gx_up (gx_up σ 151 (0 : Int32).toNatClampNeg a1) 151 (1 : Int32).toNatClampNeg a1) rfl ⟨(z_ix_in rfl), (z_ix_in rfl), trivial⟩ (gx_fgt (ls' := [.ref 109, .int a1, .int a2, .int (1 : Int32)]) ⟨Or.inr rfl, Or.inr rfl, Or.inr rfl, Or.inr rfl, trivial⟩ (vv_Md_isRing_12 D hD rr σ' z_FU a1 a2 (1 : Int32) (gx_up (gx_up σ 151 (0 : Int32).toNatClampNeg a1) 151 (1 : Int32).toNatClampNeg a1) hf))
set_option maxHeartbeats 16000000 in
set_option maxRecDepth 20000 in
theorem ww_Md_isRing (D : Nat) (hD : 2 ≤ D) (a1 : Int32) (a2 : Int32) (σ : gx_R) (rr : Int32) (σ' : gx_R) (hf : Md_isRing a1 a2 σ = some (rr, σ')) : E0 D 260 [.ref 109, .int a1, .int a2] σ (some (.int rr)) σ' := by
  cases D with
  | zero => omega
  | succ D => exact Or.inl ⟨Nat.le_of_ble_eq_true rfl, vv_Md_isRing_E D hD rr σ' a1 a2 σ hf⟩
set_option maxHeartbeats 16000000 in
set_option maxRecDepth 20000 in
theorem vv_Md_laysRing_25 (D : Nat) (hD : 3 ≤ D + 1) (rr : Int32) (σ' : gx_R) (K2 : Int32 → gx_R → Option (Int32 × gx_R)) (hK2 : ∀ (a1 : Int32) (σ : gx_R), K2 a1 σ = some (rr, σ') → gx_Ev lay0 (E0 D) tt_261 (some (.int rr)) σ' 2 [.ref 109, .int a1, .null] [] σ) (a1 : Int32) (σ : gx_R) (hf : Md_laysRing_25 K2 a1 σ = some (rr, σ')) : gx_Ev lay0 (E0 D) tt_261 (some (.int rr)) σ' 25 [.ref 109, .int a1, .null] [] σ := by
  unfold Md_laysRing_25 at hf
  exact gx_go_ 2 [] [] 2 [.ref 109, .int (a1 + 1), .null] [] σ rfl trivial (gx_fgt (ls' := [.ref 109, .int (a1 + 1), .null]) ⟨Or.inr rfl, Or.inr rfl, Or.inl rfl, trivial⟩ (hK2 (a1 + 1) σ hf))
set_option maxHeartbeats 16000000 in
set_option maxRecDepth 20000 in
theorem vv_Md_laysRing_10_B (D : Nat) (hD : 3 ≤ D + 1) (rr : Int32) (σ' : gx_R) (K2 : Int32 → gx_R → Option (Int32 × gx_R)) (hK2 : ∀ (a1 : Int32) (σ : gx_R), K2 a1 σ = some (rr, σ') → gx_Ev lay0 (E0 D) tt_261 (some (.int rr)) σ' 2 [.ref 109, .int a1, .null] [] σ) (K10 : Int32 → Int32 → gx_R → Option (Int32 × gx_R)) (hK10 : ∀ (a1 : Int32) (a2 : Int32) (σ : gx_R), K10 a1 a2 σ = some (rr, σ') → gx_Ev lay0 (E0 D) tt_261 (some (.int rr)) σ' 10 [.ref 109, .int a1, .int a2] [] σ) (a1 : Int32) (a2 : Int32) (σ : gx_R) (hf : Md_laysRing_10_B K2 K10 a1 a2 σ = some (rr, σ')) : gx_Ev lay0 (E0 D) tt_261 (some (.int rr)) σ' 10 [.ref 109, .int a1, .int a2] [] σ := by
  unfold Md_laysRing_10_B at hf
  rcases z_if_inv hf with ⟨h1, hf⟩ | ⟨h1, hf⟩
  · exact gx_go_ 6 [.inl 1] [vp_in (0 : Int32) 8880, (σ 110 ((0 : Int32).toNatClampNeg)) ≤ a2] 25 [.ref 109, .int a1, .int a2] [] σ rfl ⟨(z_ix_in rfl), h1, trivial⟩ (gx_fgt (ls' := [.ref 109, .int a1, .null]) ⟨Or.inr rfl, Or.inr rfl, Or.inl rfl, trivial⟩ (vv_Md_laysRing_25 D hD rr σ' K2 hK2 a1 σ hf))
  · obtain ⟨r2, σ3, h4, hf⟩ := z_bd_inv hf
    rcases z_if_inv hf with ⟨h5, hf⟩ | ⟨h5, hf⟩
    · exact gx_go_ 13 [.inl 0, .inr (some (.int r2), σ3), .inl 1] [vp_in (0 : Int32) 8880, ¬ ((σ 110 ((0 : Int32).toNatClampNeg)) ≤ a2), E0 D 260 [.ref 109, .int a2, .int a1] σ (some (.int r2)) σ3, r2 = 0] 10 [.ref 109, .int a1, .int (a2 + 1)] [] σ3 rfl ⟨(z_ix_in rfl), h1, (ww_Md_isRing D (by omega) a2 a1 σ r2 σ3 h4), h5, trivial⟩ (gx_fgt (ls' := [.ref 109, .int a1, .int (a2 + 1)]) ⟨Or.inr rfl, Or.inr rfl, Or.inr rfl, trivial⟩ (hK10 a1 (a2 + 1) σ3 hf))
    · obtain ⟨e1, e2⟩ := z_ret hf
      subst e1
      subst e2
      exact gx_end 13 [.inl 0, .inr (some (.int r2), σ3), .inl 0] [vp_in (0 : Int32) 8880, ¬ ((σ 110 ((0 : Int32).toNatClampNeg)) ≤ a2), E0 D 260 [.ref 109, .int a2, .int a1] σ (some (.int r2)) σ3, ¬ (r2 = 0)] rfl ⟨(z_ix_in rfl), h1, (ww_Md_isRing D (by omega) a2 a1 σ r2 σ3 h4), h5, trivial⟩
set_option maxHeartbeats 16000000 in
set_option maxRecDepth 20000 in
theorem vv_Md_laysRing_10 (D : Nat) (hD : 3 ≤ D + 1) (rr : Int32) (σ' : gx_R) (K2 : Int32 → gx_R → Option (Int32 × gx_R)) (hK2 : ∀ (a1 : Int32) (σ : gx_R), K2 a1 σ = some (rr, σ') → gx_Ev lay0 (E0 D) tt_261 (some (.int rr)) σ' 2 [.ref 109, .int a1, .null] [] σ) : ∀ (n : Nat) (a1 : Int32) (a2 : Int32) (σ : gx_R), Md_laysRing_10 K2 n a1 a2 σ = some (rr, σ') → gx_Ev lay0 (E0 D) tt_261 (some (.int rr)) σ' 10 [.ref 109, .int a1, .int a2] [] σ := by
  intro n
  induction n with
  | zero => intro a1 a2 σ  hf; cases hf
  | succ n ih => intro a1 a2 σ  hf; exact vv_Md_laysRing_10_B D hD rr σ'  K2 hK2 (Md_laysRing_10 K2 n) ih a1 a2 σ  hf
set_option maxHeartbeats 16000000 in
set_option maxRecDepth 20000 in
theorem vv_Md_laysRing_2_B (D : Nat) (hD : 3 ≤ D + 1) (rr : Int32) (σ' : gx_R) (K2 : Int32 → gx_R → Option (Int32 × gx_R)) (hK2 : ∀ (a1 : Int32) (σ : gx_R), K2 a1 σ = some (rr, σ') → gx_Ev lay0 (E0 D) tt_261 (some (.int rr)) σ' 2 [.ref 109, .int a1, .null] [] σ) (a1 : Int32) (σ : gx_R) (hf : Md_laysRing_2_B K2 a1 σ = some (rr, σ')) : gx_Ev lay0 (E0 D) tt_261 (some (.int rr)) σ' 2 [.ref 109, .int a1, .null] [] σ := by
  unfold Md_laysRing_2_B at hf
  rcases z_if_inv hf with ⟨h1, hf⟩ | ⟨h1, hf⟩
  · obtain ⟨e1, e2⟩ := z_ret hf
    subst e1
    subst e2
    exact gx_end 8 [.inl 1] [vp_in (0 : Int32) 8880, (σ 110 ((0 : Int32).toNatClampNeg)) < a1] rfl ⟨(z_ix_in rfl), h1, trivial⟩
  · exact gx_go_ 8 [.inl 0] [vp_in (0 : Int32) 8880, ¬ ((σ 110 ((0 : Int32).toNatClampNeg)) < a1)] 10 [.ref 109, .int a1, .int (0 : Int32)] [] σ rfl ⟨(z_ix_in rfl), h1, trivial⟩ (gx_fgt (ls' := [.ref 109, .int a1, .int (0 : Int32)]) ⟨Or.inr rfl, Or.inr rfl, Or.inr rfl, trivial⟩ (vv_Md_laysRing_10 D hD rr σ' K2 hK2 z_FU a1 (0 : Int32) σ hf))
set_option maxHeartbeats 16000000 in
set_option maxRecDepth 20000 in
theorem vv_Md_laysRing_2 (D : Nat) (hD : 3 ≤ D + 1) (rr : Int32) (σ' : gx_R) : ∀ (n : Nat) (a1 : Int32) (σ : gx_R), Md_laysRing_2 n a1 σ = some (rr, σ') → gx_Ev lay0 (E0 D) tt_261 (some (.int rr)) σ' 2 [.ref 109, .int a1, .null] [] σ := by
  intro n
  induction n with
  | zero => intro a1 σ  hf; cases hf
  | succ n ih => intro a1 σ  hf; exact vv_Md_laysRing_2_B D hD rr σ'  (Md_laysRing_2 n) ih a1 σ  hf
set_option maxHeartbeats 16000000 in
set_option maxRecDepth 20000 in
theorem vv_Md_laysRing_E (D : Nat) (hD : 3 ≤ D + 1) (rr : Int32) (σ' : gx_R) (σ : gx_R) (hf : Md_laysRing  σ = some (rr, σ')) : gx_Ev lay0 (E0 D) tt_261 (some (.int rr)) σ' 0 [.ref 109, .null, .null] [] σ := by
  unfold Md_laysRing at hf
  exact gx_go_ 2 [] [] 2 [.ref 109, .int (2 : Int32), .null] [] σ rfl trivial (gx_fgt (ls' := [.ref 109, .int (2 : Int32), .null]) ⟨Or.inr rfl, Or.inr rfl, Or.inl rfl, trivial⟩ (vv_Md_laysRing_2 D hD rr σ' z_FU (2 : Int32) σ hf))
set_option maxHeartbeats 16000000 in
set_option maxRecDepth 20000 in
theorem ww_Md_laysRing (D : Nat) (hD : 3 ≤ D) (σ : gx_R) (rr : Int32) (σ' : gx_R) (hf : Md_laysRing  σ = some (rr, σ')) : E0 D 261 [.ref 109] σ (some (.int rr)) σ' := by
  cases D with
  | zero => omega
  | succ D => exact Or.inl ⟨Nat.le_of_ble_eq_true rfl, vv_Md_laysRing_E D hD rr σ' σ hf⟩
set_option maxHeartbeats 16000000 in
set_option maxRecDepth 20000 in
theorem vv_Md_ring_61 (D : Nat) (hD : 4 ≤ D + 1) (rr : Int32) (σ' : gx_R) (K31 : Int32 → Int32 → Int32 → gx_R → Option (Int32 × gx_R)) (hK31 : ∀ (a2 : Int32) (a3 : Int32) (a4 : Int32) (σ : gx_R), K31 a2 a3 a4 σ = some (rr, σ') → gx_Ev lay0 (E0 D) tt_262 (some (.int rr)) σ' 31 [.ref 109, .null, .int a2, .int a3, .int a4, .null] [] σ) (a2 : Int32) (a4 : Int32) (s0 : Int32) (σ : gx_R) (hf : Md_ring_61 K31 a2 a4 s0 σ = some (rr, σ')) : gx_Ev lay0 (E0 D) tt_262 (some (.int rr)) σ' 61 [.ref 109, .null, .int a2, .null, .int a4, .null] [.int s0] σ := by
  unfold Md_ring_61 at hf
  exact gx_go_ 3 [] [] 31 [.ref 109, .null, .int a2, .int s0, .int (a4 + 1), .null] [] σ rfl trivial (gx_fgt (ls' := [.ref 109, .null, .int a2, .int s0, .int (a4 + 1), .null]) ⟨Or.inr rfl, Or.inl rfl, Or.inr rfl, Or.inr rfl, Or.inr rfl, Or.inl rfl, trivial⟩ (hK31 a2 s0 (a4 + 1) σ hf))
set_option maxHeartbeats 16000000 in
set_option maxRecDepth 20000 in
theorem vv_Md_ring_31_B (D : Nat) (hD : 4 ≤ D + 1) (rr : Int32) (σ' : gx_R) (K31 : Int32 → Int32 → Int32 → gx_R → Option (Int32 × gx_R)) (hK31 : ∀ (a2 : Int32) (a3 : Int32) (a4 : Int32) (σ : gx_R), K31 a2 a3 a4 σ = some (rr, σ') → gx_Ev lay0 (E0 D) tt_262 (some (.int rr)) σ' 31 [.ref 109, .null, .int a2, .int a3, .int a4, .null] [] σ) (a2 : Int32) (a3 : Int32) (a4 : Int32) (σ : gx_R) (hf : Md_ring_31_B K31 a2 a3 a4 σ = some (rr, σ')) : gx_Ev lay0 (E0 D) tt_262 (some (.int rr)) σ' 31 [.ref 109, .null, .int a2, .int a3, .int a4, .null] [] σ := by
  unfold Md_ring_31_B at hf
  rcases z_if_inv hf with ⟨h1, hf⟩ | ⟨h1, hf⟩
  · obtain ⟨e1, e2⟩ := z_ret hf
    subst e1
    subst e2
    exact gx_end 5 [.inl 1] [a2 ≤ a4] rfl ⟨h1, trivial⟩
  · obtain ⟨h2, hf⟩ := z_ck_inv hf
    obtain ⟨h3, hf⟩ := z_ck_inv hf
    obtain ⟨h4, hf⟩ := z_ck_inv hf
    obtain ⟨h5, hf⟩ := z_ck_inv hf
    rcases z_if_inv hf with ⟨h6, hf⟩ | ⟨h6, hf⟩
    · exact gx_go_ 28 [.inl 0, .inl 1] [¬ (a2 ≤ a4), vp_in a4 8, ¬ a2 = 0, vp_in ((a4 + (1 : Int32)) - (a4 + (1 : Int32)) / a2 * a2) 8, vp_in (((98 : Int32) + ((8 : Int32) * (σ 151 a4.toNatClampNeg))) + (σ 151 (((a4 + (1 : Int32)) - (a4 + (1 : Int32)) / a2 * a2).toNatClampNeg))) 8880, a3 ≤ (σ 110 ((((98 : Int32) + ((8 : Int32) * (σ 151 a4.toNatClampNeg))) + (σ 151 (((a4 + (1 : Int32)) - (a4 + (1 : Int32)) / a2 * a2).toNatClampNeg))).toNatClampNeg))] 61 [.ref 109, .null, .int a2, .int a3, .int a4, .int (σ 110 ((((98 : Int32) + ((8 : Int32) * (σ 151 a4.toNatClampNeg))) + (σ 151 (((a4 + (1 : Int32)) - (a4 + (1 : Int32)) / a2 * a2).toNatClampNeg))).toNatClampNeg))] [.int a3] σ rfl ⟨h1, (z_ix_in h2), (z_nzi_in h3), (z_ix_in h4), (z_ix_in h5), h6, trivial⟩ (gx_fgt (ls' := [.ref 109, .null, .int a2, .null, .int a4, .null]) ⟨Or.inr rfl, Or.inl rfl, Or.inr rfl, Or.inl rfl, Or.inr rfl, Or.inl rfl, trivial⟩ (vv_Md_ring_61 D hD rr σ' K31 hK31 a2 a4 a3 σ hf))
    · exact gx_go_ 29 [.inl 0, .inl 0] [¬ (a2 ≤ a4), vp_in a4 8, ¬ a2 = 0, vp_in ((a4 + (1 : Int32)) - (a4 + (1 : Int32)) / a2 * a2) 8, vp_in (((98 : Int32) + ((8 : Int32) * (σ 151 a4.toNatClampNeg))) + (σ 151 (((a4 + (1 : Int32)) - (a4 + (1 : Int32)) / a2 * a2).toNatClampNeg))) 8880, ¬ (a3 ≤ (σ 110 ((((98 : Int32) + ((8 : Int32) * (σ 151 a4.toNatClampNeg))) + (σ 151 (((a4 + (1 : Int32)) - (a4 + (1 : Int32)) / a2 * a2).toNatClampNeg))).toNatClampNeg)))] 61 [.ref 109, .null, .int a2, .int a3, .int a4, .int (σ 110 ((((98 : Int32) + ((8 : Int32) * (σ 151 a4.toNatClampNeg))) + (σ 151 (((a4 + (1 : Int32)) - (a4 + (1 : Int32)) / a2 * a2).toNatClampNeg))).toNatClampNeg))] [.int (σ 110 ((((98 : Int32) + ((8 : Int32) * (σ 151 a4.toNatClampNeg))) + (σ 151 (((a4 + (1 : Int32)) - (a4 + (1 : Int32)) / a2 * a2).toNatClampNeg))).toNatClampNeg))] σ rfl ⟨h1, (z_ix_in h2), (z_nzi_in h3), (z_ix_in h4), (z_ix_in h5), h6, trivial⟩ (gx_fgt (ls' := [.ref 109, .null, .int a2, .null, .int a4, .null]) ⟨Or.inr rfl, Or.inl rfl, Or.inr rfl, Or.inl rfl, Or.inr rfl, Or.inl rfl, trivial⟩ (vv_Md_ring_61 D hD rr σ' K31 hK31 a2 a4 (σ 110 ((((98 : Int32) + ((8 : Int32) * (σ 151 a4.toNatClampNeg))) + (σ 151 (((a4 + (1 : Int32)) - (a4 + (1 : Int32)) / a2 * a2).toNatClampNeg))).toNatClampNeg)) σ hf))
set_option maxHeartbeats 16000000 in
set_option maxRecDepth 20000 in
theorem vv_Md_ring_31 (D : Nat) (hD : 4 ≤ D + 1) (rr : Int32) (σ' : gx_R) : ∀ (n : Nat) (a2 : Int32) (a3 : Int32) (a4 : Int32) (σ : gx_R), Md_ring_31 n a2 a3 a4 σ = some (rr, σ') → gx_Ev lay0 (E0 D) tt_262 (some (.int rr)) σ' 31 [.ref 109, .null, .int a2, .int a3, .int a4, .null] [] σ := by
  intro n
  induction n with
  | zero => intro a2 a3 a4 σ  hf; cases hf
  | succ n ih => intro a2 a3 a4 σ  hf; exact vv_Md_ring_31_B D hD rr σ'  (Md_ring_31 n) ih a2 a3 a4 σ  hf
set_option maxHeartbeats 16000000 in
set_option maxRecDepth 20000 in
theorem vv_Md_ring_E (D : Nat) (hD : 4 ≤ D + 1) (rr : Int32) (σ' : gx_R) (a1 : Int32) (σ : gx_R) (hf : Md_ring a1 σ = some (rr, σ')) : gx_Ev lay0 (E0 D) tt_262 (some (.int rr)) σ' 0 [.ref 109, .int a1, .null, .null, .null, .null] [] σ := by
  unfold Md_ring at hf
  obtain ⟨r1, σ2, h3, hf⟩ := z_bd_inv hf
  rcases z_if_inv hf with ⟨h4, hf⟩ | ⟨h4, hf⟩
  · obtain ⟨e1, e2⟩ := z_ret hf
    subst e1
    subst e2
    exact gx_end 8 [.inr (some (.int r1), σ2), .inl 1] [E0 D 261 [.ref 109] σ (some (.int r1)) σ2, r1 = (-1 : Int32)] rfl ⟨(ww_Md_laysRing D (by omega) σ r1 σ2 h3), h4, trivial⟩
  · rcases z_if_inv hf with ⟨h5, hf⟩ | ⟨h5, hf⟩
    · obtain ⟨e1, e2⟩ := z_ret hf
      subst e1
      subst e2
      exact gx_end 11 [.inr (some (.int r1), σ2), .inl 0, .inl 1] [E0 D 261 [.ref 109] σ (some (.int r1)) σ2, ¬ (r1 = (-1 : Int32)), a1 < (-2 : Int32)] rfl ⟨(ww_Md_laysRing D (by omega) σ r1 σ2 h3), h4, h5, trivial⟩
    · rcases z_if_inv hf with ⟨h6, hf⟩ | ⟨h6, hf⟩
      · rcases z_if_inv hf with ⟨h7, hf⟩ | ⟨h7, hf⟩
        · exact gx_go_ 19 [.inr (some (.int r1), σ2), .inl 0, .inl 0, .inl 1, .inl 1] [E0 D 261 [.ref 109] σ (some (.int r1)) σ2, ¬ (r1 = (-1 : Int32)), ¬ (a1 < (-2 : Int32)), a1 < r1, a1 < (-1 : Int32)] 31 [.ref 109, .int a1, .int r1, .int (99 : Int32), .int (0 : Int32), .null] [] σ2 rfl ⟨(ww_Md_laysRing D (by omega) σ r1 σ2 h3), h4, h5, h6, h7, trivial⟩ (gx_fgt (ls' := [.ref 109, .null, .int r1, .int (99 : Int32), .int (0 : Int32), .null]) ⟨Or.inr rfl, Or.inl rfl, Or.inr rfl, Or.inr rfl, Or.inr rfl, Or.inl rfl, trivial⟩ (vv_Md_ring_31 D hD rr σ' z_FU r1 (99 : Int32) (0 : Int32) σ2 hf))
        · rcases z_if_inv hf with ⟨h8, hf⟩ | ⟨h8, hf⟩
          · obtain ⟨e1, e2⟩ := z_ret hf
            subst e1
            subst e2
            exact gx_end 21 [.inr (some (.int r1), σ2), .inl 0, .inl 0, .inl 1, .inl 0, .inl 0] [E0 D 261 [.ref 109] σ (some (.int r1)) σ2, ¬ (r1 = (-1 : Int32)), ¬ (a1 < (-2 : Int32)), a1 < r1, ¬ (a1 < (-1 : Int32)), ¬ ¬ (a1 = (-1 : Int32))] rfl ⟨(ww_Md_laysRing D (by omega) σ r1 σ2 h3), h4, h5, h6, h7, (fun q => q h8), trivial⟩
          · obtain ⟨h9, hf⟩ := z_ck_inv hf
            obtain ⟨e1, e2⟩ := z_ret hf
            subst e1
            subst e2
            exact gx_end 23 [.inr (some (.int r1), σ2), .inl 0, .inl 0, .inl 1, .inl 0, .inl 1] [E0 D 261 [.ref 109] σ (some (.int r1)) σ2, ¬ (r1 = (-1 : Int32)), ¬ (a1 < (-2 : Int32)), a1 < r1, ¬ (a1 < (-1 : Int32)), ¬ (a1 = (-1 : Int32)), vp_in a1 8] rfl ⟨(ww_Md_laysRing D (by omega) σ r1 σ2 h3), h4, h5, h6, h7, h8, (z_ix_in h9), trivial⟩
      · obtain ⟨e1, e2⟩ := z_ret hf
        subst e1
        subst e2
        exact gx_end 14 [.inr (some (.int r1), σ2), .inl 0, .inl 0, .inl 0] [E0 D 261 [.ref 109] σ (some (.int r1)) σ2, ¬ (r1 = (-1 : Int32)), ¬ (a1 < (-2 : Int32)), ¬ (a1 < r1)] rfl ⟨(ww_Md_laysRing D (by omega) σ r1 σ2 h3), h4, h5, h6, trivial⟩
set_option maxHeartbeats 16000000 in
set_option maxRecDepth 20000 in
theorem ww_Md_ring (D : Nat) (hD : 4 ≤ D) (a1 : Int32) (σ : gx_R) (rr : Int32) (σ' : gx_R) (hf : Md_ring a1 σ = some (rr, σ')) : E0 D 262 [.ref 109, .int a1] σ (some (.int rr)) σ' := by
  cases D with
  | zero => omega
  | succ D => exact Or.inl ⟨Nat.le_of_ble_eq_true rfl, vv_Md_ring_E D hD rr σ' a1 σ hf⟩
set_option maxHeartbeats 16000000 in
set_option maxRecDepth 20000 in
theorem vv_Md_stopsWithout_39 (D : Nat) (hD : 6 ≤ D + 1) (rr : Int32) (σ' : gx_R) (K4 : Int32 → Int32 → Int32 → gx_R → Option (Int32 × gx_R)) (hK4 : ∀ (a1 : Int32) (a2 : Int32) (a3 : Int32) (σ : gx_R), K4 a1 a2 a3 σ = some (rr, σ') → gx_Ev lay0 (E0 D) tt_263 (some (.int rr)) σ' 4 [.ref 109, .int a1, .int a2, .int a3] [] σ) (a1 : Int32) (a2 : Int32) (a3 : Int32) (σ : gx_R) (hf : Md_stopsWithout_39 K4 a1 a2 a3 σ = some (rr, σ')) : gx_Ev lay0 (E0 D) tt_263 (some (.int rr)) σ' 39 [.ref 109, .int a1, .int a2, .int a3] [] σ := by
  unfold Md_stopsWithout_39 at hf
  exact gx_go_ 2 [] [] 4 [.ref 109, .int a1, .int a2, .int (a3 + 1)] [] σ rfl trivial (gx_fgt (ls' := [.ref 109, .int a1, .int a2, .int (a3 + 1)]) ⟨Or.inr rfl, Or.inr rfl, Or.inr rfl, Or.inr rfl, trivial⟩ (hK4 a1 a2 (a3 + 1) σ hf))
set_option maxHeartbeats 16000000 in
set_option maxRecDepth 20000 in
theorem vv_Md_stopsWithout_4_B (D : Nat) (hD : 6 ≤ D + 1) (rr : Int32) (σ' : gx_R) (K4 : Int32 → Int32 → Int32 → gx_R → Option (Int32 × gx_R)) (hK4 : ∀ (a1 : Int32) (a2 : Int32) (a3 : Int32) (σ : gx_R), K4 a1 a2 a3 σ = some (rr, σ') → gx_Ev lay0 (E0 D) tt_263 (some (.int rr)) σ' 4 [.ref 109, .int a1, .int a2, .int a3] [] σ) (a1 : Int32) (a2 : Int32) (a3 : Int32) (σ : gx_R) (hf : Md_stopsWithout_4_B K4 a1 a2 a3 σ = some (rr, σ')) : gx_Ev lay0 (E0 D) tt_263 (some (.int rr)) σ' 4 [.ref 109, .int a1, .int a2, .int a3] [] σ := by
  unfold Md_stopsWithout_4_B at hf
  rcases z_if_inv hf with ⟨h1, hf⟩ | ⟨h1, hf⟩
  · obtain ⟨e1, e2⟩ := z_ret hf
    subst e1
    subst e2
    exact gx_end 8 [.inl 1] [vp_in (0 : Int32) 8880, (σ 110 ((0 : Int32).toNatClampNeg)) ≤ a3] rfl ⟨(z_ix_in rfl), h1, trivial⟩
  · obtain ⟨h2, hf⟩ := z_ck_inv hf
    rcases z_if_inv hf with ⟨h3, hf⟩ | ⟨h3, hf⟩
    · obtain ⟨r4, σ5, h6, hf⟩ := z_bd_inv hf
      obtain ⟨h7, hf⟩ := z_ck_inv hf
      obtain ⟨h8, hf⟩ := z_ck_inv hf
      obtain ⟨r9, σ10, h11, hf⟩ := z_bd_inv hf
      rcases z_if_inv hf with ⟨h12, hf⟩ | ⟨h12, hf⟩
      · exact gx_go_ 29 [.inl 0, .inl 0, .inr (some (.int r4), σ5), .inr (some (.int r9), σ10), .inl 1] [vp_in (0 : Int32) 8880, ¬ ((σ 110 ((0 : Int32).toNatClampNeg)) ≤ a3), vp_in a3 8, ¬ ¬ ((σ 135 a3.toNatClampNeg) = (1 : Int32)), E0 D 205 [.ref 109, .int a3, .int a1, .int (0 : Int32)] σ (some (.int r4)) σ5, vp_in a3 8, vp_in a3 8, E0 D 202 [.ref 109, .int a3, .int (σ5 137 a3.toNatClampNeg), .int (σ5 136 a3.toNatClampNeg)] σ5 (some (.int r9)) σ10, r9 ≤ r4] 39 [.ref 109, .int a1, .int a2, .int a3] [] σ10 rfl ⟨(z_ix_in rfl), h1, (z_ix_in h2), (fun q => q h3), (ww_Md_fuelOf D (by omega) a3 a1 (0 : Int32) σ r4 σ5 h6), (z_ix_in h7), (z_ix_in h8), (ww_Md_burnBy D (by omega) a3 (σ5 137 a3.toNatClampNeg) (σ5 136 a3.toNatClampNeg) σ5 r9 σ10 h11), h12, trivial⟩ (gx_fgt (ls' := [.ref 109, .int a1, .int a2, .int a3]) ⟨Or.inr rfl, Or.inr rfl, Or.inr rfl, Or.inr rfl, trivial⟩ (vv_Md_stopsWithout_39 D hD rr σ' K4 hK4 a1 a2 a3 σ10 hf))
      · exact gx_go_ 35 [.inl 0, .inl 0, .inr (some (.int r4), σ5), .inr (some (.int r9), σ10), .inl 0] [vp_in (0 : Int32) 8880, ¬ ((σ 110 ((0 : Int32).toNatClampNeg)) ≤ a3), vp_in a3 8, ¬ ¬ ((σ 135 a3.toNatClampNeg) = (1 : Int32)), E0 D 205 [.ref 109, .int a3, .int a1, .int (0 : Int32)] σ (some (.int r4)) σ5, vp_in a3 8, vp_in a3 8, E0 D 202 [.ref 109, .int a3, .int (σ5 137 a3.toNatClampNeg), .int (σ5 136 a3.toNatClampNeg)] σ5 (some (.int r9)) σ10, ¬ (r9 ≤ r4)] 39 [.ref 109, .int a1, .int (a2 ||| ((1 : Int32) <<< (a3 &&& 31))), .int a3] [] σ10 rfl ⟨(z_ix_in rfl), h1, (z_ix_in h2), (fun q => q h3), (ww_Md_fuelOf D (by omega) a3 a1 (0 : Int32) σ r4 σ5 h6), (z_ix_in h7), (z_ix_in h8), (ww_Md_burnBy D (by omega) a3 (σ5 137 a3.toNatClampNeg) (σ5 136 a3.toNatClampNeg) σ5 r9 σ10 h11), h12, trivial⟩ (gx_fgt (ls' := [.ref 109, .int a1, .int (a2 ||| ((1 : Int32) <<< (a3 &&& 31))), .int a3]) ⟨Or.inr rfl, Or.inr rfl, Or.inr rfl, Or.inr rfl, trivial⟩ (vv_Md_stopsWithout_39 D hD rr σ' K4 hK4 a1 (a2 ||| ((1 : Int32) <<< (a3 &&& 31))) a3 σ10 hf))
    · exact gx_go_ 12 [.inl 0, .inl 1] [vp_in (0 : Int32) 8880, ¬ ((σ 110 ((0 : Int32).toNatClampNeg)) ≤ a3), vp_in a3 8, ¬ ((σ 135 a3.toNatClampNeg) = (1 : Int32))] 39 [.ref 109, .int a1, .int a2, .int a3] [] σ rfl ⟨(z_ix_in rfl), h1, (z_ix_in h2), h3, trivial⟩ (gx_fgt (ls' := [.ref 109, .int a1, .int a2, .int a3]) ⟨Or.inr rfl, Or.inr rfl, Or.inr rfl, Or.inr rfl, trivial⟩ (vv_Md_stopsWithout_39 D hD rr σ' K4 hK4 a1 a2 a3 σ hf))
set_option maxHeartbeats 16000000 in
set_option maxRecDepth 20000 in
theorem vv_Md_stopsWithout_4 (D : Nat) (hD : 6 ≤ D + 1) (rr : Int32) (σ' : gx_R) : ∀ (n : Nat) (a1 : Int32) (a2 : Int32) (a3 : Int32) (σ : gx_R), Md_stopsWithout_4 n a1 a2 a3 σ = some (rr, σ') → gx_Ev lay0 (E0 D) tt_263 (some (.int rr)) σ' 4 [.ref 109, .int a1, .int a2, .int a3] [] σ := by
  intro n
  induction n with
  | zero => intro a1 a2 a3 σ  hf; cases hf
  | succ n ih => intro a1 a2 a3 σ  hf; exact vv_Md_stopsWithout_4_B D hD rr σ'  (Md_stopsWithout_4 n) ih a1 a2 a3 σ  hf
set_option maxHeartbeats 16000000 in
set_option maxRecDepth 20000 in
theorem vv_Md_stopsWithout_E (D : Nat) (hD : 6 ≤ D + 1) (rr : Int32) (σ' : gx_R) (a1 : Int32) (σ : gx_R) (hf : Md_stopsWithout a1 σ = some (rr, σ')) : gx_Ev lay0 (E0 D) tt_263 (some (.int rr)) σ' 0 [.ref 109, .int a1, .null, .null] [] σ := by
  unfold Md_stopsWithout at hf
  exact gx_go_ 4 [] [] 4 [.ref 109, .int a1, .int (0 : Int32), .int (0 : Int32)] [] σ rfl trivial (gx_fgt (ls' := [.ref 109, .int a1, .int (0 : Int32), .int (0 : Int32)]) ⟨Or.inr rfl, Or.inr rfl, Or.inr rfl, Or.inr rfl, trivial⟩ (vv_Md_stopsWithout_4 D hD rr σ' z_FU a1 (0 : Int32) (0 : Int32) σ hf))
set_option maxHeartbeats 16000000 in
set_option maxRecDepth 20000 in
theorem ww_Md_stopsWithout (D : Nat) (hD : 6 ≤ D) (a1 : Int32) (σ : gx_R) (rr : Int32) (σ' : gx_R) (hf : Md_stopsWithout a1 σ = some (rr, σ')) : E0 D 263 [.ref 109, .int a1] σ (some (.int rr)) σ' := by
  cases D with
  | zero => omega
  | succ D => exact Or.inl ⟨Nat.le_of_ble_eq_true rfl, vv_Md_stopsWithout_E D hD rr σ' a1 σ hf⟩
set_option maxHeartbeats 16000000 in
set_option maxRecDepth 20000 in
theorem vv_Md_without_E (D : Nat) (hD : 7 ≤ D + 1) (rr : Int32) (σ' : gx_R) (a1 : Int32) (σ : gx_R) (hf : Md_without a1 σ = some (rr, σ')) : gx_Ev lay0 (E0 D) tt_264 (some (.int rr)) σ' 0 [.ref 109, .int a1] [] σ := by
  unfold Md_without at hf
  obtain ⟨r1, σ2, h3, hf⟩ := z_bd_inv hf
  rcases z_if_inv hf with ⟨h4, hf⟩ | ⟨h4, hf⟩
  · obtain ⟨e1, e2⟩ := z_ret hf
    subst e1
    subst e2
    exact gx_end 7 [.inr (some (.int r1), σ2), .inl 0] [E0 D 145 [.int a1, .int (0 : Int32), .int (255 : Int32)] σ (some (.int r1)) σ2, ¬ ¬ (r1 = 0)] rfl ⟨(ww_Md_in D (by omega) a1 (0 : Int32) (255 : Int32) σ r1 σ2 h3), (fun q => q h4), trivial⟩
  · obtain ⟨⟨⟩, σ6, h7, hf⟩ := z_bd_inv hf
    obtain ⟨r8, σ9, h10, hf⟩ := z_bd_inv hf
    obtain ⟨e1, e2⟩ := z_ret hf
    subst e1
    subst e2
    exact gx_end 11 [.inr (some (.int r1), σ2), .inl 1, .inr (none, σ6), .inr (some (.int r8), σ9)] [E0 D 145 [.int a1, .int (0 : Int32), .int (255 : Int32)] σ (some (.int r1)) σ2, ¬ (r1 = 0), E0 D 198 [.ref 109] σ2 (none) σ6, E0 D 263 [.ref 109, .int a1] σ6 (some (.int r8)) σ9] rfl ⟨(ww_Md_in D (by omega) a1 (0 : Int32) (255 : Int32) σ r1 σ2 h3), h4, (ww_Md_laysNow D (by omega) σ2 () σ6 h7), (ww_Md_stopsWithout D (by omega) a1 σ6 r8 σ9 h10), trivial⟩
set_option maxHeartbeats 16000000 in
set_option maxRecDepth 20000 in
theorem ww_Md_without (D : Nat) (hD : 7 ≤ D) (a1 : Int32) (σ : gx_R) (rr : Int32) (σ' : gx_R) (hf : Md_without a1 σ = some (rr, σ')) : E0 D 264 [.ref 109, .int a1] σ (some (.int rr)) σ' := by
  cases D with
  | zero => omega
  | succ D => exact Or.inl ⟨Nat.le_of_ble_eq_true rfl, vv_Md_without_E D hD rr σ' a1 σ hf⟩
set_option maxHeartbeats 16000000 in
set_option maxRecDepth 20000 in
theorem vv_Md_strike_41 (D : Nat) (hD : 7 ≤ D + 1) (rr : Int32) (σ' : gx_R) (K20 : Int32 → Int32 → Int32 → Int32 → gx_R → Option (Int32 × gx_R)) (hK20 : ∀ (a1 : Int32) (a2 : Int32) (a3 : Int32) (a4 : Int32) (σ : gx_R), K20 a1 a2 a3 a4 σ = some (rr, σ') → gx_Ev lay0 (E0 D) tt_265 (some (.int rr)) σ' 20 [.ref 109, .int a1, .int a2, .int a3, .int a4] [] σ) (a1 : Int32) (a2 : Int32) (a3 : Int32) (a4 : Int32) (σ : gx_R) (hf : Md_strike_41 K20 a1 a2 a3 a4 σ = some (rr, σ')) : gx_Ev lay0 (E0 D) tt_265 (some (.int rr)) σ' 41 [.ref 109, .int a1, .int a2, .int a3, .int a4] [] σ := by
  unfold Md_strike_41 at hf
  exact gx_go_ 2 [] [] 20 [.ref 109, .int a1, .int a2, .int a3, .int (a4 + 1)] [] σ rfl trivial (gx_fgt (ls' := [.ref 109, .int a1, .int a2, .int a3, .int (a4 + 1)]) ⟨Or.inr rfl, Or.inr rfl, Or.inr rfl, Or.inr rfl, Or.inr rfl, trivial⟩ (hK20 a1 a2 a3 (a4 + 1) σ hf))
set_option maxHeartbeats 16000000 in
set_option maxRecDepth 20000 in
theorem vv_Md_strike_43 (D : Nat) (hD : 7 ≤ D + 1) (rr : Int32) (σ' : gx_R) (K15 : Int32 → Int32 → Int32 → gx_R → Option (Int32 × gx_R)) (hK15 : ∀ (a1 : Int32) (a2 : Int32) (a3 : Int32) (σ : gx_R), K15 a1 a2 a3 σ = some (rr, σ') → gx_Ev lay0 (E0 D) tt_265 (some (.int rr)) σ' 15 [.ref 109, .int a1, .int a2, .int a3, .null] [] σ) (a1 : Int32) (a2 : Int32) (a3 : Int32) (σ : gx_R) (hf : Md_strike_43 K15 a1 a2 a3 σ = some (rr, σ')) : gx_Ev lay0 (E0 D) tt_265 (some (.int rr)) σ' 43 [.ref 109, .int a1, .int a2, .int a3, .null] [] σ := by
  unfold Md_strike_43 at hf
  exact gx_go_ 2 [] [] 15 [.ref 109, .int a1, .int a2, .int (a3 + 1), .null] [] σ rfl trivial (gx_fgt (ls' := [.ref 109, .int a1, .int a2, .int (a3 + 1), .null]) ⟨Or.inr rfl, Or.inr rfl, Or.inr rfl, Or.inr rfl, Or.inl rfl, trivial⟩ (hK15 a1 a2 (a3 + 1) σ hf))
set_option maxHeartbeats 16000000 in
set_option maxRecDepth 20000 in
theorem vv_Md_strike_20_B (D : Nat) (hD : 7 ≤ D + 1) (rr : Int32) (σ' : gx_R) (K15 : Int32 → Int32 → Int32 → gx_R → Option (Int32 × gx_R)) (hK15 : ∀ (a1 : Int32) (a2 : Int32) (a3 : Int32) (σ : gx_R), K15 a1 a2 a3 σ = some (rr, σ') → gx_Ev lay0 (E0 D) tt_265 (some (.int rr)) σ' 15 [.ref 109, .int a1, .int a2, .int a3, .null] [] σ) (K20 : Int32 → Int32 → Int32 → Int32 → gx_R → Option (Int32 × gx_R)) (hK20 : ∀ (a1 : Int32) (a2 : Int32) (a3 : Int32) (a4 : Int32) (σ : gx_R), K20 a1 a2 a3 a4 σ = some (rr, σ') → gx_Ev lay0 (E0 D) tt_265 (some (.int rr)) σ' 20 [.ref 109, .int a1, .int a2, .int a3, .int a4] [] σ) (a1 : Int32) (a2 : Int32) (a3 : Int32) (a4 : Int32) (σ : gx_R) (hf : Md_strike_20_B K15 K20 a1 a2 a3 a4 σ = some (rr, σ')) : gx_Ev lay0 (E0 D) tt_265 (some (.int rr)) σ' 20 [.ref 109, .int a1, .int a2, .int a3, .int a4] [] σ := by
  unfold Md_strike_20_B at hf
  rcases z_if_inv hf with ⟨h1, hf⟩ | ⟨h1, hf⟩
  · exact gx_go_ 3 [.inl 1] [(256 : Int32) ≤ a4] 43 [.ref 109, .int a1, .int a2, .int a3, .int a4] [] σ rfl ⟨h1, trivial⟩ (gx_fgt (ls' := [.ref 109, .int a1, .int a2, .int a3, .null]) ⟨Or.inr rfl, Or.inr rfl, Or.inr rfl, Or.inr rfl, Or.inl rfl, trivial⟩ (vv_Md_strike_43 D hD rr σ' K15 hK15 a1 a2 a3 σ hf))
  · rcases z_if_inv hf with ⟨h2, hf⟩ | ⟨h2, hf⟩
    · obtain ⟨r3, σ4, h5, hf⟩ := z_bd_inv hf
      rcases z_if_inv hf with ⟨h6, hf⟩ | ⟨h6, hf⟩
      · obtain ⟨r7, σ8, h9, hf⟩ := z_bd_inv hf
        obtain ⟨r10, σ11, h12, hf⟩ := z_bd_inv hf
        rcases z_if_inv hf with ⟨h13, hf⟩ | ⟨h13, hf⟩
        · exact gx_go_ 19 [.inl 0, .inl 0, .inr (some (.int r3), σ4), .inl 0, .inr (some (.int r7), σ8), .inr (some (.int r10), σ11), .inl 1] [¬ ((256 : Int32) ≤ a4), ¬ ¬ ((a4 &&& (a2 ^^^ (-1 : Int32))) = 0), E0 D 147 [.int a4] σ (some (.int r3)) σ4, ¬ ¬ (r3 = a3), E0 D 263 [.ref 109, .int a4] σ4 (some (.int r7)) σ8, E0 D 146 [.int r7, .int a1] σ8 (some (.int r10)) σ11, r10 = 0] 41 [.ref 109, .int a1, .int a2, .int a3, .int a4] [] σ11 rfl ⟨h1, (fun q => q h2), (ww_Md_many D (by omega) a4 σ r3 σ4 h5), (fun q => q h6), (ww_Md_stopsWithout D (by omega) a4 σ4 r7 σ8 h9), (ww_Md_has D (by omega) r7 a1 σ8 r10 σ11 h12), h13, trivial⟩ (gx_fgt (ls' := [.ref 109, .int a1, .int a2, .int a3, .int a4]) ⟨Or.inr rfl, Or.inr rfl, Or.inr rfl, Or.inr rfl, Or.inr rfl, trivial⟩ (vv_Md_strike_41 D hD rr σ' K20 hK20 a1 a2 a3 a4 σ11 hf))
        · obtain ⟨e1, e2⟩ := z_ret hf
          subst e1
          subst e2
          exact gx_end 21 [.inl 0, .inl 0, .inr (some (.int r3), σ4), .inl 0, .inr (some (.int r7), σ8), .inr (some (.int r10), σ11), .inl 0] [¬ ((256 : Int32) ≤ a4), ¬ ¬ ((a4 &&& (a2 ^^^ (-1 : Int32))) = 0), E0 D 147 [.int a4] σ (some (.int r3)) σ4, ¬ ¬ (r3 = a3), E0 D 263 [.ref 109, .int a4] σ4 (some (.int r7)) σ8, E0 D 146 [.int r7, .int a1] σ8 (some (.int r10)) σ11, ¬ (r10 = 0)] rfl ⟨h1, (fun q => q h2), (ww_Md_many D (by omega) a4 σ r3 σ4 h5), (fun q => q h6), (ww_Md_stopsWithout D (by omega) a4 σ4 r7 σ8 h9), (ww_Md_has D (by omega) r7 a1 σ8 r10 σ11 h12), h13, trivial⟩
      · exact gx_go_ 13 [.inl 0, .inl 0, .inr (some (.int r3), σ4), .inl 1] [¬ ((256 : Int32) ≤ a4), ¬ ¬ ((a4 &&& (a2 ^^^ (-1 : Int32))) = 0), E0 D 147 [.int a4] σ (some (.int r3)) σ4, ¬ (r3 = a3)] 41 [.ref 109, .int a1, .int a2, .int a3, .int a4] [] σ4 rfl ⟨h1, (fun q => q h2), (ww_Md_many D (by omega) a4 σ r3 σ4 h5), h6, trivial⟩ (gx_fgt (ls' := [.ref 109, .int a1, .int a2, .int a3, .int a4]) ⟨Or.inr rfl, Or.inr rfl, Or.inr rfl, Or.inr rfl, Or.inr rfl, trivial⟩ (vv_Md_strike_41 D hD rr σ' K20 hK20 a1 a2 a3 a4 σ4 hf))
    · exact gx_go_ 9 [.inl 0, .inl 1] [¬ ((256 : Int32) ≤ a4), ¬ ((a4 &&& (a2 ^^^ (-1 : Int32))) = 0)] 41 [.ref 109, .int a1, .int a2, .int a3, .int a4] [] σ rfl ⟨h1, h2, trivial⟩ (gx_fgt (ls' := [.ref 109, .int a1, .int a2, .int a3, .int a4]) ⟨Or.inr rfl, Or.inr rfl, Or.inr rfl, Or.inr rfl, Or.inr rfl, trivial⟩ (vv_Md_strike_41 D hD rr σ' K20 hK20 a1 a2 a3 a4 σ hf))
set_option maxHeartbeats 16000000 in
set_option maxRecDepth 20000 in
theorem vv_Md_strike_20 (D : Nat) (hD : 7 ≤ D + 1) (rr : Int32) (σ' : gx_R) (K15 : Int32 → Int32 → Int32 → gx_R → Option (Int32 × gx_R)) (hK15 : ∀ (a1 : Int32) (a2 : Int32) (a3 : Int32) (σ : gx_R), K15 a1 a2 a3 σ = some (rr, σ') → gx_Ev lay0 (E0 D) tt_265 (some (.int rr)) σ' 15 [.ref 109, .int a1, .int a2, .int a3, .null] [] σ) : ∀ (n : Nat) (a1 : Int32) (a2 : Int32) (a3 : Int32) (a4 : Int32) (σ : gx_R), Md_strike_20 K15 n a1 a2 a3 a4 σ = some (rr, σ') → gx_Ev lay0 (E0 D) tt_265 (some (.int rr)) σ' 20 [.ref 109, .int a1, .int a2, .int a3, .int a4] [] σ := by
  intro n
  induction n with
  | zero => intro a1 a2 a3 a4 σ  hf; cases hf
  | succ n ih => intro a1 a2 a3 a4 σ  hf; exact vv_Md_strike_20_B D hD rr σ'  K15 hK15 (Md_strike_20 K15 n) ih a1 a2 a3 a4 σ  hf
set_option maxHeartbeats 16000000 in
set_option maxRecDepth 20000 in
theorem vv_Md_strike_15_B (D : Nat) (hD : 7 ≤ D + 1) (rr : Int32) (σ' : gx_R) (K15 : Int32 → Int32 → Int32 → gx_R → Option (Int32 × gx_R)) (hK15 : ∀ (a1 : Int32) (a2 : Int32) (a3 : Int32) (σ : gx_R), K15 a1 a2 a3 σ = some (rr, σ') → gx_Ev lay0 (E0 D) tt_265 (some (.int rr)) σ' 15 [.ref 109, .int a1, .int a2, .int a3, .null] [] σ) (a1 : Int32) (a2 : Int32) (a3 : Int32) (σ : gx_R) (hf : Md_strike_15_B K15 a1 a2 a3 σ = some (rr, σ')) : gx_Ev lay0 (E0 D) tt_265 (some (.int rr)) σ' 15 [.ref 109, .int a1, .int a2, .int a3, .null] [] σ := by
  unfold Md_strike_15_B at hf
  rcases z_if_inv hf with ⟨h1, hf⟩ | ⟨h1, hf⟩
  · obtain ⟨e1, e2⟩ := z_ret hf
    subst e1
    subst e2
    exact gx_end 5 [.inl 1] [(8 : Int32) ≤ a3] rfl ⟨h1, trivial⟩
  · exact gx_go_ 5 [.inl 0] [¬ ((8 : Int32) ≤ a3)] 20 [.ref 109, .int a1, .int a2, .int a3, .int (0 : Int32)] [] σ rfl ⟨h1, trivial⟩ (gx_fgt (ls' := [.ref 109, .int a1, .int a2, .int a3, .int (0 : Int32)]) ⟨Or.inr rfl, Or.inr rfl, Or.inr rfl, Or.inr rfl, Or.inr rfl, trivial⟩ (vv_Md_strike_20 D hD rr σ' K15 hK15 z_FU a1 a2 a3 (0 : Int32) σ hf))
set_option maxHeartbeats 16000000 in
set_option maxRecDepth 20000 in
theorem vv_Md_strike_15 (D : Nat) (hD : 7 ≤ D + 1) (rr : Int32) (σ' : gx_R) : ∀ (n : Nat) (a1 : Int32) (a2 : Int32) (a3 : Int32) (σ : gx_R), Md_strike_15 n a1 a2 a3 σ = some (rr, σ') → gx_Ev lay0 (E0 D) tt_265 (some (.int rr)) σ' 15 [.ref 109, .int a1, .int a2, .int a3, .null] [] σ := by
  intro n
  induction n with
  | zero => intro a1 a2 a3 σ  hf; cases hf
  | succ n ih => intro a1 a2 a3 σ  hf; exact vv_Md_strike_15_B D hD rr σ'  (Md_strike_15 n) ih a1 a2 a3 σ  hf
set_option maxHeartbeats 16000000 in
set_option maxRecDepth 20000 in
theorem vv_Md_strike_E (D : Nat) (hD : 7 ≤ D + 1) (rr : Int32) (σ' : gx_R) (a1 : Int32) (σ : gx_R) (hf : Md_strike a1 σ = some (rr, σ')) : gx_Ev lay0 (E0 D) tt_265 (some (.int rr)) σ' 0 [.ref 109, .int a1, .null, .null, .null] [] σ := by
  unfold Md_strike at hf
  obtain ⟨r1, σ2, h3, hf⟩ := z_bd_inv hf
  rcases z_if_inv hf with ⟨h4, hf⟩ | ⟨h4, hf⟩
  · obtain ⟨e1, e2⟩ := z_ret hf
    subst e1
    subst e2
    exact gx_end 7 [.inr (some (.int r1), σ2), .inl 0] [E0 D 216 [.ref 109, .int a1, .int (1 : Int32)] σ (some (.int r1)) σ2, ¬ ¬ (r1 = 0)] rfl ⟨(ww_Md_isAt D (by omega) a1 (1 : Int32) σ r1 σ2 h3), (fun q => q h4), trivial⟩
  · obtain ⟨⟨⟩, σ6, h7, hf⟩ := z_bd_inv hf
    obtain ⟨r8, σ9, h10, hf⟩ := z_bd_inv hf
    exact gx_go_ 13 [.inr (some (.int r1), σ2), .inl 1, .inr (none, σ6), .inr (some (.int r8), σ9)] [E0 D 216 [.ref 109, .int a1, .int (1 : Int32)] σ (some (.int r1)) σ2, ¬ (r1 = 0), E0 D 198 [.ref 109] σ2 (none) σ6, E0 D 206 [.ref 109, .int (2 : Int32)] σ6 (some (.int r8)) σ9] 15 [.ref 109, .int a1, .int r8, .int (0 : Int32), .null] [] σ9 rfl ⟨(ww_Md_isAt D (by omega) a1 (1 : Int32) σ r1 σ2 h3), h4, (ww_Md_laysNow D (by omega) σ2 () σ6 h7), (ww_Md_allThat D (by omega) (2 : Int32) σ6 r8 σ9 h10), trivial⟩ (gx_fgt (ls' := [.ref 109, .int a1, .int r8, .int (0 : Int32), .null]) ⟨Or.inr rfl, Or.inr rfl, Or.inr rfl, Or.inr rfl, Or.inl rfl, trivial⟩ (vv_Md_strike_15 D hD rr σ' z_FU a1 r8 (0 : Int32) σ9 hf))
set_option maxHeartbeats 16000000 in
set_option maxRecDepth 20000 in
theorem ww_Md_strike (D : Nat) (hD : 7 ≤ D) (a1 : Int32) (σ : gx_R) (rr : Int32) (σ' : gx_R) (hf : Md_strike a1 σ = some (rr, σ')) : E0 D 265 [.ref 109, .int a1] σ (some (.int rr)) σ' := by
  cases D with
  | zero => omega
  | succ D => exact Or.inl ⟨Nat.le_of_ble_eq_true rfl, vv_Md_strike_E D hD rr σ' a1 σ hf⟩
set_option maxHeartbeats 16000000 in
set_option maxRecDepth 20000 in
theorem vv_Md_fits_55 (D : Nat) (hD : 3 ≤ D + 1) (rr : Int32) (σ' : gx_R) (K77 : Int32 → Int32 → Int32 → Int32 → gx_R → Option (Int32 × gx_R)) (hK77 : ∀ (a1 : Int32) (a2 : Int32) (a3 : Int32) (a4 : Int32) (σ : gx_R), K77 a1 a2 a3 a4 σ = some (rr, σ') → gx_Ev lay0 (E0 D) tt_266 (some (.int rr)) σ' 77 [.ref 109, .int a1, .int a2, .int a3, .int a4, .null] [] σ) (a1 : Int32) (a2 : Int32) (a3 : Int32) (a4 : Int32) (a5 : Int32) (σ : gx_R) (hf : Md_fits_55 K77 a1 a2 a3 a4 a5 σ = some (rr, σ')) : gx_Ev lay0 (E0 D) tt_266 (some (.int rr)) σ' 55 [.ref 109, .int a1, .int a2, .int a3, .int a4, .int a5] [] σ := by
  unfold Md_fits_55 at hf
  obtain ⟨h1, hf⟩ := z_ck_inv hf
  obtain ⟨r2, σ3, h4, hf⟩ := z_bd_inv hf
  rcases z_if_inv hf with ⟨h5, hf⟩ | ⟨h5, hf⟩
  · exact gx_go_ 9 [.inr (some (.int r2), σ3), .inl 1] [vp_in (a5 + (1 : Int32)) 8880, E0 D 146 [.int (σ 110 ((a5 + (1 : Int32)).toNatClampNeg)), .int a1] σ (some (.int r2)) σ3, r2 = 0] 77 [.ref 109, .int a1, .int a2, .int a3, .int a4, .int a5] [] σ3 rfl ⟨(z_ix_in h1), (ww_Md_has D (by omega) (σ 110 ((a5 + (1 : Int32)).toNatClampNeg)) a1 σ r2 σ3 h4), h5, trivial⟩ (gx_fgt (ls' := [.ref 109, .int a1, .int a2, .int a3, .int a4, .null]) ⟨Or.inr rfl, Or.inr rfl, Or.inr rfl, Or.inr rfl, Or.inr rfl, Or.inl rfl, trivial⟩ (hK77 a1 a2 a3 a4 σ3 hf))
  · obtain ⟨h6, hf⟩ := z_ck_inv hf
    exact gx_go_ 22 [.inr (some (.int r2), σ3), .inl 0] [vp_in (a5 + (1 : Int32)) 8880, E0 D 146 [.int (σ 110 ((a5 + (1 : Int32)).toNatClampNeg)), .int a1] σ (some (.int r2)) σ3, ¬ (r2 = 0), vp_in (a5 + (2 : Int32)) 8880] 77 [.ref 109, .int a1, .int (a2 &&& ((σ3 110 ((a5 + (2 : Int32)).toNatClampNeg)) ^^^ (-1 : Int32))), .int (1 : Int32), .int a4, .int a5] [] σ3 rfl ⟨(z_ix_in h1), (ww_Md_has D (by omega) (σ 110 ((a5 + (1 : Int32)).toNatClampNeg)) a1 σ r2 σ3 h4), h5, (z_ix_in h6), trivial⟩ (gx_fgt (ls' := [.ref 109, .int a1, .int (a2 &&& ((σ3 110 ((a5 + (2 : Int32)).toNatClampNeg)) ^^^ (-1 : Int32))), .int (1 : Int32), .int a4, .null]) ⟨Or.inr rfl, Or.inr rfl, Or.inr rfl, Or.inr rfl, Or.inr rfl, Or.inl rfl, trivial⟩ (hK77 a1 (a2 &&& ((σ3 110 ((a5 + (2 : Int32)).toNatClampNeg)) ^^^ (-1 : Int32))) (1 : Int32) a4 σ3 hf))
set_option maxHeartbeats 16000000 in
set_option maxRecDepth 20000 in
theorem vv_Md_fits_77 (D : Nat) (hD : 3 ≤ D + 1) (rr : Int32) (σ' : gx_R) (K19 : Int32 → Int32 → Int32 → Int32 → gx_R → Option (Int32 × gx_R)) (hK19 : ∀ (a1 : Int32) (a2 : Int32) (a3 : Int32) (a4 : Int32) (σ : gx_R), K19 a1 a2 a3 a4 σ = some (rr, σ') → gx_Ev lay0 (E0 D) tt_266 (some (.int rr)) σ' 19 [.ref 109, .int a1, .int a2, .int a3, .int a4, .null] [] σ) (a1 : Int32) (a2 : Int32) (a3 : Int32) (a4 : Int32) (σ : gx_R) (hf : Md_fits_77 K19 a1 a2 a3 a4 σ = some (rr, σ')) : gx_Ev lay0 (E0 D) tt_266 (some (.int rr)) σ' 77 [.ref 109, .int a1, .int a2, .int a3, .int a4, .null] [] σ := by
  unfold Md_fits_77 at hf
  exact gx_go_ 2 [] [] 19 [.ref 109, .int a1, .int a2, .int a3, .int (a4 + 1), .null] [] σ rfl trivial (gx_fgt (ls' := [.ref 109, .int a1, .int a2, .int a3, .int (a4 + 1), .null]) ⟨Or.inr rfl, Or.inr rfl, Or.inr rfl, Or.inr rfl, Or.inr rfl, Or.inl rfl, trivial⟩ (hK19 a1 a2 a3 (a4 + 1) σ hf))
set_option maxHeartbeats 16000000 in
set_option maxRecDepth 20000 in
theorem vv_Md_fits_79 (D : Nat) (hD : 3 ≤ D + 1) (rr : Int32) (σ' : gx_R) (a2 : Int32) (a3 : Int32) (σ : gx_R) (hf : Md_fits_79 a2 a3 σ = some (rr, σ')) : gx_Ev lay0 (E0 D) tt_266 (some (.int rr)) σ' 79 [.null, .null, .int a2, .int a3, .null, .null] [] σ := by
  unfold Md_fits_79 at hf
  rcases z_if_inv hf with ⟨h1, hf⟩ | ⟨h1, hf⟩
  · obtain ⟨e1, e2⟩ := z_ret hf
    subst e1
    subst e2
    exact gx_end 4 [.inl 1] [a3 = 0] rfl ⟨h1, trivial⟩
  · obtain ⟨e1, e2⟩ := z_ret hf
    subst e1
    subst e2
    exact gx_end 5 [.inl 0] [¬ (a3 = 0)] rfl ⟨h1, trivial⟩
set_option maxHeartbeats 16000000 in
set_option maxRecDepth 20000 in
theorem vv_Md_fits_19_B (D : Nat) (hD : 3 ≤ D + 1) (rr : Int32) (σ' : gx_R) (K19 : Int32 → Int32 → Int32 → Int32 → gx_R → Option (Int32 × gx_R)) (hK19 : ∀ (a1 : Int32) (a2 : Int32) (a3 : Int32) (a4 : Int32) (σ : gx_R), K19 a1 a2 a3 a4 σ = some (rr, σ') → gx_Ev lay0 (E0 D) tt_266 (some (.int rr)) σ' 19 [.ref 109, .int a1, .int a2, .int a3, .int a4, .null] [] σ) (a1 : Int32) (a2 : Int32) (a3 : Int32) (a4 : Int32) (σ : gx_R) (hf : Md_fits_19_B K19 a1 a2 a3 a4 σ = some (rr, σ')) : gx_Ev lay0 (E0 D) tt_266 (some (.int rr)) σ' 19 [.ref 109, .int a1, .int a2, .int a3, .int a4, .null] [] σ := by
  unfold Md_fits_19_B at hf
  rcases z_if_inv hf with ⟨h1, hf⟩ | ⟨h1, hf⟩
  · exact gx_go_ 6 [.inl 1] [vp_in (162 : Int32) 8880, (σ 110 ((162 : Int32).toNatClampNeg)) ≤ a4] 79 [.ref 109, .int a1, .int a2, .int a3, .int a4, .null] [] σ rfl ⟨(z_ix_in rfl), h1, trivial⟩ (gx_fgt (ls' := [.null, .null, .int a2, .int a3, .null, .null]) ⟨Or.inl rfl, Or.inl rfl, Or.inr rfl, Or.inr rfl, Or.inl rfl, Or.inl rfl, trivial⟩ (vv_Md_fits_79 D hD rr σ' a2 a3 σ hf))
  · obtain ⟨r2, σ3, h4, hf⟩ := z_bd_inv hf
    rcases z_if_inv hf with ⟨h5, hf⟩ | ⟨h5, hf⟩
    · exact gx_go_ 10 [.inl 0, .inr (some (.int r2), σ3), .inl 1] [vp_in (162 : Int32) 8880, ¬ ((σ 110 ((162 : Int32).toNatClampNeg)) ≤ a4), E0 D 233 [.ref 109, .int a4] σ (some (.int r2)) σ3, r2 = 0] 77 [.ref 109, .int a1, .int a2, .int a3, .int a4, .null] [] σ3 rfl ⟨(z_ix_in rfl), h1, (ww_Md_isKept D (by omega) a4 σ r2 σ3 h4), h5, trivial⟩ (gx_fgt (ls' := [.ref 109, .int a1, .int a2, .int a3, .int a4, .null]) ⟨Or.inr rfl, Or.inr rfl, Or.inr rfl, Or.inr rfl, Or.inr rfl, Or.inl rfl, trivial⟩ (vv_Md_fits_77 D hD rr σ' K19 hK19 a1 a2 a3 a4 σ3 hf))
    · obtain ⟨h6, hf⟩ := z_ck_inv hf
      obtain ⟨r7, σ8, h9, hf⟩ := z_bd_inv hf
      rcases z_if_inv hf with ⟨h10, hf⟩ | ⟨h10, hf⟩
      · exact gx_go_ 25 [.inl 0, .inr (some (.int r2), σ3), .inl 0, .inr (some (.int r7), σ8), .inl 1] [vp_in (162 : Int32) 8880, ¬ ((σ 110 ((162 : Int32).toNatClampNeg)) ≤ a4), E0 D 233 [.ref 109, .int a4] σ (some (.int r2)) σ3, ¬ (r2 = 0), ¬ (60 : Int32) = 0, vp_in ((164 : Int32) + ((3 : Int32) * (a4 - a4 / (60 : Int32) * (60 : Int32)))) 8880, E0 D 146 [.int (σ3 110 (((164 : Int32) + ((3 : Int32) * (a4 - a4 / (60 : Int32) * (60 : Int32)))).toNatClampNeg)), .int a1] σ3 (some (.int r7)) σ8, r7 = 0] 55 [.ref 109, .int a1, .int a2, .int a3, .int a4, .int ((164 : Int32) + ((3 : Int32) * (a4 - a4 / (60 : Int32) * (60 : Int32))))] [] σ8 rfl ⟨(z_ix_in rfl), h1, (ww_Md_isKept D (by omega) a4 σ r2 σ3 h4), h5, (by decide), (z_ix_in h6), (ww_Md_has D (by omega) (σ3 110 (((164 : Int32) + ((3 : Int32) * (a4 - a4 / (60 : Int32) * (60 : Int32)))).toNatClampNeg)) a1 σ3 r7 σ8 h9), h10, trivial⟩ (gx_fgt (ls' := [.ref 109, .int a1, .int a2, .int a3, .int a4, .int ((164 : Int32) + ((3 : Int32) * (a4 - a4 / (60 : Int32) * (60 : Int32))))]) ⟨Or.inr rfl, Or.inr rfl, Or.inr rfl, Or.inr rfl, Or.inr rfl, Or.inr rfl, trivial⟩ (vv_Md_fits_55 D hD rr σ' (Md_fits_77 K19) (vv_Md_fits_77 D hD rr σ' K19 hK19) a1 a2 a3 a4 ((164 : Int32) + ((3 : Int32) * (a4 - a4 / (60 : Int32) * (60 : Int32)))) σ8 hf))
      · obtain ⟨h11, hf⟩ := z_ck_inv hf
        exact gx_go_ 36 [.inl 0, .inr (some (.int r2), σ3), .inl 0, .inr (some (.int r7), σ8), .inl 0] [vp_in (162 : Int32) 8880, ¬ ((σ 110 ((162 : Int32).toNatClampNeg)) ≤ a4), E0 D 233 [.ref 109, .int a4] σ (some (.int r2)) σ3, ¬ (r2 = 0), ¬ (60 : Int32) = 0, vp_in ((164 : Int32) + ((3 : Int32) * (a4 - a4 / (60 : Int32) * (60 : Int32)))) 8880, E0 D 146 [.int (σ3 110 (((164 : Int32) + ((3 : Int32) * (a4 - a4 / (60 : Int32) * (60 : Int32)))).toNatClampNeg)), .int a1] σ3 (some (.int r7)) σ8, ¬ (r7 = 0), vp_in (((164 : Int32) + ((3 : Int32) * (a4 - a4 / (60 : Int32) * (60 : Int32)))) + (2 : Int32)) 8880] 55 [.ref 109, .int a1, .int (a2 &&& (σ8 110 ((((164 : Int32) + ((3 : Int32) * (a4 - a4 / (60 : Int32) * (60 : Int32)))) + (2 : Int32)).toNatClampNeg))), .int (1 : Int32), .int a4, .int ((164 : Int32) + ((3 : Int32) * (a4 - a4 / (60 : Int32) * (60 : Int32))))] [] σ8 rfl ⟨(z_ix_in rfl), h1, (ww_Md_isKept D (by omega) a4 σ r2 σ3 h4), h5, (by decide), (z_ix_in h6), (ww_Md_has D (by omega) (σ3 110 (((164 : Int32) + ((3 : Int32) * (a4 - a4 / (60 : Int32) * (60 : Int32)))).toNatClampNeg)) a1 σ3 r7 σ8 h9), h10, (z_ix_in h11), trivial⟩ (gx_fgt (ls' := [.ref 109, .int a1, .int (a2 &&& (σ8 110 ((((164 : Int32) + ((3 : Int32) * (a4 - a4 / (60 : Int32) * (60 : Int32)))) + (2 : Int32)).toNatClampNeg))), .int (1 : Int32), .int a4, .int ((164 : Int32) + ((3 : Int32) * (a4 - a4 / (60 : Int32) * (60 : Int32))))]) ⟨Or.inr rfl, Or.inr rfl, Or.inr rfl, Or.inr rfl, Or.inr rfl, Or.inr rfl, trivial⟩ (vv_Md_fits_55 D hD rr σ' (Md_fits_77 K19) (vv_Md_fits_77 D hD rr σ' K19 hK19) a1 (a2 &&& (σ8 110 ((((164 : Int32) + ((3 : Int32) * (a4 - a4 / (60 : Int32) * (60 : Int32)))) + (2 : Int32)).toNatClampNeg))) (1 : Int32) a4 ((164 : Int32) + ((3 : Int32) * (a4 - a4 / (60 : Int32) * (60 : Int32)))) σ8 hf))
set_option maxHeartbeats 16000000 in
set_option maxRecDepth 20000 in
theorem vv_Md_fits_19 (D : Nat) (hD : 3 ≤ D + 1) (rr : Int32) (σ' : gx_R) : ∀ (n : Nat) (a1 : Int32) (a2 : Int32) (a3 : Int32) (a4 : Int32) (σ : gx_R), Md_fits_19 n a1 a2 a3 a4 σ = some (rr, σ') → gx_Ev lay0 (E0 D) tt_266 (some (.int rr)) σ' 19 [.ref 109, .int a1, .int a2, .int a3, .int a4, .null] [] σ := by
  intro n
  induction n with
  | zero => intro a1 a2 a3 a4 σ  hf; cases hf
  | succ n ih => intro a1 a2 a3 a4 σ  hf; exact vv_Md_fits_19_B D hD rr σ'  (Md_fits_19 n) ih a1 a2 a3 a4 σ  hf
set_option maxHeartbeats 16000000 in
set_option maxRecDepth 20000 in
theorem vv_Md_fits_E (D : Nat) (hD : 3 ≤ D + 1) (rr : Int32) (σ' : gx_R) (a1 : Int32) (σ : gx_R) (hf : Md_fits a1 σ = some (rr, σ')) : gx_Ev lay0 (E0 D) tt_266 (some (.int rr)) σ' 0 [.ref 109, .int a1, .null, .null, .null, .null] [] σ := by
  unfold Md_fits at hf
  obtain ⟨r1, σ2, h3, hf⟩ := z_bd_inv hf
  rcases z_if_inv hf with ⟨h4, hf⟩ | ⟨h4, hf⟩
  · obtain ⟨e1, e2⟩ := z_ret hf
    subst e1
    subst e2
    exact gx_end 6 [.inr (some (.int r1), σ2), .inl 0] [E0 D 149 [.ref 109, .int a1] σ (some (.int r1)) σ2, ¬ ¬ (r1 = 0)] rfl ⟨(ww_Md_isPerson D (by omega) a1 σ r1 σ2 h3), (fun q => q h4), trivial⟩
  · exact gx_go_ 17 [.inr (some (.int r1), σ2), .inl 1] [E0 D 149 [.ref 109, .int a1] σ (some (.int r1)) σ2, ¬ (r1 = 0), vp_in (0 : Int32) 8880] 19 [.ref 109, .int a1, .int (((1 : Int32) <<< ((σ2 110 ((0 : Int32).toNatClampNeg)) &&& 31)) - (1 : Int32)), .int (0 : Int32), .int (0 : Int32), .null] [] σ2 rfl ⟨(ww_Md_isPerson D (by omega) a1 σ r1 σ2 h3), h4, (z_ix_in rfl), trivial⟩ (gx_fgt (ls' := [.ref 109, .int a1, .int (((1 : Int32) <<< ((σ2 110 ((0 : Int32).toNatClampNeg)) &&& 31)) - (1 : Int32)), .int (0 : Int32), .int (0 : Int32), .null]) ⟨Or.inr rfl, Or.inr rfl, Or.inr rfl, Or.inr rfl, Or.inr rfl, Or.inl rfl, trivial⟩ (vv_Md_fits_19 D hD rr σ' z_FU a1 (((1 : Int32) <<< ((σ2 110 ((0 : Int32).toNatClampNeg)) &&& 31)) - (1 : Int32)) (0 : Int32) (0 : Int32) σ2 hf))
set_option maxHeartbeats 16000000 in
set_option maxRecDepth 20000 in
theorem ww_Md_fits (D : Nat) (hD : 3 ≤ D) (a1 : Int32) (σ : gx_R) (rr : Int32) (σ' : gx_R) (hf : Md_fits a1 σ = some (rr, σ')) : E0 D 266 [.ref 109, .int a1] σ (some (.int rr)) σ' := by
  cases D with
  | zero => omega
  | succ D => exact Or.inl ⟨Nat.le_of_ble_eq_true rfl, vv_Md_fits_E D hD rr σ' a1 σ hf⟩
set_option maxHeartbeats 16000000 in
set_option maxRecDepth 20000 in
theorem vv_Md_forNobody_36 (D : Nat) (hD : 1 ≤ D + 1) (rr : Int32) (σ' : gx_R) (K37 : Int32 → Int32 → Int32 → gx_R → Option (Int32 × gx_R)) (hK37 : ∀ (a2 : Int32) (s0 : Int32) (s1 : Int32) (σ : gx_R), K37 a2 s0 s1 σ = some (rr, σ') → gx_Ev lay0 (E0 D) tt_267 (some (.int rr)) σ' 37 [.ref 109, .null, .int a2] [.int s1, .int s0] σ) (a2 : Int32) (s0 : Int32) (σ : gx_R) (hf : Md_forNobody_36 K37 a2 s0 σ = some (rr, σ')) : gx_Ev lay0 (E0 D) tt_267 (some (.int rr)) σ' 36 [.ref 109, .null, .int a2] [.int s0] σ := by
  unfold Md_forNobody_36 at hf
  exact gx_go_ 1 [] [] 37 [.ref 109, .null, .int a2] [.int (0 : Int32), .int s0] σ rfl trivial (gx_fgt (ls' := [.ref 109, .null, .int a2]) ⟨Or.inr rfl, Or.inl rfl, Or.inr rfl, trivial⟩ (hK37 a2 s0 (0 : Int32) σ hf))
set_option maxHeartbeats 16000000 in
set_option maxRecDepth 20000 in
theorem vv_Md_forNobody_37 (D : Nat) (hD : 1 ≤ D + 1) (rr : Int32) (σ' : gx_R) (K4 : Int32 → Int32 → gx_R → Option (Int32 × gx_R)) (hK4 : ∀ (a1 : Int32) (a2 : Int32) (σ : gx_R), K4 a1 a2 σ = some (rr, σ') → gx_Ev lay0 (E0 D) tt_267 (some (.int rr)) σ' 4 [.ref 109, .int a1, .int a2] [] σ) (a2 : Int32) (s0 : Int32) (s1 : Int32) (σ : gx_R) (hf : Md_forNobody_37 K4 a2 s0 s1 σ = some (rr, σ')) : gx_Ev lay0 (E0 D) tt_267 (some (.int rr)) σ' 37 [.ref 109, .null, .int a2] [.int s1, .int s0] σ := by
  unfold Md_forNobody_37 at hf
  exact gx_go_ 4 [] [] 4 [.ref 109, .int (s0 ||| s1), .int (a2 + 1)] [] σ rfl trivial (gx_fgt (ls' := [.ref 109, .int (s0 ||| s1), .int (a2 + 1)]) ⟨Or.inr rfl, Or.inr rfl, Or.inr rfl, trivial⟩ (hK4 (s0 ||| s1) (a2 + 1) σ hf))
set_option maxHeartbeats 16000000 in
set_option maxRecDepth 20000 in
theorem vv_Md_forNobody_4_B (D : Nat) (hD : 1 ≤ D + 1) (rr : Int32) (σ' : gx_R) (K4 : Int32 → Int32 → gx_R → Option (Int32 × gx_R)) (hK4 : ∀ (a1 : Int32) (a2 : Int32) (σ : gx_R), K4 a1 a2 σ = some (rr, σ') → gx_Ev lay0 (E0 D) tt_267 (some (.int rr)) σ' 4 [.ref 109, .int a1, .int a2] [] σ) (a1 : Int32) (a2 : Int32) (σ : gx_R) (hf : Md_forNobody_4_B K4 a1 a2 σ = some (rr, σ')) : gx_Ev lay0 (E0 D) tt_267 (some (.int rr)) σ' 4 [.ref 109, .int a1, .int a2] [] σ := by
  unfold Md_forNobody_4_B at hf
  rcases z_if_inv hf with ⟨h1, hf⟩ | ⟨h1, hf⟩
  · obtain ⟨e1, e2⟩ := z_ret hf
    subst e1
    subst e2
    exact gx_end 8 [.inl 1] [vp_in (0 : Int32) 8880, (σ 110 ((0 : Int32).toNatClampNeg)) ≤ a2] rfl ⟨(z_ix_in rfl), h1, trivial⟩
  · obtain ⟨h2, hf⟩ := z_ck_inv hf
    rcases z_if_inv hf with ⟨h3, hf⟩ | ⟨h3, hf⟩
    · obtain ⟨h4, hf⟩ := z_ck_inv hf
      obtain ⟨h5, hf⟩ := z_ck_inv hf
      rcases z_if_inv hf with ⟨h6, hf⟩ | ⟨h6, hf⟩
      · exact gx_go_ 28 [.inl 0, .inl 0, .inl 1] [vp_in (0 : Int32) 8880, ¬ ((σ 110 ((0 : Int32).toNatClampNeg)) ≤ a2), vp_in ((60 : Int32) + a2) 8880, ¬ ¬ ((σ 110 (((60 : Int32) + a2).toNatClampNeg)) = (2 : Int32)), vp_in ((68 : Int32) + a2) 8880, vp_in ((60 : Int32) + (σ 110 (((68 : Int32) + a2).toNatClampNeg))) 8880, (σ 110 (((60 : Int32) + (σ 110 (((68 : Int32) + a2).toNatClampNeg))).toNatClampNeg)) = (1 : Int32)] 36 [.ref 109, .int a1, .int a2] [.int a1] σ rfl ⟨(z_ix_in rfl), h1, (z_ix_in h2), (fun q => q h3), (z_ix_in h4), (z_ix_in h5), h6, trivial⟩ (gx_fgt (ls' := [.ref 109, .null, .int a2]) ⟨Or.inr rfl, Or.inl rfl, Or.inr rfl, trivial⟩ (vv_Md_forNobody_36 D hD rr σ' (Md_forNobody_37 K4) (vv_Md_forNobody_37 D hD rr σ' K4 hK4) a2 a1 σ hf))
      · exact gx_go_ 32 [.inl 0, .inl 0, .inl 0] [vp_in (0 : Int32) 8880, ¬ ((σ 110 ((0 : Int32).toNatClampNeg)) ≤ a2), vp_in ((60 : Int32) + a2) 8880, ¬ ¬ ((σ 110 (((60 : Int32) + a2).toNatClampNeg)) = (2 : Int32)), vp_in ((68 : Int32) + a2) 8880, vp_in ((60 : Int32) + (σ 110 (((68 : Int32) + a2).toNatClampNeg))) 8880, ¬ ((σ 110 (((60 : Int32) + (σ 110 (((68 : Int32) + a2).toNatClampNeg))).toNatClampNeg)) = (1 : Int32))] 37 [.ref 109, .int a1, .int a2] [.int ((1 : Int32) <<< (a2 &&& 31)), .int a1] σ rfl ⟨(z_ix_in rfl), h1, (z_ix_in h2), (fun q => q h3), (z_ix_in h4), (z_ix_in h5), h6, trivial⟩ (gx_fgt (ls' := [.ref 109, .null, .int a2]) ⟨Or.inr rfl, Or.inl rfl, Or.inr rfl, trivial⟩ (vv_Md_forNobody_37 D hD rr σ' K4 hK4 a2 a1 ((1 : Int32) <<< (a2 &&& 31)) σ hf))
    · exact gx_go_ 15 [.inl 0, .inl 1] [vp_in (0 : Int32) 8880, ¬ ((σ 110 ((0 : Int32).toNatClampNeg)) ≤ a2), vp_in ((60 : Int32) + a2) 8880, ¬ ((σ 110 (((60 : Int32) + a2).toNatClampNeg)) = (2 : Int32))] 36 [.ref 109, .int a1, .int a2] [.int a1] σ rfl ⟨(z_ix_in rfl), h1, (z_ix_in h2), h3, trivial⟩ (gx_fgt (ls' := [.ref 109, .null, .int a2]) ⟨Or.inr rfl, Or.inl rfl, Or.inr rfl, trivial⟩ (vv_Md_forNobody_36 D hD rr σ' (Md_forNobody_37 K4) (vv_Md_forNobody_37 D hD rr σ' K4 hK4) a2 a1 σ hf))
set_option maxHeartbeats 16000000 in
set_option maxRecDepth 20000 in
theorem vv_Md_forNobody_4 (D : Nat) (hD : 1 ≤ D + 1) (rr : Int32) (σ' : gx_R) : ∀ (n : Nat) (a1 : Int32) (a2 : Int32) (σ : gx_R), Md_forNobody_4 n a1 a2 σ = some (rr, σ') → gx_Ev lay0 (E0 D) tt_267 (some (.int rr)) σ' 4 [.ref 109, .int a1, .int a2] [] σ := by
  intro n
  induction n with
  | zero => intro a1 a2 σ  hf; cases hf
  | succ n ih => intro a1 a2 σ  hf; exact vv_Md_forNobody_4_B D hD rr σ'  (Md_forNobody_4 n) ih a1 a2 σ  hf
set_option maxHeartbeats 16000000 in
set_option maxRecDepth 20000 in
theorem vv_Md_forNobody_E (D : Nat) (hD : 1 ≤ D + 1) (rr : Int32) (σ' : gx_R) (σ : gx_R) (hf : Md_forNobody  σ = some (rr, σ')) : gx_Ev lay0 (E0 D) tt_267 (some (.int rr)) σ' 0 [.ref 109, .null, .null] [] σ := by
  unfold Md_forNobody at hf
  exact gx_go_ 4 [] [] 4 [.ref 109, .int (0 : Int32), .int (0 : Int32)] [] σ rfl trivial (gx_fgt (ls' := [.ref 109, .int (0 : Int32), .int (0 : Int32)]) ⟨Or.inr rfl, Or.inr rfl, Or.inr rfl, trivial⟩ (vv_Md_forNobody_4 D hD rr σ' z_FU (0 : Int32) (0 : Int32) σ hf))
set_option maxHeartbeats 16000000 in
set_option maxRecDepth 20000 in
theorem ww_Md_forNobody (D : Nat) (hD : 1 ≤ D) (σ : gx_R) (rr : Int32) (σ' : gx_R) (hf : Md_forNobody  σ = some (rr, σ')) : E0 D 267 [.ref 109] σ (some (.int rr)) σ' := by
  cases D with
  | zero => omega
  | succ D => exact Or.inl ⟨Nat.le_of_ble_eq_true rfl, vv_Md_forNobody_E D hD rr σ' σ hf⟩
set_option maxHeartbeats 16000000 in
set_option maxRecDepth 20000 in
theorem vv_Md_image_E (D : Nat) (hD : 2 ≤ D + 1) (rr : Int32) (σ' : gx_R) (σ : gx_R) (hf : Md_image  σ = some (rr, σ')) : gx_Ev lay0 (E0 D) tt_268 (some (.int rr)) σ' 0 [.ref 109] [] σ := by
  unfold Md_image at hf
  obtain ⟨⟨⟩, σ2, h3, hf⟩ := z_bd_inv hf
  obtain ⟨e1, e2⟩ := z_ret hf
  subst e1
  subst e2
  exact gx_end 8 [.inr (none, σ2)] [E0 D 148 [.ref 109, .int (1 : Int32)] σ (none) σ2, vp_in (162 : Int32) 8880] rfl ⟨(ww_Md_copies D (by omega) (1 : Int32) σ () σ2 h3), (z_ix_in rfl), trivial⟩
set_option maxHeartbeats 16000000 in
set_option maxRecDepth 20000 in
theorem ww_Md_image (D : Nat) (hD : 2 ≤ D) (σ : gx_R) (rr : Int32) (σ' : gx_R) (hf : Md_image  σ = some (rr, σ')) : E0 D 268 [.ref 109] σ (some (.int rr)) σ' := by
  cases D with
  | zero => omega
  | succ D => exact Or.inl ⟨Nat.le_of_ble_eq_true rfl, vv_Md_image_E D hD rr σ' σ hf⟩
set_option maxHeartbeats 16000000 in
set_option maxRecDepth 20000 in
theorem vv_Md_back_E (D : Nat) (hD : 2 ≤ D + 1) (rr : Int32) (σ' : gx_R) (σ : gx_R) (hf : Md_back  σ = some (rr, σ')) : gx_Ev lay0 (E0 D) tt_269 (some (.int rr)) σ' 0 [.ref 109] [] σ := by
  unfold Md_back at hf
  obtain ⟨⟨⟩, σ2, h3, hf⟩ := z_bd_inv hf
  obtain ⟨e1, e2⟩ := z_ret hf
  subst e1
  subst e2
  exact gx_end 8 [.inr (none, σ2)] [E0 D 148 [.ref 109, .int (0 : Int32)] σ (none) σ2, vp_in (162 : Int32) 8880] rfl ⟨(ww_Md_copies D (by omega) (0 : Int32) σ () σ2 h3), (z_ix_in rfl), trivial⟩
set_option maxHeartbeats 16000000 in
set_option maxRecDepth 20000 in
theorem ww_Md_back (D : Nat) (hD : 2 ≤ D) (σ : gx_R) (rr : Int32) (σ' : gx_R) (hf : Md_back  σ = some (rr, σ')) : E0 D 269 [.ref 109] σ (some (.int rr)) σ' := by
  cases D with
  | zero => omega
  | succ D => exact Or.inl ⟨Nat.le_of_ble_eq_true rfl, vv_Md_back_E D hD rr σ' σ hf⟩
set_option maxHeartbeats 16000000 in
set_option maxRecDepth 20000 in
theorem vv_Md_about_E (D : Nat) (hD : 2 ≤ D + 1) (rr : Int32) (σ' : gx_R) (a1 : Int32) (σ : gx_R) (hf : Md_about a1 σ = some (rr, σ')) : gx_Ev lay0 (E0 D) tt_270 (some (.int rr)) σ' 0 [.ref 109, .int a1] [] σ := by
  unfold Md_about at hf
  obtain ⟨⟨⟩, σ2, h3, hf⟩ := z_bd_inv hf
  rcases z_if_inv hf with ⟨h4, hf⟩ | ⟨h4, hf⟩
  · obtain ⟨e1, e2⟩ := z_ret hf
    subst e1
    subst e2
    exact gx_end 9 [.inr (none, σ2), .inl 1] [E0 D 198 [.ref 109] σ (none) σ2, a1.toInt = 0 + (0 : Nat), vp_in (0 : Int32) 8880] rfl ⟨(ww_Md_laysNow D (by omega) σ () σ2 h3), (z_sw_in h4 (by decide)), (z_ix_in rfl), trivial⟩
  · skip
    rcases z_if_inv hf with ⟨h5, hf⟩ | ⟨h5, hf⟩
    · obtain ⟨e1, e2⟩ := z_ret hf
      subst e1
      subst e2
      exact gx_end 9 [.inr (none, σ2), .inl 2] [E0 D 198 [.ref 109] σ (none) σ2, a1.toInt = 0 + (1 : Nat), vp_in (1 : Int32) 8880] rfl ⟨(ww_Md_laysNow D (by omega) σ () σ2 h3), (z_sw_in h5 (by decide)), (z_ix_in rfl), trivial⟩
    · skip
      rcases z_if_inv hf with ⟨h6, hf⟩ | ⟨h6, hf⟩
      · obtain ⟨e1, e2⟩ := z_ret hf
        subst e1
        subst e2
        exact gx_end 9 [.inr (none, σ2), .inl 3] [E0 D 198 [.ref 109] σ (none) σ2, a1.toInt = 0 + (2 : Nat), vp_in (162 : Int32) 8880] rfl ⟨(ww_Md_laysNow D (by omega) σ () σ2 h3), (z_sw_in h6 (by decide)), (z_ix_in rfl), trivial⟩
      · skip
        rcases z_if_inv hf with ⟨h7, hf⟩ | ⟨h7, hf⟩
        · obtain ⟨e1, e2⟩ := z_ret hf
          subst e1
          subst e2
          exact gx_end 9 [.inr (none, σ2), .inl 4] [E0 D 198 [.ref 109] σ (none) σ2, a1.toInt = 0 + (3 : Nat), vp_in (163 : Int32) 8880] rfl ⟨(ww_Md_laysNow D (by omega) σ () σ2 h3), (z_sw_in h7 (by decide)), (z_ix_in rfl), trivial⟩
        · skip
          rcases z_if_inv hf with ⟨h8, hf⟩ | ⟨h8, hf⟩
          · obtain ⟨e1, e2⟩ := z_ret hf
            subst e1
            subst e2
            exact gx_end 9 [.inr (none, σ2), .inl 5] [E0 D 198 [.ref 109] σ (none) σ2, a1.toInt = 0 + (4 : Nat), vp_in (2 : Int32) 8880] rfl ⟨(ww_Md_laysNow D (by omega) σ () σ2 h3), (z_sw_in h8 (by decide)), (z_ix_in rfl), trivial⟩
          · skip
            rcases z_if_inv hf with ⟨h9, hf⟩ | ⟨h9, hf⟩
            · obtain ⟨e1, e2⟩ := z_ret hf
              subst e1
              subst e2
              exact gx_end 9 [.inr (none, σ2), .inl 6] [E0 D 198 [.ref 109] σ (none) σ2, a1.toInt = 0 + (5 : Nat), vp_in (3 : Int32) 8880] rfl ⟨(ww_Md_laysNow D (by omega) σ () σ2 h3), (z_sw_in h9 (by decide)), (z_ix_in rfl), trivial⟩
            · skip
              rcases z_if_inv hf with ⟨h10, hf⟩ | ⟨h10, hf⟩
              · obtain ⟨e1, e2⟩ := z_ret hf
                subst e1
                subst e2
                exact gx_end 9 [.inr (none, σ2), .inl 7] [E0 D 198 [.ref 109] σ (none) σ2, a1.toInt = 0 + (6 : Nat), vp_in (4 : Int32) 8880] rfl ⟨(ww_Md_laysNow D (by omega) σ () σ2 h3), (z_sw_in h10 (by decide)), (z_ix_in rfl), trivial⟩
              · skip
                rcases z_if_inv hf with ⟨h11, hf⟩ | ⟨h11, hf⟩
                · obtain ⟨r12, σ13, h14, hf⟩ := z_bd_inv hf
                  obtain ⟨e1, e2⟩ := z_ret hf
                  subst e1
                  subst e2
                  exact gx_end 8 [.inr (none, σ2), .inl 8, .inr (some (.int r12), σ13)] [E0 D 198 [.ref 109] σ (none) σ2, a1.toInt = 0 + (7 : Nat), E0 D 206 [.ref 109, .int (1 : Int32)] σ2 (some (.int r12)) σ13] rfl ⟨(ww_Md_laysNow D (by omega) σ () σ2 h3), (z_sw_in h11 (by decide)), (ww_Md_allThat D (by omega) (1 : Int32) σ2 r12 σ13 h14), trivial⟩
                · skip
                  rcases z_if_inv hf with ⟨h15, hf⟩ | ⟨h15, hf⟩
                  · obtain ⟨r16, σ17, h18, hf⟩ := z_bd_inv hf
                    obtain ⟨e1, e2⟩ := z_ret hf
                    subst e1
                    subst e2
                    exact gx_end 8 [.inr (none, σ2), .inl 9, .inr (some (.int r16), σ17)] [E0 D 198 [.ref 109] σ (none) σ2, a1.toInt = 0 + (8 : Nat), E0 D 206 [.ref 109, .int (2 : Int32)] σ2 (some (.int r16)) σ17] rfl ⟨(ww_Md_laysNow D (by omega) σ () σ2 h3), (z_sw_in h15 (by decide)), (ww_Md_allThat D (by omega) (2 : Int32) σ2 r16 σ17 h18), trivial⟩
                  · skip
                    rcases z_if_inv hf with ⟨h19, hf⟩ | ⟨h19, hf⟩
                    · obtain ⟨e1, e2⟩ := z_ret hf
                      subst e1
                      subst e2
                      exact gx_end 7 [.inr (none, σ2), .inl 10] [E0 D 198 [.ref 109] σ (none) σ2, a1.toInt = 0 + (9 : Nat)] rfl ⟨(ww_Md_laysNow D (by omega) σ () σ2 h3), (z_sw_in h19 (by decide)), trivial⟩
                    · skip
                      refine gx_go_ 3 [.inr (none, σ2)] [E0 D 198 [.ref 109] σ (none) σ2] 3 [.ref 109, .int a1] [.int a1] σ2 rfl ⟨(ww_Md_laysNow D (by omega) σ () σ2 h3), trivial⟩ ?_
                      refine gx_sw (td := 50) (tt := [4, 9, 14, 19, 24, 29, 34, 39, 43, 47]) (lo := 0) rfl rfl ?_
                      rw [gx_swt_df (td := 50) (tt := [4, 9, 14, 19, 24, 29, 34, 39, 43, 47]) (lo := 0) ⟨Or.inr (z_sw_ne h4 (by decide)), Or.inr (z_sw_ne h5 (by decide)), Or.inr (z_sw_ne h6 (by decide)), Or.inr (z_sw_ne h7 (by decide)), Or.inr (z_sw_ne h8 (by decide)), Or.inr (z_sw_ne h9 (by decide)), Or.inr (z_sw_ne h10 (by decide)), Or.inr (z_sw_ne h11 (by decide)), Or.inr (z_sw_ne h15 (by decide)), Or.inr (z_sw_ne h19 (by decide)), trivial⟩]
                      obtain ⟨e1, e2⟩ := z_ret hf
                      subst e1
                      subst e2
                      exact gx_end 2 [] [] rfl trivial
set_option maxHeartbeats 16000000 in
set_option maxRecDepth 20000 in
theorem ww_Md_about (D : Nat) (hD : 2 ≤ D) (a1 : Int32) (σ : gx_R) (rr : Int32) (σ' : gx_R) (hf : Md_about a1 σ = some (rr, σ')) : E0 D 270 [.ref 109, .int a1] σ (some (.int rr)) σ' := by
  cases D with
  | zero => omega
  | succ D => exact Or.inl ⟨Nat.le_of_ble_eq_true rfl, vv_Md_about_E D hD rr σ' a1 σ hf⟩
