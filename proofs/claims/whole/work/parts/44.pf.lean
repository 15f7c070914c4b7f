set_option maxHeartbeats 16000000 in
set_option maxRecDepth 20000 in
theorem vv_Md_may_E (D : Nat) (hD : 3 ≤ D + 1) (rr : Int32) (σ' : gx_R) (a1 : Int32) (a2 : Int32) (σ : gx_R) (hf : Md_may a1 a2 σ = some (rr, σ')) : gx_Ev lay0 (E0 D) tt_154 (some (.int rr)) σ' 0 [.ref 109, .int a1, .int a2] [] σ := by
  unfold Md_may at hf
  obtain ⟨r1, σ2, h3, hf⟩ := z_bd_inv hf
  rcases z_if_inv hf with ⟨h4, hf⟩ | ⟨h4, hf⟩
  · obtain ⟨e1, e2⟩ := z_ret hf
    subst e1
    subst e2
    exact gx_end 6 [.inr (some (.int r1), σ2), .inl 1] [E0 D 149 [.ref 109, .int a1] σ (some (.int r1)) σ2, r1 = 0, (0 : Int32) &&& 1 = (0 : Int32)] rfl ⟨(ww_Md_isPerson D (by omega) a1 σ r1 σ2 h3), h4, rfl, trivial⟩
  · obtain ⟨r5, σ6, h7, hf⟩ := z_bd_inv hf
    rcases z_if_inv hf with ⟨h8, hf⟩ | ⟨h8, hf⟩
    · obtain ⟨e1, e2⟩ := z_ret hf
      subst e1
      subst e2
      exact gx_end 10 [.inr (some (.int r1), σ2), .inl 0, .inr (some (.int r5), σ6), .inl 1] [E0 D 149 [.ref 109, .int a1] σ (some (.int r1)) σ2, ¬ (r1 = 0), E0 D 149 [.ref 109, .int a2] σ2 (some (.int r5)) σ6, r5 = 0, (0 : Int32) &&& 1 = (0 : Int32)] rfl ⟨(ww_Md_isPerson D (by omega) a1 σ r1 σ2 h3), h4, (ww_Md_isPerson D (by omega) a2 σ2 r5 σ6 h7), h8, rfl, trivial⟩
    · rcases z_if_inv hf with ⟨h9, hf⟩ | ⟨h9, hf⟩
      · obtain ⟨e1, e2⟩ := z_ret hf
        subst e1
        subst e2
        exact gx_end 13 [.inr (some (.int r1), σ2), .inl 0, .inr (some (.int r5), σ6), .inl 0, .inl 1] [E0 D 149 [.ref 109, .int a1] σ (some (.int r1)) σ2, ¬ (r1 = 0), E0 D 149 [.ref 109, .int a2] σ2 (some (.int r5)) σ6, ¬ (r5 = 0), a1 = a2, (0 : Int32) &&& 1 = (0 : Int32)] rfl ⟨(ww_Md_isPerson D (by omega) a1 σ r1 σ2 h3), h4, (ww_Md_isPerson D (by omega) a2 σ2 r5 σ6 h7), h8, h9, rfl, trivial⟩
      · obtain ⟨h10, hf⟩ := z_ck_inv hf
        obtain ⟨r11, σ12, h13, hf⟩ := z_bd_inv hf
        rcases z_if_inv hf with ⟨h14, hf⟩ | ⟨h14, hf⟩
        · obtain ⟨h15, hf⟩ := z_ck_inv hf
          obtain ⟨h16, hf⟩ := z_ck_inv hf
          obtain ⟨e1, e2⟩ := z_ret hf
          subst e1
          subst e2
          exact gx_end 38 [.inr (some (.int r1), σ2), .inl 0, .inr (some (.int r5), σ6), .inl 0, .inl 0, .inr (some (.int r11), σ12), .inl 1] [E0 D 149 [.ref 109, .int a1] σ (some (.int r1)) σ2, ¬ (r1 = 0), E0 D 149 [.ref 109, .int a2] σ2 (some (.int r5)) σ6, ¬ (r5 = 0), ¬ (a1 = a2), vp_in ((26 : Int32) + a1) 8880, E0 D 146 [.int (σ6 110 (((26 : Int32) + a1).toNatClampNeg)), .int a2] σ6 (some (.int r11)) σ12, r11 = 0, vp_in ((26 : Int32) + a1) 8880, vp_in ((26 : Int32) + a1) 8880, (1 : Int32) &&& 1 = (1 : Int32)] rfl ⟨(ww_Md_isPerson D (by omega) a1 σ r1 σ2 h3), h4, (ww_Md_isPerson D (by omega) a2 σ2 r5 σ6 h7), h8, h9, (z_ix_in h10), (ww_Md_has D (by omega) (σ6 110 (((26 : Int32) + a1).toNatClampNeg)) a2 σ6 r11 σ12 h13), h14, (z_ix_in h15), (z_ix_in h16), rfl, trivial⟩
        · obtain ⟨e1, e2⟩ := z_ret hf
          subst e1
          subst e2
          exact gx_end 22 [.inr (some (.int r1), σ2), .inl 0, .inr (some (.int r5), σ6), .inl 0, .inl 0, .inr (some (.int r11), σ12), .inl 0] [E0 D 149 [.ref 109, .int a1] σ (some (.int r1)) σ2, ¬ (r1 = 0), E0 D 149 [.ref 109, .int a2] σ2 (some (.int r5)) σ6, ¬ (r5 = 0), ¬ (a1 = a2), vp_in ((26 : Int32) + a1) 8880, E0 D 146 [.int (σ6 110 (((26 : Int32) + a1).toNatClampNeg)), .int a2] σ6 (some (.int r11)) σ12, ¬ (r11 = 0), (0 : Int32) &&& 1 = (0 : Int32)] rfl ⟨(ww_Md_isPerson D (by omega) a1 σ r1 σ2 h3), h4, (ww_Md_isPerson D (by omega) a2 σ2 r5 σ6 h7), h8, h9, (z_ix_in h10), (ww_Md_has D (by omega) (σ6 110 (((26 : Int32) + a1).toNatClampNeg)) a2 σ6 r11 σ12 h13), h14, rfl, trivial⟩
set_option maxHeartbeats 16000000 in
set_option maxRecDepth 20000 in
theorem ww_Md_may (D : Nat) (hD : 3 ≤ D) (a1 : Int32) (a2 : Int32) (σ : gx_R) (rr : Int32) (σ' : gx_R) (hf : Md_may a1 a2 σ = some (rr, σ')) : E0 D 154 [.ref 109, .int a1, .int a2] σ (some (.int rr)) σ' := by
  cases D with
  | zero => omega
  | succ D => exact Or.inl ⟨Nat.le_of_ble_eq_true rfl, vv_Md_may_E D hD rr σ' a1 a2 σ hf⟩
set_option maxHeartbeats 16000000 in
set_option maxRecDepth 20000 in
theorem vv_Md_hears_E (D : Nat) (hD : 3 ≤ D + 1) (rr : Int32) (σ' : gx_R) (a1 : Int32) (a2 : Int32) (σ : gx_R) (hf : Md_hears a1 a2 σ = some (rr, σ')) : gx_Ev lay0 (E0 D) tt_155 (some (.int rr)) σ' 0 [.ref 109, .int a1, .int a2] [] σ := by
  unfold Md_hears at hf
  obtain ⟨r1, σ2, h3, hf⟩ := z_bd_inv hf
  rcases z_if_inv hf with ⟨h4, hf⟩ | ⟨h4, hf⟩
  · obtain ⟨e1, e2⟩ := z_ret hf
    subst e1
    subst e2
    exact gx_end 6 [.inr (some (.int r1), σ2), .inl 1] [E0 D 149 [.ref 109, .int a1] σ (some (.int r1)) σ2, r1 = 0, (0 : Int32) &&& 1 = (0 : Int32)] rfl ⟨(ww_Md_isPerson D (by omega) a1 σ r1 σ2 h3), h4, rfl, trivial⟩
  · obtain ⟨r5, σ6, h7, hf⟩ := z_bd_inv hf
    rcases z_if_inv hf with ⟨h8, hf⟩ | ⟨h8, hf⟩
    · obtain ⟨e1, e2⟩ := z_ret hf
      subst e1
      subst e2
      exact gx_end 10 [.inr (some (.int r1), σ2), .inl 0, .inr (some (.int r5), σ6), .inl 1] [E0 D 149 [.ref 109, .int a1] σ (some (.int r1)) σ2, ¬ (r1 = 0), E0 D 149 [.ref 109, .int a2] σ2 (some (.int r5)) σ6, r5 = 0, (0 : Int32) &&& 1 = (0 : Int32)] rfl ⟨(ww_Md_isPerson D (by omega) a1 σ r1 σ2 h3), h4, (ww_Md_isPerson D (by omega) a2 σ2 r5 σ6 h7), h8, rfl, trivial⟩
    · rcases z_if_inv hf with ⟨h9, hf⟩ | ⟨h9, hf⟩
      · obtain ⟨e1, e2⟩ := z_ret hf
        subst e1
        subst e2
        exact gx_end 13 [.inr (some (.int r1), σ2), .inl 0, .inr (some (.int r5), σ6), .inl 0, .inl 1] [E0 D 149 [.ref 109, .int a1] σ (some (.int r1)) σ2, ¬ (r1 = 0), E0 D 149 [.ref 109, .int a2] σ2 (some (.int r5)) σ6, ¬ (r5 = 0), a1 = a2, (0 : Int32) &&& 1 = (0 : Int32)] rfl ⟨(ww_Md_isPerson D (by omega) a1 σ r1 σ2 h3), h4, (ww_Md_isPerson D (by omega) a2 σ2 r5 σ6 h7), h8, h9, rfl, trivial⟩
      · obtain ⟨h10, hf⟩ := z_ck_inv hf
        obtain ⟨r11, σ12, h13, hf⟩ := z_bd_inv hf
        rcases z_if_inv hf with ⟨h14, hf⟩ | ⟨h14, hf⟩
        · obtain ⟨h15, hf⟩ := z_ck_inv hf
          obtain ⟨h16, hf⟩ := z_ck_inv hf
          obtain ⟨h17, hf⟩ := z_ck_inv hf
          obtain ⟨h18, hf⟩ := z_ck_inv hf
          obtain ⟨e1, e2⟩ := z_ret hf
          subst e1
          subst e2
          exact gx_end 54 [.inr (some (.int r1), σ2), .inl 0, .inr (some (.int r5), σ6), .inl 0, .inl 0, .inr (some (.int r11), σ12), .inl 1] [E0 D 149 [.ref 109, .int a1] σ (some (.int r1)) σ2, ¬ (r1 = 0), E0 D 149 [.ref 109, .int a2] σ2 (some (.int r5)) σ6, ¬ (r5 = 0), ¬ (a1 = a2), vp_in ((34 : Int32) + a1) 8880, E0 D 146 [.int (σ6 110 (((34 : Int32) + a1).toNatClampNeg)), .int a2] σ6 (some (.int r11)) σ12, r11 = 0, vp_in ((34 : Int32) + a1) 8880, vp_in ((34 : Int32) + a1) 8880, vp_in ((34 : Int32) + a2) 8880, vp_in ((34 : Int32) + a2) 8880, (1 : Int32) &&& 1 = (1 : Int32)] rfl ⟨(ww_Md_isPerson D (by omega) a1 σ r1 σ2 h3), h4, (ww_Md_isPerson D (by omega) a2 σ2 r5 σ6 h7), h8, h9, (z_ix_in h10), (ww_Md_has D (by omega) (σ6 110 (((34 : Int32) + a1).toNatClampNeg)) a2 σ6 r11 σ12 h13), h14, (z_ix_in h15), (z_ix_in h16), (z_ix_in h17), (z_ix_in h18), rfl, trivial⟩
        · obtain ⟨e1, e2⟩ := z_ret hf
          subst e1
          subst e2
          exact gx_end 22 [.inr (some (.int r1), σ2), .inl 0, .inr (some (.int r5), σ6), .inl 0, .inl 0, .inr (some (.int r11), σ12), .inl 0] [E0 D 149 [.ref 109, .int a1] σ (some (.int r1)) σ2, ¬ (r1 = 0), E0 D 149 [.ref 109, .int a2] σ2 (some (.int r5)) σ6, ¬ (r5 = 0), ¬ (a1 = a2), vp_in ((34 : Int32) + a1) 8880, E0 D 146 [.int (σ6 110 (((34 : Int32) + a1).toNatClampNeg)), .int a2] σ6 (some (.int r11)) σ12, ¬ (r11 = 0), (0 : Int32) &&& 1 = (0 : Int32)] rfl ⟨(ww_Md_isPerson D (by omega) a1 σ r1 σ2 h3), h4, (ww_Md_isPerson D (by omega) a2 σ2 r5 σ6 h7), h8, h9, (z_ix_in h10), (ww_Md_has D (by omega) (σ6 110 (((34 : Int32) + a1).toNatClampNeg)) a2 σ6 r11 σ12 h13), h14, rfl, trivial⟩
set_option maxHeartbeats 16000000 in
set_option maxRecDepth 20000 in
theorem ww_Md_hears (D : Nat) (hD : 3 ≤ D) (a1 : Int32) (a2 : Int32) (σ : gx_R) (rr : Int32) (σ' : gx_R) (hf : Md_hears a1 a2 σ = some (rr, σ')) : E0 D 155 [.ref 109, .int a1, .int a2] σ (some (.int rr)) σ' := by
  cases D with
  | zero => omega
  | succ D => exact Or.inl ⟨Nat.le_of_ble_eq_true rfl, vv_Md_hears_E D hD rr σ' a1 a2 σ hf⟩
set_option maxHeartbeats 16000000 in
set_option maxRecDepth 20000 in
theorem vv_Md_keepsStep_23 (D : Nat) (hD : 1 ≤ D + 1) (rr : Unit) (σ' : gx_R) (K28 : gx_R → Option (Unit × gx_R)) (hK28 : ∀ (σ : gx_R), K28  σ = some (rr, σ') → gx_Ev lay0 (E0 D) tt_156 none σ' 28 [.ref 109, .null] [] σ) (σ : gx_R) (hf : Md_keepsStep_23 K28  σ = some (rr, σ')) : gx_Ev lay0 (E0 D) tt_156 none σ' 23 [.ref 109, .null] [] σ := by
  unfold Md_keepsStep_23 at hf
  exact gx_go_ 5 [] [vp_in (4 : Int32) 8880] 28 [.ref 109, .null] [] (gx_up σ 110 (4 : Int32).toNatClampNeg (29 : Int32)) rfl ⟨(z_ix_in rfl), trivial⟩ (gx_fgt (ls' := [.ref 109, .null]) ⟨Or.inr rfl, Or.inl rfl, trivial⟩ (hK28 (gx_up σ 110 (4 : Int32).toNatClampNeg (29 : Int32)) hf))
set_option maxHeartbeats 16000000 in
set_option maxRecDepth 20000 in
theorem vv_Md_keepsStep_54 (D : Nat) (hD : 1 ≤ D + 1) (rr : Unit) (σ' : gx_R) (σ : gx_R) (hf : Md_keepsStep_54  σ = some (rr, σ')) : gx_Ev lay0 (E0 D) tt_156 none σ' 54 [.ref 109, .null] [] σ := by
  unfold Md_keepsStep_54 at hf
  obtain ⟨e1, e2⟩ := z_ret hf
  subst e1
  subst e2
  exact gx_end 9 [] [vp_in (4 : Int32) 8880, vp_in (4 : Int32) 8880] rfl ⟨(z_ix_in rfl), (z_ix_in rfl), trivial⟩
set_option maxHeartbeats 16000000 in
set_option maxRecDepth 20000 in
theorem vv_Md_keepsStep_8_B (D : Nat) (hD : 1 ≤ D + 1) (rr : Unit) (σ' : gx_R) (K28 : gx_R → Option (Unit × gx_R)) (hK28 : ∀ (σ : gx_R), K28  σ = some (rr, σ') → gx_Ev lay0 (E0 D) tt_156 none σ' 28 [.ref 109, .null] [] σ) (K8 : Int32 → gx_R → Option (Unit × gx_R)) (hK8 : ∀ (a1 : Int32) (σ : gx_R), K8 a1 σ = some (rr, σ') → gx_Ev lay0 (E0 D) tt_156 none σ' 8 [.ref 109, .int a1] [] σ) (a1 : Int32) (σ : gx_R) (hf : Md_keepsStep_8_B K28 K8 a1 σ = some (rr, σ')) : gx_Ev lay0 (E0 D) tt_156 none σ' 8 [.ref 109, .int a1] [] σ := by
  unfold Md_keepsStep_8_B at hf
  rcases z_if_inv hf with ⟨h1, hf⟩ | ⟨h1, hf⟩
  · exact gx_go_ 3 [.inl 1] [(8596 : Int32) ≤ a1] 23 [.ref 109, .int a1] [] σ rfl ⟨h1, trivial⟩ (gx_fgt (ls' := [.ref 109, .null]) ⟨Or.inr rfl, Or.inl rfl, trivial⟩ (vv_Md_keepsStep_23 D hD rr σ' K28 hK28 σ hf))
  · obtain ⟨h2, hf⟩ := z_ck_inv hf
    obtain ⟨h3, hf⟩ := z_ck_inv hf
    exact gx_go_ 15 [.inl 0] [¬ ((8596 : Int32) ≤ a1), vp_in (a1 + (284 : Int32)) 8880, vp_in a1 8880] 8 [.ref 109, .int (a1 + 1)] [] (gx_up σ 110 a1.toNatClampNeg (σ 110 ((a1 + (284 : Int32)).toNatClampNeg))) rfl ⟨h1, (z_ix_in h2), (z_ix_in h3), trivial⟩ (gx_fgt (ls' := [.ref 109, .int (a1 + 1)]) ⟨Or.inr rfl, Or.inr rfl, trivial⟩ (hK8 (a1 + 1) (gx_up σ 110 a1.toNatClampNeg (σ 110 ((a1 + (284 : Int32)).toNatClampNeg))) hf))
set_option maxHeartbeats 16000000 in
set_option maxRecDepth 20000 in
theorem vv_Md_keepsStep_8 (D : Nat) (hD : 1 ≤ D + 1) (rr : Unit) (σ' : gx_R) (K28 : gx_R → Option (Unit × gx_R)) (hK28 : ∀ (σ : gx_R), K28  σ = some (rr, σ') → gx_Ev lay0 (E0 D) tt_156 none σ' 28 [.ref 109, .null] [] σ) : ∀ (n : Nat) (a1 : Int32) (σ : gx_R), Md_keepsStep_8 K28 n a1 σ = some (rr, σ') → gx_Ev lay0 (E0 D) tt_156 none σ' 8 [.ref 109, .int a1] [] σ := by
  intro n
  induction n with
  | zero => intro a1 σ  hf; cases hf
  | succ n ih => intro a1 σ  hf; exact vv_Md_keepsStep_8_B D hD rr σ'  K28 hK28 (Md_keepsStep_8 K28 n) ih a1 σ  hf
set_option maxHeartbeats 16000000 in
set_option maxRecDepth 20000 in
theorem vv_Md_keepsStep_30_B (D : Nat) (hD : 1 ≤ D + 1) (rr : Unit) (σ' : gx_R) (K30 : Int32 → gx_R → Option (Unit × gx_R)) (hK30 : ∀ (a1 : Int32) (σ : gx_R), K30 a1 σ = some (rr, σ') → gx_Ev lay0 (E0 D) tt_156 none σ' 30 [.ref 109, .int a1] [] σ) (a1 : Int32) (σ : gx_R) (hf : Md_keepsStep_30_B K30 a1 σ = some (rr, σ')) : gx_Ev lay0 (E0 D) tt_156 none σ' 30 [.ref 109, .int a1] [] σ := by
  unfold Md_keepsStep_30_B at hf
  rcases z_if_inv hf with ⟨h1, hf⟩ | ⟨h1, hf⟩
  · exact gx_go_ 3 [.inl 1] [(284 : Int32) ≤ a1] 54 [.ref 109, .int a1] [] σ rfl ⟨h1, trivial⟩ (gx_fgt (ls' := [.ref 109, .null]) ⟨Or.inr rfl, Or.inl rfl, trivial⟩ (vv_Md_keepsStep_54 D hD rr σ' σ hf))
  · obtain ⟨h2, hf⟩ := z_ck_inv hf
    obtain ⟨h3, hf⟩ := z_ck_inv hf
    exact gx_go_ 24 [.inl 0] [¬ ((284 : Int32) ≤ a1), vp_in (4 : Int32) 8880, vp_in ((60 : Int32) + a1) 8880, vp_in (((360 : Int32) + ((284 : Int32) * (σ 110 ((4 : Int32).toNatClampNeg)))) + a1) 8880] 30 [.ref 109, .int (a1 + 1)] [] (gx_up σ 110 (((360 : Int32) + ((284 : Int32) * (σ 110 ((4 : Int32).toNatClampNeg)))) + a1).toNatClampNeg (σ 110 (((60 : Int32) + a1).toNatClampNeg))) rfl ⟨h1, (z_ix_in rfl), (z_ix_in h2), (z_ix_in h3), trivial⟩ (gx_fgt (ls' := [.ref 109, .int (a1 + 1)]) ⟨Or.inr rfl, Or.inr rfl, trivial⟩ (hK30 (a1 + 1) (gx_up σ 110 (((360 : Int32) + ((284 : Int32) * (σ 110 ((4 : Int32).toNatClampNeg)))) + a1).toNatClampNeg (σ 110 (((60 : Int32) + a1).toNatClampNeg))) hf))
set_option maxHeartbeats 16000000 in
set_option maxRecDepth 20000 in
theorem vv_Md_keepsStep_30 (D : Nat) (hD : 1 ≤ D + 1) (rr : Unit) (σ' : gx_R) : ∀ (n : Nat) (a1 : Int32) (σ : gx_R), Md_keepsStep_30 n a1 σ = some (rr, σ') → gx_Ev lay0 (E0 D) tt_156 none σ' 30 [.ref 109, .int a1] [] σ := by
  intro n
  induction n with
  | zero => intro a1 σ  hf; cases hf
  | succ n ih => intro a1 σ  hf; exact vv_Md_keepsStep_30_B D hD rr σ'  (Md_keepsStep_30 n) ih a1 σ  hf
set_option maxHeartbeats 16000000 in
set_option maxRecDepth 20000 in
theorem vv_Md_keepsStep_28 (D : Nat) (hD : 1 ≤ D + 1) (rr : Unit) (σ' : gx_R) (σ : gx_R) (hf : Md_keepsStep_28  σ = some (rr, σ')) : gx_Ev lay0 (E0 D) tt_156 none σ' 28 [.ref 109, .null] [] σ := by
  unfold Md_keepsStep_28 at hf
  exact gx_go_ 2 [] [] 30 [.ref 109, .int (0 : Int32)] [] σ rfl trivial (gx_fgt (ls' := [.ref 109, .int (0 : Int32)]) ⟨Or.inr rfl, Or.inr rfl, trivial⟩ (vv_Md_keepsStep_30 D hD rr σ' z_FU (0 : Int32) σ hf))
set_option maxHeartbeats 16000000 in
set_option maxRecDepth 20000 in
theorem vv_Md_keepsStep_E (D : Nat) (hD : 1 ≤ D + 1) (rr : Unit) (σ' : gx_R) (σ : gx_R) (hf : Md_keepsStep  σ = some (rr, σ')) : gx_Ev lay0 (E0 D) tt_156 none σ' 0 [.ref 109, .null] [] σ := by
  unfold Md_keepsStep at hf
  rcases z_if_inv hf with ⟨h1, hf⟩ | ⟨h1, hf⟩
  · exact gx_go_ 8 [.inl 0] [vp_in (4 : Int32) 8880, ¬ ¬ ((σ 110 ((4 : Int32).toNatClampNeg)) = (30 : Int32))] 8 [.ref 109, .int (360 : Int32)] [] σ rfl ⟨(z_ix_in rfl), (fun q => q h1), trivial⟩ (gx_fgt (ls' := [.ref 109, .int (360 : Int32)]) ⟨Or.inr rfl, Or.inr rfl, trivial⟩ (vv_Md_keepsStep_8 D hD rr σ' (Md_keepsStep_28) (vv_Md_keepsStep_28 D hD rr σ') z_FU (360 : Int32) σ hf))
  · exact gx_go_ 6 [.inl 1] [vp_in (4 : Int32) 8880, ¬ ((σ 110 ((4 : Int32).toNatClampNeg)) = (30 : Int32))] 28 [.ref 109, .null] [] σ rfl ⟨(z_ix_in rfl), h1, trivial⟩ (gx_fgt (ls' := [.ref 109, .null]) ⟨Or.inr rfl, Or.inl rfl, trivial⟩ (vv_Md_keepsStep_28 D hD rr σ' σ hf))
set_option maxHeartbeats 16000000 in
set_option maxRecDepth 20000 in
theorem ww_Md_keepsStep (D : Nat) (hD : 1 ≤ D) (σ : gx_R) (rr : Unit) (σ' : gx_R) (hf : Md_keepsStep  σ = some (rr, σ')) : E0 D 156 [.ref 109] σ none σ' := by
  cases D with
  | zero => omega
  | succ D => exact Or.inl ⟨Nat.le_of_ble_eq_true rfl, vv_Md_keepsStep_E D hD rr σ' σ hf⟩
set_option maxHeartbeats 16000000 in
set_option maxRecDepth 20000 in
theorem vv_Md_undo_41 (D : Nat) (hD : 1 ≤ D + 1) (rr : Int32) (σ' : gx_R) (σ : gx_R) (hf : Md_undo_41  σ = some (rr, σ')) : gx_Ev lay0 (E0 D) tt_157 (some (.int rr)) σ' 41 [.ref 109, .null] [] σ := by
  unfold Md_undo_41 at hf
  obtain ⟨e1, e2⟩ := z_ret hf
  subst e1
  subst e2
  exact gx_end 5 [] [vp_in (4 : Int32) 8880] rfl ⟨(z_ix_in rfl), trivial⟩
set_option maxHeartbeats 16000000 in
set_option maxRecDepth 20000 in
theorem vv_Md_undo_17_B (D : Nat) (hD : 1 ≤ D + 1) (rr : Int32) (σ' : gx_R) (K17 : Int32 → gx_R → Option (Int32 × gx_R)) (hK17 : ∀ (a1 : Int32) (σ : gx_R), K17 a1 σ = some (rr, σ') → gx_Ev lay0 (E0 D) tt_157 (some (.int rr)) σ' 17 [.ref 109, .int a1] [] σ) (a1 : Int32) (σ : gx_R) (hf : Md_undo_17_B K17 a1 σ = some (rr, σ')) : gx_Ev lay0 (E0 D) tt_157 (some (.int rr)) σ' 17 [.ref 109, .int a1] [] σ := by
  unfold Md_undo_17_B at hf
  rcases z_if_inv hf with ⟨h1, hf⟩ | ⟨h1, hf⟩
  · exact gx_go_ 3 [.inl 1] [(284 : Int32) ≤ a1] 41 [.ref 109, .int a1] [] σ rfl ⟨h1, trivial⟩ (gx_fgt (ls' := [.ref 109, .null]) ⟨Or.inr rfl, Or.inl rfl, trivial⟩ (vv_Md_undo_41 D hD rr σ' σ hf))
  · obtain ⟨h2, hf⟩ := z_ck_inv hf
    obtain ⟨h3, hf⟩ := z_ck_inv hf
    exact gx_go_ 24 [.inl 0] [¬ ((284 : Int32) ≤ a1), vp_in (4 : Int32) 8880, vp_in (((360 : Int32) + ((284 : Int32) * (σ 110 ((4 : Int32).toNatClampNeg)))) + a1) 8880, vp_in ((60 : Int32) + a1) 8880] 17 [.ref 109, .int (a1 + 1)] [] (gx_up σ 110 ((60 : Int32) + a1).toNatClampNeg (σ 110 ((((360 : Int32) + ((284 : Int32) * (σ 110 ((4 : Int32).toNatClampNeg)))) + a1).toNatClampNeg))) rfl ⟨h1, (z_ix_in rfl), (z_ix_in h2), (z_ix_in h3), trivial⟩ (gx_fgt (ls' := [.ref 109, .int (a1 + 1)]) ⟨Or.inr rfl, Or.inr rfl, trivial⟩ (hK17 (a1 + 1) (gx_up σ 110 ((60 : Int32) + a1).toNatClampNeg (σ 110 ((((360 : Int32) + ((284 : Int32) * (σ 110 ((4 : Int32).toNatClampNeg)))) + a1).toNatClampNeg))) hf))
set_option maxHeartbeats 16000000 in
set_option maxRecDepth 20000 in
theorem vv_Md_undo_17 (D : Nat) (hD : 1 ≤ D + 1) (rr : Int32) (σ' : gx_R) : ∀ (n : Nat) (a1 : Int32) (σ : gx_R), Md_undo_17 n a1 σ = some (rr, σ') → gx_Ev lay0 (E0 D) tt_157 (some (.int rr)) σ' 17 [.ref 109, .int a1] [] σ := by
  intro n
  induction n with
  | zero => intro a1 σ  hf; cases hf
  | succ n ih => intro a1 σ  hf; exact vv_Md_undo_17_B D hD rr σ'  (Md_undo_17 n) ih a1 σ  hf
set_option maxHeartbeats 16000000 in
set_option maxRecDepth 20000 in
theorem vv_Md_undo_E (D : Nat) (hD : 1 ≤ D + 1) (rr : Int32) (σ' : gx_R) (σ : gx_R) (hf : Md_undo  σ = some (rr, σ')) : gx_Ev lay0 (E0 D) tt_157 (some (.int rr)) σ' 0 [.ref 109, .null] [] σ := by
  unfold Md_undo at hf
  rcases z_if_inv hf with ⟨h1, hf⟩ | ⟨h1, hf⟩
  · obtain ⟨e1, e2⟩ := z_ret hf
    subst e1
    subst e2
    exact gx_end 7 [.inl 0] [vp_in (4 : Int32) 8880, ¬ ¬ ((σ 110 ((4 : Int32).toNatClampNeg)) = 0)] rfl ⟨(z_ix_in rfl), (fun q => q h1), trivial⟩
  · exact gx_go_ 15 [.inl 1] [vp_in (4 : Int32) 8880, ¬ ((σ 110 ((4 : Int32).toNatClampNeg)) = 0), vp_in (4 : Int32) 8880, vp_in (4 : Int32) 8880] 17 [.ref 109, .int (0 : Int32)] [] (gx_up σ 110 (4 : Int32).toNatClampNeg ((σ 110 ((4 : Int32).toNatClampNeg)) - (1 : Int32))) rfl ⟨(z_ix_in rfl), h1, (z_ix_in rfl), (z_ix_in rfl), trivial⟩ (gx_fgt (ls' := [.ref 109, .int (0 : Int32)]) ⟨Or.inr rfl, Or.inr rfl, trivial⟩ (vv_Md_undo_17 D hD rr σ' z_FU (0 : Int32) (gx_up σ 110 (4 : Int32).toNatClampNeg ((σ 110 ((4 : Int32).toNatClampNeg)) - (1 : Int32))) hf))
set_option maxHeartbeats 16000000 in
set_option maxRecDepth 20000 in
theorem ww_Md_undo (D : Nat) (hD : 1 ≤ D) (σ : gx_R) (rr : Int32) (σ' : gx_R) (hf : Md_undo  σ = some (rr, σ')) : E0 D 157 [.ref 109] σ (some (.int rr)) σ' := by
  cases D with
  | zero => omega
  | succ D => exact Or.inl ⟨Nat.le_of_ble_eq_true rfl, vv_Md_undo_E D hD rr σ' σ hf⟩
set_option maxHeartbeats 16000000 in
set_option maxRecDepth 20000 in
theorem vv_Md_put_2_B (D : Nat) (hD : 1 ≤ D + 1) (rr : Unit) (σ' : gx_R) (K2 : Int32 → Int32 → gx_R → Option (Unit × gx_R)) (hK2 : ∀ (a1 : Int32) (a2 : Int32) (σ : gx_R), K2 a1 a2 σ = some (rr, σ') → gx_Ev lay0 (E0 D) tt_158 none σ' 2 [.ref 109, .int a1, .int a2] [] σ) (a1 : Int32) (a2 : Int32) (σ : gx_R) (hf : Md_put_2_B K2 a1 a2 σ = some (rr, σ')) : gx_Ev lay0 (E0 D) tt_158 none σ' 2 [.ref 109, .int a1, .int a2] [] σ := by
  unfold Md_put_2_B at hf
  rcases z_if_inv hf with ⟨h1, hf⟩ | ⟨h1, hf⟩
  · obtain ⟨e1, e2⟩ := z_ret hf
    subst e1
    subst e2
    exact gx_end 3 [.inl 1] [a2 < 0] rfl ⟨h1, trivial⟩
  · obtain ⟨h2, hf⟩ := z_ck_inv hf
    exact gx_go_ 22 [.inl 0] [¬ (a2 < 0), vp_in (σ 109 3) 300] 2 [.ref 109, .int a1, .int (a2 - (8 : Int32))] [] (gx_up (gx_up σ 112 (σ 109 3).toNatClampNeg (vp_nar .byte ((a1 >>> (a2 &&& 31)).toInt8.toInt32))) 109 3 (((gx_up σ 112 (σ 109 3).toNatClampNeg (vp_nar .byte ((a1 >>> (a2 &&& 31)).toInt8.toInt32))) 109 3) + (1 : Int32))) rfl ⟨h1, (z_ix_in h2), trivial⟩ (gx_fgt (ls' := [.ref 109, .int a1, .int (a2 - (8 : Int32))]) ⟨Or.inr rfl, Or.inr rfl, Or.inr rfl, trivial⟩ (hK2 a1 (a2 - (8 : Int32)) (gx_up (gx_up σ 112 (σ 109 3).toNatClampNeg (vp_nar .byte ((a1 >>> (a2 &&& 31)).toInt8.toInt32))) 109 3 (((gx_up σ 112 (σ 109 3).toNatClampNeg (vp_nar .byte ((a1 >>> (a2 &&& 31)).toInt8.toInt32))) 109 3) + (1 : Int32))) hf))
set_option maxHeartbeats 16000000 in
set_option maxRecDepth 20000 in
theorem vv_Md_put_2 (D : Nat) (hD : 1 ≤ D + 1) (rr : Unit) (σ' : gx_R) : ∀ (n : Nat) (a1 : Int32) (a2 : Int32) (σ : gx_R), Md_put_2 n a1 a2 σ = some (rr, σ') → gx_Ev lay0 (E0 D) tt_158 none σ' 2 [.ref 109, .int a1, .int a2] [] σ := by
  intro n
  induction n with
  | zero => intro a1 a2 σ  hf; cases hf
  | succ n ih => intro a1 a2 σ  hf; exact vv_Md_put_2_B D hD rr σ'  (Md_put_2 n) ih a1 a2 σ  hf
set_option maxHeartbeats 16000000 in
set_option maxRecDepth 20000 in
theorem vv_Md_put_E (D : Nat) (hD : 1 ≤ D + 1) (rr : Unit) (σ' : gx_R) (a1 : Int32) (σ : gx_R) (hf : Md_put a1 σ = some (rr, σ')) : gx_Ev lay0 (E0 D) tt_158 none σ' 0 [.ref 109, .int a1, .null] [] σ := by
  unfold Md_put at hf
  exact gx_go_ 2 [] [] 2 [.ref 109, .int a1, .int (24 : Int32)] [] σ rfl trivial (gx_fgt (ls' := [.ref 109, .int a1, .int (24 : Int32)]) ⟨Or.inr rfl, Or.inr rfl, Or.inr rfl, trivial⟩ (vv_Md_put_2 D hD rr σ' z_FU a1 (24 : Int32) σ hf))
set_option maxHeartbeats 16000000 in
set_option maxRecDepth 20000 in
theorem ww_Md_put (D : Nat) (hD : 1 ≤ D) (a1 : Int32) (σ : gx_R) (rr : Unit) (σ' : gx_R) (hf : Md_put a1 σ = some (rr, σ')) : E0 D 158 [.ref 109, .int a1] σ none σ' := by
  cases D with
  | zero => omega
  | succ D => exact Or.inl ⟨Nat.le_of_ble_eq_true rfl, vv_Md_put_E D hD rr σ' a1 σ hf⟩
set_option maxHeartbeats 16000000 in
set_option maxRecDepth 20000 in
theorem vv_Md_feed_E (D : Nat) (hD : 2 ≤ D + 1) (rr : Int32) (σ' : gx_R) (a1 : Int32) (a2 : Int32) (a3 : Int32) (a4 : Int32) (a5 : Int32) (σ : gx_R) (hf : Md_feed a1 a2 a3 a4 a5 σ = some (rr, σ')) : gx_Ev lay0 (E0 D) tt_159 (some (.int rr)) σ' 0 [.ref 109, .int a1, .int a2, .int a3, .int a4, .int a5] [] σ := by
  unfold Md_feed at hf
  rcases z_if_inv hf with ⟨h1, hf⟩ | ⟨h1, hf⟩
  · obtain ⟨⟨⟩, σ3, h4, hf⟩ := z_bd_inv hf
    obtain ⟨⟨⟩, σ6, h7, hf⟩ := z_bd_inv hf
    obtain ⟨⟨⟩, σ9, h10, hf⟩ := z_bd_inv hf
    obtain ⟨⟨⟩, σ12, h13, hf⟩ := z_bd_inv hf
    obtain ⟨⟨⟩, σ15, h16, hf⟩ := z_bd_inv hf
    obtain ⟨e1, e2⟩ := z_ret hf
    subst e1
    subst e2
    exact gx_end 24 [.inl 1, .inr (none, σ3), .inr (none, σ6), .inr (none, σ9), .inr (none, σ12), .inr (none, σ15)] [((σ 109 3) + (20 : Int32)) ≤ (300 : Int32), E0 D 158 [.ref 109, .int a1] σ (none) σ3, E0 D 158 [.ref 109, .int a2] σ3 (none) σ6, E0 D 158 [.ref 109, .int a3] σ6 (none) σ9, E0 D 158 [.ref 109, .int a4] σ9 (none) σ12, E0 D 158 [.ref 109, .int a5] σ12 (none) σ15] rfl ⟨h1, (ww_Md_put D (by omega) a1 σ () σ3 h4), (ww_Md_put D (by omega) a2 σ3 () σ6 h7), (ww_Md_put D (by omega) a3 σ6 () σ9 h10), (ww_Md_put D (by omega) a4 σ9 () σ12 h13), (ww_Md_put D (by omega) a5 σ12 () σ15 h16), trivial⟩
  · obtain ⟨e1, e2⟩ := z_ret hf
    subst e1
    subst e2
    exact gx_end 8 [.inl 0] [¬ (((σ 109 3) + (20 : Int32)) ≤ (300 : Int32))] rfl ⟨h1, trivial⟩
set_option maxHeartbeats 16000000 in
set_option maxRecDepth 20000 in
theorem ww_Md_feed (D : Nat) (hD : 2 ≤ D) (a1 : Int32) (a2 : Int32) (a3 : Int32) (a4 : Int32) (a5 : Int32) (σ : gx_R) (rr : Int32) (σ' : gx_R) (hf : Md_feed a1 a2 a3 a4 a5 σ = some (rr, σ')) : E0 D 159 [.ref 109, .int a1, .int a2, .int a3, .int a4, .int a5] σ (some (.int rr)) σ' := by
  cases D with
  | zero => omega
  | succ D => exact Or.inl ⟨Nat.le_of_ble_eq_true rfl, vv_Md_feed_E D hD rr σ' a1 a2 a3 a4 a5 σ hf⟩
set_option maxHeartbeats 16000000 in
set_option maxRecDepth 20000 in
theorem vv_Md_end_E (D : Nat) (hD : 2 ≤ D + 1) (rr : Int32) (σ' : gx_R) (a1 : Int32) (σ : gx_R) (hf : Md_end a1 σ = some (rr, σ')) : gx_Ev lay0 (E0 D) tt_160 (some (.int rr)) σ' 0 [.ref 109, .int a1] [] σ := by
  unfold Md_end at hf
  obtain ⟨r1, σ2, h3, hf⟩ := z_bd_inv hf
  rcases z_if_inv hf with ⟨h4, hf⟩ | ⟨h4, hf⟩
  · obtain ⟨e1, e2⟩ := z_ret hf
    subst e1
    subst e2
    exact gx_end 8 [.inr (some (.int r1), σ2), .inl 0] [E0 D 145 [.int a1, .int (0 : Int32), .int (σ 109 3)] σ (some (.int r1)) σ2, ¬ ¬ (r1 = 0)] rfl ⟨(ww_Md_in D (by omega) a1 (0 : Int32) (σ 109 3) σ r1 σ2 h3), (fun q => q h4), trivial⟩
  · obtain ⟨e1, e2⟩ := z_ret hf
    subst e1
    subst e2
    exact gx_end 11 [.inr (some (.int r1), σ2), .inl 1] [E0 D 145 [.int a1, .int (0 : Int32), .int (σ 109 3)] σ (some (.int r1)) σ2, ¬ (r1 = 0)] rfl ⟨(ww_Md_in D (by omega) a1 (0 : Int32) (σ 109 3) σ r1 σ2 h3), h4, trivial⟩
set_option maxHeartbeats 16000000 in
set_option maxRecDepth 20000 in
theorem ww_Md_end (D : Nat) (hD : 2 ≤ D) (a1 : Int32) (σ : gx_R) (rr : Int32) (σ' : gx_R) (hf : Md_end a1 σ = some (rr, σ')) : E0 D 160 [.ref 109, .int a1] σ (some (.int rr)) σ' := by
  cases D with
  | zero => omega
  | succ D => exact Or.inl ⟨Nat.le_of_ble_eq_true rfl, vv_Md_end_E D hD rr σ' a1 σ hf⟩
set_option maxHeartbeats 16000000 in
set_option maxRecDepth 20000 in
theorem vv_Md_isLetter_10 (D : Nat) (hD : 2 ≤ D + 1) (rr : Int32) (σ' : gx_R) (σ : gx_R) (hf : Md_isLetter_10  σ = some (rr, σ')) : gx_Ev lay0 (E0 D) tt_161 (some (.int rr)) σ' 10 [.null] [] σ := by
  unfold Md_isLetter_10 at hf
  obtain ⟨e1, e2⟩ := z_ret hf
  subst e1
  subst e2
  exact gx_end 3 [] [(1 : Int32) &&& 1 = (1 : Int32)] rfl ⟨rfl, trivial⟩
set_option maxHeartbeats 16000000 in
set_option maxRecDepth 20000 in
theorem vv_Md_isLetter_E (D : Nat) (hD : 2 ≤ D + 1) (rr : Int32) (σ' : gx_R) (a0 : Int32) (σ : gx_R) (hf : Md_isLetter a0 σ = some (rr, σ')) : gx_Ev lay0 (E0 D) tt_161 (some (.int rr)) σ' 0 [.int a0] [] σ := by
  unfold Md_isLetter at hf
  obtain ⟨r1, σ2, h3, hf⟩ := z_bd_inv hf
  rcases z_if_inv hf with ⟨h4, hf⟩ | ⟨h4, hf⟩
  · obtain ⟨r5, σ6, h7, hf⟩ := z_bd_inv hf
    rcases z_if_inv hf with ⟨h8, hf⟩ | ⟨h8, hf⟩
    · obtain ⟨e1, e2⟩ := z_ret hf
      subst e1
      subst e2
      exact gx_end 12 [.inr (some (.int r1), σ2), .inl 0, .inr (some (.int r5), σ6), .inl 1] [E0 D 145 [.int a0, .int (97 : Int32), .int (122 : Int32)] σ (some (.int r1)) σ2, ¬ ¬ (r1 = 0), E0 D 145 [.int a0, .int (65 : Int32), .int (90 : Int32)] σ2 (some (.int r5)) σ6, r5 = 0, (0 : Int32) &&& 1 = (0 : Int32)] rfl ⟨(ww_Md_in D (by omega) a0 (97 : Int32) (122 : Int32) σ r1 σ2 h3), (fun q => q h4), (ww_Md_in D (by omega) a0 (65 : Int32) (90 : Int32) σ2 r5 σ6 h7), h8, rfl, trivial⟩
    · exact gx_go_ 10 [.inr (some (.int r1), σ2), .inl 0, .inr (some (.int r5), σ6), .inl 0] [E0 D 145 [.int a0, .int (97 : Int32), .int (122 : Int32)] σ (some (.int r1)) σ2, ¬ ¬ (r1 = 0), E0 D 145 [.int a0, .int (65 : Int32), .int (90 : Int32)] σ2 (some (.int r5)) σ6, ¬ (r5 = 0)] 10 [.int a0] [] σ6 rfl ⟨(ww_Md_in D (by omega) a0 (97 : Int32) (122 : Int32) σ r1 σ2 h3), (fun q => q h4), (ww_Md_in D (by omega) a0 (65 : Int32) (90 : Int32) σ2 r5 σ6 h7), h8, trivial⟩ (gx_fgt (ls' := [.null]) ⟨Or.inl rfl, trivial⟩ (vv_Md_isLetter_10 D hD rr σ' σ6 hf))
  · exact gx_go_ 5 [.inr (some (.int r1), σ2), .inl 1] [E0 D 145 [.int a0, .int (97 : Int32), .int (122 : Int32)] σ (some (.int r1)) σ2, ¬ (r1 = 0)] 10 [.int a0] [] σ2 rfl ⟨(ww_Md_in D (by omega) a0 (97 : Int32) (122 : Int32) σ r1 σ2 h3), h4, trivial⟩ (gx_fgt (ls' := [.null]) ⟨Or.inl rfl, trivial⟩ (vv_Md_isLetter_10 D hD rr σ' σ2 hf))
set_option maxHeartbeats 16000000 in
set_option maxRecDepth 20000 in
theorem ww_Md_isLetter (D : Nat) (hD : 2 ≤ D) (a0 : Int32) (σ : gx_R) (rr : Int32) (σ' : gx_R) (hf : Md_isLetter a0 σ = some (rr, σ')) : E0 D 161 [.int a0] σ (some (.int rr)) σ' := by
  cases D with
  | zero => omega
  | succ D => exact Or.inl ⟨Nat.le_of_ble_eq_true rfl, vv_Md_isLetter_E D hD rr σ' a0 σ hf⟩
set_option maxHeartbeats 16000000 in
set_option maxRecDepth 20000 in
theorem vv_Md_wordOf_E (D : Nat) (hD : 1 ≤ D + 1) (rr : Int32) (σ' : gx_R) (l0 : Int64) (σ : gx_R) (hf : Md_wordOf l0 σ = some (rr, σ')) : gx_Ev lay0 (E0 D) tt_162 (some (.int rr)) σ' 0 [.long l0, .null] [] σ := by
  unfold Md_wordOf at hf
  rcases z_if_inv hf with ⟨h1, hf⟩ | ⟨h1, hf⟩
  · obtain ⟨e1, e2⟩ := z_ret hf
    subst e1
    subst e2
    exact gx_end 7 [.inl 0] [¬ ¬ ((lg_cmp l0 (935275816 : Int64)) = 0)] rfl ⟨(fun q => q h1), trivial⟩
  · rcases z_if_inv hf with ⟨h2, hf⟩ | ⟨h2, hf⟩
    · obtain ⟨e1, e2⟩ := z_ret hf
      subst e1
      subst e2
      exact gx_end 11 [.inl 1, .inl 0] [¬ ((lg_cmp l0 (935275816 : Int64)) = 0), ¬ ¬ ((lg_cmp l0 (9133230 : Int64)) = 0)] rfl ⟨h1, (fun q => q h2), trivial⟩
    · rcases z_if_inv hf with ⟨h3, hf⟩ | ⟨h3, hf⟩
      · obtain ⟨e1, e2⟩ := z_ret hf
        subst e1
        subst e2
        exact gx_end 15 [.inl 1, .inl 1, .inl 0] [¬ ((lg_cmp l0 (935275816 : Int64)) = 0), ¬ ((lg_cmp l0 (9133230 : Int64)) = 0), ¬ ¬ ((lg_cmp l0 (868178852 : Int64)) = 0)] rfl ⟨h1, h2, (fun q => q h3), trivial⟩
      · rcases z_if_inv hf with ⟨h4, hf⟩ | ⟨h4, hf⟩
        · obtain ⟨e1, e2⟩ := z_ret hf
          subst e1
          subst e2
          exact gx_end 19 [.inl 1, .inl 1, .inl 1, .inl 0] [¬ ((lg_cmp l0 (935275816 : Int64)) = 0), ¬ ((lg_cmp l0 (9133230 : Int64)) = 0), ¬ ((lg_cmp l0 (868178852 : Int64)) = 0), ¬ ¬ ((lg_cmp l0 (818583781 : Int64)) = 0)] rfl ⟨h1, h2, h3, (fun q => q h4), trivial⟩
        · rcases z_if_inv hf with ⟨h5, hf⟩ | ⟨h5, hf⟩
          · obtain ⟨e1, e2⟩ := z_ret hf
            subst e1
            subst e2
            exact gx_end 23 [.inl 1, .inl 1, .inl 1, .inl 1, .inl 0] [¬ ((lg_cmp l0 (935275816 : Int64)) = 0), ¬ ((lg_cmp l0 (9133230 : Int64)) = 0), ¬ ((lg_cmp l0 (868178852 : Int64)) = 0), ¬ ((lg_cmp l0 (818583781 : Int64)) = 0), ¬ ¬ ((lg_cmp l0 (14555877 : Int64)) = 0)] rfl ⟨h1, h2, h3, h4, (fun q => q h5), trivial⟩
          · rcases z_if_inv hf with ⟨h6, hf⟩ | ⟨h6, hf⟩
            · obtain ⟨e1, e2⟩ := z_ret hf
              subst e1
              subst e2
              exact gx_end 27 [.inl 1, .inl 1, .inl 1, .inl 1, .inl 1, .inl 0] [¬ ((lg_cmp l0 (935275816 : Int64)) = 0), ¬ ((lg_cmp l0 (9133230 : Int64)) = 0), ¬ ((lg_cmp l0 (868178852 : Int64)) = 0), ¬ ((lg_cmp l0 (818583781 : Int64)) = 0), ¬ ((lg_cmp l0 (14555877 : Int64)) = 0), ¬ ¬ ((lg_cmp l0 (867326320 : Int64)) = 0)] rfl ⟨h1, h2, h3, h4, h5, (fun q => q h6), trivial⟩
            · rcases z_if_inv hf with ⟨h7, hf⟩ | ⟨h7, hf⟩
              · obtain ⟨e1, e2⟩ := z_ret hf
                subst e1
                subst e2
                exact gx_end 31 [.inl 1, .inl 1, .inl 1, .inl 1, .inl 1, .inl 1, .inl 0] [¬ ((lg_cmp l0 (935275816 : Int64)) = 0), ¬ ((lg_cmp l0 (9133230 : Int64)) = 0), ¬ ((lg_cmp l0 (868178852 : Int64)) = 0), ¬ ((lg_cmp l0 (818583781 : Int64)) = 0), ¬ ((lg_cmp l0 (14555877 : Int64)) = 0), ¬ ((lg_cmp l0 (867326320 : Int64)) = 0), ¬ ¬ ((lg_cmp l0 (10898213 : Int64)) = 0)] rfl ⟨h1, h2, h3, h4, h5, h6, (fun q => q h7), trivial⟩
              · rcases z_if_inv hf with ⟨h8, hf⟩ | ⟨h8, hf⟩
                · obtain ⟨e1, e2⟩ := z_ret hf
                  subst e1
                  subst e2
                  exact gx_end 35 [.inl 1, .inl 1, .inl 1, .inl 1, .inl 1, .inl 1, .inl 1, .inl 0] [¬ ((lg_cmp l0 (935275816 : Int64)) = 0), ¬ ((lg_cmp l0 (9133230 : Int64)) = 0), ¬ ((lg_cmp l0 (868178852 : Int64)) = 0), ¬ ((lg_cmp l0 (818583781 : Int64)) = 0), ¬ ((lg_cmp l0 (14555877 : Int64)) = 0), ¬ ((lg_cmp l0 (867326320 : Int64)) = 0), ¬ ((lg_cmp l0 (10898213 : Int64)) = 0), ¬ ¬ ((lg_cmp l0 (9313068 : Int64)) = 0)] rfl ⟨h1, h2, h3, h4, h5, h6, h7, (fun q => q h8), trivial⟩
                · rcases z_if_inv hf with ⟨h9, hf⟩ | ⟨h9, hf⟩
                  · obtain ⟨e1, e2⟩ := z_ret hf
                    subst e1
                    subst e2
                    exact gx_end 39 [.inl 1, .inl 1, .inl 1, .inl 1, .inl 1, .inl 1, .inl 1, .inl 1, .inl 0] [¬ ((lg_cmp l0 (935275816 : Int64)) = 0), ¬ ((lg_cmp l0 (9133230 : Int64)) = 0), ¬ ((lg_cmp l0 (868178852 : Int64)) = 0), ¬ ((lg_cmp l0 (818583781 : Int64)) = 0), ¬ ((lg_cmp l0 (14555877 : Int64)) = 0), ¬ ((lg_cmp l0 (867326320 : Int64)) = 0), ¬ ((lg_cmp l0 (10898213 : Int64)) = 0), ¬ ((lg_cmp l0 (9313068 : Int64)) = 0), ¬ ¬ ((lg_cmp l0 (848758905 : Int64)) = 0)] rfl ⟨h1, h2, h3, h4, h5, h6, h7, h8, (fun q => q h9), trivial⟩
                  · rcases z_if_inv hf with ⟨h10, hf⟩ | ⟨h10, hf⟩
                    · obtain ⟨e1, e2⟩ := z_ret hf
                      subst e1
                      subst e2
                      exact gx_end 43 [.inl 1, .inl 1, .inl 1, .inl 1, .inl 1, .inl 1, .inl 1, .inl 1, .inl 1, .inl 0] [¬ ((lg_cmp l0 (935275816 : Int64)) = 0), ¬ ((lg_cmp l0 (9133230 : Int64)) = 0), ¬ ((lg_cmp l0 (868178852 : Int64)) = 0), ¬ ((lg_cmp l0 (818583781 : Int64)) = 0), ¬ ((lg_cmp l0 (14555877 : Int64)) = 0), ¬ ((lg_cmp l0 (867326320 : Int64)) = 0), ¬ ((lg_cmp l0 (10898213 : Int64)) = 0), ¬ ((lg_cmp l0 (9313068 : Int64)) = 0), ¬ ((lg_cmp l0 (848758905 : Int64)) = 0), ¬ ¬ ((lg_cmp l0 (10681714 : Int64)) = 0)] rfl ⟨h1, h2, h3, h4, h5, h6, h7, h8, h9, (fun q => q h10), trivial⟩
                    · rcases z_if_inv hf with ⟨h11, hf⟩ | ⟨h11, hf⟩
                      · obtain ⟨e1, e2⟩ := z_ret hf
                        subst e1
                        subst e2
                        exact gx_end 47 [.inl 1, .inl 1, .inl 1, .inl 1, .inl 1, .inl 1, .inl 1, .inl 1, .inl 1, .inl 1, .inl 0] [¬ ((lg_cmp l0 (935275816 : Int64)) = 0), ¬ ((lg_cmp l0 (9133230 : Int64)) = 0), ¬ ((lg_cmp l0 (868178852 : Int64)) = 0), ¬ ((lg_cmp l0 (818583781 : Int64)) = 0), ¬ ((lg_cmp l0 (14555877 : Int64)) = 0), ¬ ((lg_cmp l0 (867326320 : Int64)) = 0), ¬ ((lg_cmp l0 (10898213 : Int64)) = 0), ¬ ((lg_cmp l0 (9313068 : Int64)) = 0), ¬ ((lg_cmp l0 (848758905 : Int64)) = 0), ¬ ((lg_cmp l0 (10681714 : Int64)) = 0), ¬ ¬ ((lg_cmp l0 (2164 : Int64)) = 0)] rfl ⟨h1, h2, h3, h4, h5, h6, h7, h8, h9, h10, (fun q => q h11), trivial⟩
                      · rcases z_if_inv hf with ⟨h12, hf⟩ | ⟨h12, hf⟩
                        · obtain ⟨e1, e2⟩ := z_ret hf
                          subst e1
                          subst e2
                          exact gx_end 51 [.inl 1, .inl 1, .inl 1, .inl 1, .inl 1, .inl 1, .inl 1, .inl 1, .inl 1, .inl 1, .inl 1, .inl 0] [¬ ((lg_cmp l0 (935275816 : Int64)) = 0), ¬ ((lg_cmp l0 (9133230 : Int64)) = 0), ¬ ((lg_cmp l0 (868178852 : Int64)) = 0), ¬ ((lg_cmp l0 (818583781 : Int64)) = 0), ¬ ((lg_cmp l0 (14555877 : Int64)) = 0), ¬ ((lg_cmp l0 (867326320 : Int64)) = 0), ¬ ((lg_cmp l0 (10898213 : Int64)) = 0), ¬ ((lg_cmp l0 (9313068 : Int64)) = 0), ¬ ((lg_cmp l0 (848758905 : Int64)) = 0), ¬ ((lg_cmp l0 (10681714 : Int64)) = 0), ¬ ((lg_cmp l0 (2164 : Int64)) = 0), ¬ ¬ ((lg_cmp l0 (158706 : Int64)) = 0)] rfl ⟨h1, h2, h3, h4, h5, h6, h7, h8, h9, h10, h11, (fun q => q h12), trivial⟩
                        · rcases z_if_inv hf with ⟨h13, hf⟩ | ⟨h13, hf⟩
                          · obtain ⟨e1, e2⟩ := z_ret hf
                            subst e1
                            subst e2
                            exact gx_end 55 [.inl 1, .inl 1, .inl 1, .inl 1, .inl 1, .inl 1, .inl 1, .inl 1, .inl 1, .inl 1, .inl 1, .inl 1, .inl 0] [¬ ((lg_cmp l0 (935275816 : Int64)) = 0), ¬ ((lg_cmp l0 (9133230 : Int64)) = 0), ¬ ((lg_cmp l0 (868178852 : Int64)) = 0), ¬ ((lg_cmp l0 (818583781 : Int64)) = 0), ¬ ((lg_cmp l0 (14555877 : Int64)) = 0), ¬ ((lg_cmp l0 (867326320 : Int64)) = 0), ¬ ((lg_cmp l0 (10898213 : Int64)) = 0), ¬ ((lg_cmp l0 (9313068 : Int64)) = 0), ¬ ((lg_cmp l0 (848758905 : Int64)) = 0), ¬ ((lg_cmp l0 (10681714 : Int64)) = 0), ¬ ((lg_cmp l0 (2164 : Int64)) = 0), ¬ ((lg_cmp l0 (158706 : Int64)) = 0), ¬ ¬ ((lg_cmp l0 (3375 : Int64)) = 0)] rfl ⟨h1, h2, h3, h4, h5, h6, h7, h8, h9, h10, h11, h12, (fun q => q h13), trivial⟩
                          · rcases z_if_inv hf with ⟨h14, hf⟩ | ⟨h14, hf⟩
                            · obtain ⟨e1, e2⟩ := z_ret hf
                              subst e1
                              subst e2
                              exact gx_end 59 [.inl 1, .inl 1, .inl 1, .inl 1, .inl 1, .inl 1, .inl 1, .inl 1, .inl 1, .inl 1, .inl 1, .inl 1, .inl 1, .inl 0] [¬ ((lg_cmp l0 (935275816 : Int64)) = 0), ¬ ((lg_cmp l0 (9133230 : Int64)) = 0), ¬ ((lg_cmp l0 (868178852 : Int64)) = 0), ¬ ((lg_cmp l0 (818583781 : Int64)) = 0), ¬ ((lg_cmp l0 (14555877 : Int64)) = 0), ¬ ((lg_cmp l0 (867326320 : Int64)) = 0), ¬ ((lg_cmp l0 (10898213 : Int64)) = 0), ¬ ((lg_cmp l0 (9313068 : Int64)) = 0), ¬ ((lg_cmp l0 (848758905 : Int64)) = 0), ¬ ((lg_cmp l0 (10681714 : Int64)) = 0), ¬ ((lg_cmp l0 (2164 : Int64)) = 0), ¬ ((lg_cmp l0 (158706 : Int64)) = 0), ¬ ((lg_cmp l0 (3375 : Int64)) = 0), ¬ ¬ ((lg_cmp l0 (2233 : Int64)) = 0)] rfl ⟨h1, h2, h3, h4, h5, h6, h7, h8, h9, h10, h11, h12, h13, (fun q => q h14), trivial⟩
                            · rcases z_if_inv hf with ⟨h15, hf⟩ | ⟨h15, hf⟩
                              · obtain ⟨e1, e2⟩ := z_ret hf
                                subst e1
                                subst e2
                                exact gx_end 63 [.inl 1, .inl 1, .inl 1, .inl 1, .inl 1, .inl 1, .inl 1, .inl 1, .inl 1, .inl 1, .inl 1, .inl 1, .inl 1, .inl 1, .inl 0] [¬ ((lg_cmp l0 (935275816 : Int64)) = 0), ¬ ((lg_cmp l0 (9133230 : Int64)) = 0), ¬ ((lg_cmp l0 (868178852 : Int64)) = 0), ¬ ((lg_cmp l0 (818583781 : Int64)) = 0), ¬ ((lg_cmp l0 (14555877 : Int64)) = 0), ¬ ((lg_cmp l0 (867326320 : Int64)) = 0), ¬ ((lg_cmp l0 (10898213 : Int64)) = 0), ¬ ((lg_cmp l0 (9313068 : Int64)) = 0), ¬ ((lg_cmp l0 (848758905 : Int64)) = 0), ¬ ((lg_cmp l0 (10681714 : Int64)) = 0), ¬ ((lg_cmp l0 (2164 : Int64)) = 0), ¬ ((lg_cmp l0 (158706 : Int64)) = 0), ¬ ((lg_cmp l0 (3375 : Int64)) = 0), ¬ ((lg_cmp l0 (2233 : Int64)) = 0), ¬ ¬ ((lg_cmp l0 (3058 : Int64)) = 0)] rfl ⟨h1, h2, h3, h4, h5, h6, h7, h8, h9, h10, h11, h12, h13, h14, (fun q => q h15), trivial⟩
                              · rcases z_if_inv hf with ⟨h16, hf⟩ | ⟨h16, hf⟩
                                · obtain ⟨e1, e2⟩ := z_ret hf
                                  subst e1
                                  subst e2
                                  exact gx_end 67 [.inl 1, .inl 1, .inl 1, .inl 1, .inl 1, .inl 1, .inl 1, .inl 1, .inl 1, .inl 1, .inl 1, .inl 1, .inl 1, .inl 1, .inl 1, .inl 0] [¬ ((lg_cmp l0 (935275816 : Int64)) = 0), ¬ ((lg_cmp l0 (9133230 : Int64)) = 0), ¬ ((lg_cmp l0 (868178852 : Int64)) = 0), ¬ ((lg_cmp l0 (818583781 : Int64)) = 0), ¬ ((lg_cmp l0 (14555877 : Int64)) = 0), ¬ ((lg_cmp l0 (867326320 : Int64)) = 0), ¬ ((lg_cmp l0 (10898213 : Int64)) = 0), ¬ ((lg_cmp l0 (9313068 : Int64)) = 0), ¬ ((lg_cmp l0 (848758905 : Int64)) = 0), ¬ ((lg_cmp l0 (10681714 : Int64)) = 0), ¬ ((lg_cmp l0 (2164 : Int64)) = 0), ¬ ((lg_cmp l0 (158706 : Int64)) = 0), ¬ ((lg_cmp l0 (3375 : Int64)) = 0), ¬ ((lg_cmp l0 (2233 : Int64)) = 0), ¬ ((lg_cmp l0 (3058 : Int64)) = 0), ¬ ¬ ((lg_cmp l0 (138148 : Int64)) = 0)] rfl ⟨h1, h2, h3, h4, h5, h6, h7, h8, h9, h10, h11, h12, h13, h14, h15, (fun q => q h16), trivial⟩
                                · rcases z_if_inv hf with ⟨h17, hf⟩ | ⟨h17, hf⟩
                                  · obtain ⟨e1, e2⟩ := z_ret hf
                                    subst e1
                                    subst e2
                                    exact gx_end 71 [.inl 1, .inl 1, .inl 1, .inl 1, .inl 1, .inl 1, .inl 1, .inl 1, .inl 1, .inl 1, .inl 1, .inl 1, .inl 1, .inl 1, .inl 1, .inl 1, .inl 0] [¬ ((lg_cmp l0 (935275816 : Int64)) = 0), ¬ ((lg_cmp l0 (9133230 : Int64)) = 0), ¬ ((lg_cmp l0 (868178852 : Int64)) = 0), ¬ ((lg_cmp l0 (818583781 : Int64)) = 0), ¬ ((lg_cmp l0 (14555877 : Int64)) = 0), ¬ ((lg_cmp l0 (867326320 : Int64)) = 0), ¬ ((lg_cmp l0 (10898213 : Int64)) = 0), ¬ ((lg_cmp l0 (9313068 : Int64)) = 0), ¬ ((lg_cmp l0 (848758905 : Int64)) = 0), ¬ ((lg_cmp l0 (10681714 : Int64)) = 0), ¬ ((lg_cmp l0 (2164 : Int64)) = 0), ¬ ((lg_cmp l0 (158706 : Int64)) = 0), ¬ ((lg_cmp l0 (3375 : Int64)) = 0), ¬ ((lg_cmp l0 (2233 : Int64)) = 0), ¬ ((lg_cmp l0 (3058 : Int64)) = 0), ¬ ((lg_cmp l0 (138148 : Int64)) = 0), ¬ ¬ ((lg_cmp l0 (191476 : Int64)) = 0)] rfl ⟨h1, h2, h3, h4, h5, h6, h7, h8, h9, h10, h11, h12, h13, h14, h15, h16, (fun q => q h17), trivial⟩
                                  · rcases z_if_inv hf with ⟨h18, hf⟩ | ⟨h18, hf⟩
                                    · obtain ⟨e1, e2⟩ := z_ret hf
                                      subst e1
                                      subst e2
                                      exact gx_end 75 [.inl 1, .inl 1, .inl 1, .inl 1, .inl 1, .inl 1, .inl 1, .inl 1, .inl 1, .inl 1, .inl 1, .inl 1, .inl 1, .inl 1, .inl 1, .inl 1, .inl 1, .inl 0] [¬ ((lg_cmp l0 (935275816 : Int64)) = 0), ¬ ((lg_cmp l0 (9133230 : Int64)) = 0), ¬ ((lg_cmp l0 (868178852 : Int64)) = 0), ¬ ((lg_cmp l0 (818583781 : Int64)) = 0), ¬ ((lg_cmp l0 (14555877 : Int64)) = 0), ¬ ((lg_cmp l0 (867326320 : Int64)) = 0), ¬ ((lg_cmp l0 (10898213 : Int64)) = 0), ¬ ((lg_cmp l0 (9313068 : Int64)) = 0), ¬ ((lg_cmp l0 (848758905 : Int64)) = 0), ¬ ((lg_cmp l0 (10681714 : Int64)) = 0), ¬ ((lg_cmp l0 (2164 : Int64)) = 0), ¬ ((lg_cmp l0 (158706 : Int64)) = 0), ¬ ((lg_cmp l0 (3375 : Int64)) = 0), ¬ ((lg_cmp l0 (2233 : Int64)) = 0), ¬ ((lg_cmp l0 (3058 : Int64)) = 0), ¬ ((lg_cmp l0 (138148 : Int64)) = 0), ¬ ((lg_cmp l0 (191476 : Int64)) = 0), ¬ ¬ ((lg_cmp l0 (2662 : Int64)) = 0)] rfl ⟨h1, h2, h3, h4, h5, h6, h7, h8, h9, h10, h11, h12, h13, h14, h15, h16, h17, (fun q => q h18), trivial⟩
                                    · rcases z_if_inv hf with ⟨h19, hf⟩ | ⟨h19, hf⟩
                                      · obtain ⟨e1, e2⟩ := z_ret hf
                                        subst e1
                                        subst e2
                                        exact gx_end 79 [.inl 1, .inl 1, .inl 1, .inl 1, .inl 1, .inl 1, .inl 1, .inl 1, .inl 1, .inl 1, .inl 1, .inl 1, .inl 1, .inl 1, .inl 1, .inl 1, .inl 1, .inl 1, .inl 0] [¬ ((lg_cmp l0 (935275816 : Int64)) = 0), ¬ ((lg_cmp l0 (9133230 : Int64)) = 0), ¬ ((lg_cmp l0 (868178852 : Int64)) = 0), ¬ ((lg_cmp l0 (818583781 : Int64)) = 0), ¬ ((lg_cmp l0 (14555877 : Int64)) = 0), ¬ ((lg_cmp l0 (867326320 : Int64)) = 0), ¬ ((lg_cmp l0 (10898213 : Int64)) = 0), ¬ ((lg_cmp l0 (9313068 : Int64)) = 0), ¬ ((lg_cmp l0 (848758905 : Int64)) = 0), ¬ ((lg_cmp l0 (10681714 : Int64)) = 0), ¬ ((lg_cmp l0 (2164 : Int64)) = 0), ¬ ((lg_cmp l0 (158706 : Int64)) = 0), ¬ ((lg_cmp l0 (3375 : Int64)) = 0), ¬ ((lg_cmp l0 (2233 : Int64)) = 0), ¬ ((lg_cmp l0 (3058 : Int64)) = 0), ¬ ((lg_cmp l0 (138148 : Int64)) = 0), ¬ ((lg_cmp l0 (191476 : Int64)) = 0), ¬ ((lg_cmp l0 (2662 : Int64)) = 0), ¬ ¬ ((lg_cmp l0 (13797742 : Int64)) = 0)] rfl ⟨h1, h2, h3, h4, h5, h6, h7, h8, h9, h10, h11, h12, h13, h14, h15, h16, h17, h18, (fun q => q h19), trivial⟩
                                      · rcases z_if_inv hf with ⟨h20, hf⟩ | ⟨h20, hf⟩
                                        · obtain ⟨e1, e2⟩ := z_ret hf
                                          subst e1
                                          subst e2
                                          exact gx_end 83 [.inl 1, .inl 1, .inl 1, .inl 1, .inl 1, .inl 1, .inl 1, .inl 1, .inl 1, .inl 1, .inl 1, .inl 1, .inl 1, .inl 1, .inl 1, .inl 1, .inl 1, .inl 1, .inl 1, .inl 0] [¬ ((lg_cmp l0 (935275816 : Int64)) = 0), ¬ ((lg_cmp l0 (9133230 : Int64)) = 0), ¬ ((lg_cmp l0 (868178852 : Int64)) = 0), ¬ ((lg_cmp l0 (818583781 : Int64)) = 0), ¬ ((lg_cmp l0 (14555877 : Int64)) = 0), ¬ ((lg_cmp l0 (867326320 : Int64)) = 0), ¬ ((lg_cmp l0 (10898213 : Int64)) = 0), ¬ ((lg_cmp l0 (9313068 : Int64)) = 0), ¬ ((lg_cmp l0 (848758905 : Int64)) = 0), ¬ ((lg_cmp l0 (10681714 : Int64)) = 0), ¬ ((lg_cmp l0 (2164 : Int64)) = 0), ¬ ((lg_cmp l0 (158706 : Int64)) = 0), ¬ ((lg_cmp l0 (3375 : Int64)) = 0), ¬ ((lg_cmp l0 (2233 : Int64)) = 0), ¬ ((lg_cmp l0 (3058 : Int64)) = 0), ¬ ((lg_cmp l0 (138148 : Int64)) = 0), ¬ ((lg_cmp l0 (191476 : Int64)) = 0), ¬ ((lg_cmp l0 (2662 : Int64)) = 0), ¬ ((lg_cmp l0 (13797742 : Int64)) = 0), ¬ ¬ ((lg_cmp l0 (9882853 : Int64)) = 0)] rfl ⟨h1, h2, h3, h4, h5, h6, h7, h8, h9, h10, h11, h12, h13, h14, h15, h16, h17, h18, h19, (fun q => q h20), trivial⟩
                                        · rcases z_if_inv hf with ⟨h21, hf⟩ | ⟨h21, hf⟩
                                          · obtain ⟨e1, e2⟩ := z_ret hf
                                            subst e1
                                            subst e2
                                            exact gx_end 87 [.inl 1, .inl 1, .inl 1, .inl 1, .inl 1, .inl 1, .inl 1, .inl 1, .inl 1, .inl 1, .inl 1, .inl 1, .inl 1, .inl 1, .inl 1, .inl 1, .inl 1, .inl 1, .inl 1, .inl 1, .inl 0] [¬ ((lg_cmp l0 (935275816 : Int64)) = 0), ¬ ((lg_cmp l0 (9133230 : Int64)) = 0), ¬ ((lg_cmp l0 (868178852 : Int64)) = 0), ¬ ((lg_cmp l0 (818583781 : Int64)) = 0), ¬ ((lg_cmp l0 (14555877 : Int64)) = 0), ¬ ((lg_cmp l0 (867326320 : Int64)) = 0), ¬ ((lg_cmp l0 (10898213 : Int64)) = 0), ¬ ((lg_cmp l0 (9313068 : Int64)) = 0), ¬ ((lg_cmp l0 (848758905 : Int64)) = 0), ¬ ((lg_cmp l0 (10681714 : Int64)) = 0), ¬ ((lg_cmp l0 (2164 : Int64)) = 0), ¬ ((lg_cmp l0 (158706 : Int64)) = 0), ¬ ((lg_cmp l0 (3375 : Int64)) = 0), ¬ ((lg_cmp l0 (2233 : Int64)) = 0), ¬ ((lg_cmp l0 (3058 : Int64)) = 0), ¬ ((lg_cmp l0 (138148 : Int64)) = 0), ¬ ((lg_cmp l0 (191476 : Int64)) = 0), ¬ ((lg_cmp l0 (2662 : Int64)) = 0), ¬ ((lg_cmp l0 (13797742 : Int64)) = 0), ¬ ((lg_cmp l0 (9882853 : Int64)) = 0), ¬ ¬ ((lg_cmp l0 (154532 : Int64)) = 0)] rfl ⟨h1, h2, h3, h4, h5, h6, h7, h8, h9, h10, h11, h12, h13, h14, h15, h16, h17, h18, h19, h20, (fun q => q h21), trivial⟩
                                          · rcases z_if_inv hf with ⟨h22, hf⟩ | ⟨h22, hf⟩
                                            · obtain ⟨e1, e2⟩ := z_ret hf
                                              subst e1
                                              subst e2
                                              exact gx_end 91 [.inl 1, .inl 1, .inl 1, .inl 1, .inl 1, .inl 1, .inl 1, .inl 1, .inl 1, .inl 1, .inl 1, .inl 1, .inl 1, .inl 1, .inl 1, .inl 1, .inl 1, .inl 1, .inl 1, .inl 1, .inl 1, .inl 0] [¬ ((lg_cmp l0 (935275816 : Int64)) = 0), ¬ ((lg_cmp l0 (9133230 : Int64)) = 0), ¬ ((lg_cmp l0 (868178852 : Int64)) = 0), ¬ ((lg_cmp l0 (818583781 : Int64)) = 0), ¬ ((lg_cmp l0 (14555877 : Int64)) = 0), ¬ ((lg_cmp l0 (867326320 : Int64)) = 0), ¬ ((lg_cmp l0 (10898213 : Int64)) = 0), ¬ ((lg_cmp l0 (9313068 : Int64)) = 0), ¬ ((lg_cmp l0 (848758905 : Int64)) = 0), ¬ ((lg_cmp l0 (10681714 : Int64)) = 0), ¬ ((lg_cmp l0 (2164 : Int64)) = 0), ¬ ((lg_cmp l0 (158706 : Int64)) = 0), ¬ ((lg_cmp l0 (3375 : Int64)) = 0), ¬ ((lg_cmp l0 (2233 : Int64)) = 0), ¬ ((lg_cmp l0 (3058 : Int64)) = 0), ¬ ((lg_cmp l0 (138148 : Int64)) = 0), ¬ ((lg_cmp l0 (191476 : Int64)) = 0), ¬ ((lg_cmp l0 (2662 : Int64)) = 0), ¬ ((lg_cmp l0 (13797742 : Int64)) = 0), ¬ ((lg_cmp l0 (9882853 : Int64)) = 0), ¬ ((lg_cmp l0 (154532 : Int64)) = 0), ¬ ¬ ((lg_cmp l0 (227887 : Int64)) = 0)] rfl ⟨h1, h2, h3, h4, h5, h6, h7, h8, h9, h10, h11, h12, h13, h14, h15, h16, h17, h18, h19, h20, h21, (fun q => q h22), trivial⟩
                                            · rcases z_if_inv hf with ⟨h23, hf⟩ | ⟨h23, hf⟩
                                              · obtain ⟨e1, e2⟩ := z_ret hf
                                                subst e1
                                                subst e2
                                                exact gx_end 95 [.inl 1, .inl 1, .inl 1, .inl 1, .inl 1, .inl 1, .inl 1, .inl 1, .inl 1, .inl 1, .inl 1, .inl 1, .inl 1, .inl 1, .inl 1, .inl 1, .inl 1, .inl 1, .inl 1, .inl 1, .inl 1, .inl 1, .inl 0] [¬ ((lg_cmp l0 (935275816 : Int64)) = 0), ¬ ((lg_cmp l0 (9133230 : Int64)) = 0), ¬ ((lg_cmp l0 (868178852 : Int64)) = 0), ¬ ((lg_cmp l0 (818583781 : Int64)) = 0), ¬ ((lg_cmp l0 (14555877 : Int64)) = 0), ¬ ((lg_cmp l0 (867326320 : Int64)) = 0), ¬ ((lg_cmp l0 (10898213 : Int64)) = 0), ¬ ((lg_cmp l0 (9313068 : Int64)) = 0), ¬ ((lg_cmp l0 (848758905 : Int64)) = 0), ¬ ((lg_cmp l0 (10681714 : Int64)) = 0), ¬ ((lg_cmp l0 (2164 : Int64)) = 0), ¬ ((lg_cmp l0 (158706 : Int64)) = 0), ¬ ((lg_cmp l0 (3375 : Int64)) = 0), ¬ ((lg_cmp l0 (2233 : Int64)) = 0), ¬ ((lg_cmp l0 (3058 : Int64)) = 0), ¬ ((lg_cmp l0 (138148 : Int64)) = 0), ¬ ((lg_cmp l0 (191476 : Int64)) = 0), ¬ ((lg_cmp l0 (2662 : Int64)) = 0), ¬ ((lg_cmp l0 (13797742 : Int64)) = 0), ¬ ((lg_cmp l0 (9882853 : Int64)) = 0), ¬ ((lg_cmp l0 (154532 : Int64)) = 0), ¬ ((lg_cmp l0 (227887 : Int64)) = 0), ¬ ¬ ((lg_cmp l0 (191479 : Int64)) = 0)] rfl ⟨h1, h2, h3, h4, h5, h6, h7, h8, h9, h10, h11, h12, h13, h14, h15, h16, h17, h18, h19, h20, h21, h22, (fun q => q h23), trivial⟩
                                              · rcases z_if_inv hf with ⟨h24, hf⟩ | ⟨h24, hf⟩
                                                · obtain ⟨e1, e2⟩ := z_ret hf
                                                  subst e1
                                                  subst e2
                                                  exact gx_end 99 [.inl 1, .inl 1, .inl 1, .inl 1, .inl 1, .inl 1, .inl 1, .inl 1, .inl 1, .inl 1, .inl 1, .inl 1, .inl 1, .inl 1, .inl 1, .inl 1, .inl 1, .inl 1, .inl 1, .inl 1, .inl 1, .inl 1, .inl 1, .inl 0] [¬ ((lg_cmp l0 (935275816 : Int64)) = 0), ¬ ((lg_cmp l0 (9133230 : Int64)) = 0), ¬ ((lg_cmp l0 (868178852 : Int64)) = 0), ¬ ((lg_cmp l0 (818583781 : Int64)) = 0), ¬ ((lg_cmp l0 (14555877 : Int64)) = 0), ¬ ((lg_cmp l0 (867326320 : Int64)) = 0), ¬ ((lg_cmp l0 (10898213 : Int64)) = 0), ¬ ((lg_cmp l0 (9313068 : Int64)) = 0), ¬ ((lg_cmp l0 (848758905 : Int64)) = 0), ¬ ((lg_cmp l0 (10681714 : Int64)) = 0), ¬ ((lg_cmp l0 (2164 : Int64)) = 0), ¬ ((lg_cmp l0 (158706 : Int64)) = 0), ¬ ((lg_cmp l0 (3375 : Int64)) = 0), ¬ ((lg_cmp l0 (2233 : Int64)) = 0), ¬ ((lg_cmp l0 (3058 : Int64)) = 0), ¬ ((lg_cmp l0 (138148 : Int64)) = 0), ¬ ((lg_cmp l0 (191476 : Int64)) = 0), ¬ ((lg_cmp l0 (2662 : Int64)) = 0), ¬ ((lg_cmp l0 (13797742 : Int64)) = 0), ¬ ((lg_cmp l0 (9882853 : Int64)) = 0), ¬ ((lg_cmp l0 (154532 : Int64)) = 0), ¬ ((lg_cmp l0 (227887 : Int64)) = 0), ¬ ((lg_cmp l0 (191479 : Int64)) = 0), ¬ ¬ ((lg_cmp l0 (3054 : Int64)) = 0)] rfl ⟨h1, h2, h3, h4, h5, h6, h7, h8, h9, h10, h11, h12, h13, h14, h15, h16, h17, h18, h19, h20, h21, h22, h23, (fun q => q h24), trivial⟩
                                                · rcases z_if_inv hf with ⟨h25, hf⟩ | ⟨h25, hf⟩
                                                  · obtain ⟨e1, e2⟩ := z_ret hf
                                                    subst e1
                                                    subst e2
                                                    exact gx_end 103 [.inl 1, .inl 1, .inl 1, .inl 1, .inl 1, .inl 1, .inl 1, .inl 1, .inl 1, .inl 1, .inl 1, .inl 1, .inl 1, .inl 1, .inl 1, .inl 1, .inl 1, .inl 1, .inl 1, .inl 1, .inl 1, .inl 1, .inl 1, .inl 1, .inl 0] [¬ ((lg_cmp l0 (935275816 : Int64)) = 0), ¬ ((lg_cmp l0 (9133230 : Int64)) = 0), ¬ ((lg_cmp l0 (868178852 : Int64)) = 0), ¬ ((lg_cmp l0 (818583781 : Int64)) = 0), ¬ ((lg_cmp l0 (14555877 : Int64)) = 0), ¬ ((lg_cmp l0 (867326320 : Int64)) = 0), ¬ ((lg_cmp l0 (10898213 : Int64)) = 0), ¬ ((lg_cmp l0 (9313068 : Int64)) = 0), ¬ ((lg_cmp l0 (848758905 : Int64)) = 0), ¬ ((lg_cmp l0 (10681714 : Int64)) = 0), ¬ ((lg_cmp l0 (2164 : Int64)) = 0), ¬ ((lg_cmp l0 (158706 : Int64)) = 0), ¬ ((lg_cmp l0 (3375 : Int64)) = 0), ¬ ((lg_cmp l0 (2233 : Int64)) = 0), ¬ ((lg_cmp l0 (3058 : Int64)) = 0), ¬ ((lg_cmp l0 (138148 : Int64)) = 0), ¬ ((lg_cmp l0 (191476 : Int64)) = 0), ¬ ((lg_cmp l0 (2662 : Int64)) = 0), ¬ ((lg_cmp l0 (13797742 : Int64)) = 0), ¬ ((lg_cmp l0 (9882853 : Int64)) = 0), ¬ ((lg_cmp l0 (154532 : Int64)) = 0), ¬ ((lg_cmp l0 (227887 : Int64)) = 0), ¬ ((lg_cmp l0 (191479 : Int64)) = 0), ¬ ((lg_cmp l0 (3054 : Int64)) = 0), ¬ ¬ ((lg_cmp l0 (613879080 : Int64)) = 0)] rfl ⟨h1, h2, h3, h4, h5, h6, h7, h8, h9, h10, h11, h12, h13, h14, h15, h16, h17, h18, h19, h20, h21, h22, h23, h24, (fun q => q h25), trivial⟩
                                                  · rcases z_if_inv hf with ⟨h26, hf⟩ | ⟨h26, hf⟩
                                                    · obtain ⟨e1, e2⟩ := z_ret hf
                                                      subst e1
                                                      subst e2
                                                      exact gx_end 107 [.inl 1, .inl 1, .inl 1, .inl 1, .inl 1, .inl 1, .inl 1, .inl 1, .inl 1, .inl 1, .inl 1, .inl 1, .inl 1, .inl 1, .inl 1, .inl 1, .inl 1, .inl 1, .inl 1, .inl 1, .inl 1, .inl 1, .inl 1, .inl 1, .inl 1, .inl 0] [¬ ((lg_cmp l0 (935275816 : Int64)) = 0), ¬ ((lg_cmp l0 (9133230 : Int64)) = 0), ¬ ((lg_cmp l0 (868178852 : Int64)) = 0), ¬ ((lg_cmp l0 (818583781 : Int64)) = 0), ¬ ((lg_cmp l0 (14555877 : Int64)) = 0), ¬ ((lg_cmp l0 (867326320 : Int64)) = 0), ¬ ((lg_cmp l0 (10898213 : Int64)) = 0), ¬ ((lg_cmp l0 (9313068 : Int64)) = 0), ¬ ((lg_cmp l0 (848758905 : Int64)) = 0), ¬ ((lg_cmp l0 (10681714 : Int64)) = 0), ¬ ((lg_cmp l0 (2164 : Int64)) = 0), ¬ ((lg_cmp l0 (158706 : Int64)) = 0), ¬ ((lg_cmp l0 (3375 : Int64)) = 0), ¬ ((lg_cmp l0 (2233 : Int64)) = 0), ¬ ((lg_cmp l0 (3058 : Int64)) = 0), ¬ ((lg_cmp l0 (138148 : Int64)) = 0), ¬ ((lg_cmp l0 (191476 : Int64)) = 0), ¬ ((lg_cmp l0 (2662 : Int64)) = 0), ¬ ((lg_cmp l0 (13797742 : Int64)) = 0), ¬ ((lg_cmp l0 (9882853 : Int64)) = 0), ¬ ((lg_cmp l0 (154532 : Int64)) = 0), ¬ ((lg_cmp l0 (227887 : Int64)) = 0), ¬ ((lg_cmp l0 (191479 : Int64)) = 0), ¬ ((lg_cmp l0 (3054 : Int64)) = 0), ¬ ((lg_cmp l0 (613879080 : Int64)) = 0), ¬ ¬ ((lg_cmp l0 (617240685 : Int64)) = 0)] rfl ⟨h1, h2, h3, h4, h5, h6, h7, h8, h9, h10, h11, h12, h13, h14, h15, h16, h17, h18, h19, h20, h21, h22, h23, h24, h25, (fun q => q h26), trivial⟩
                                                    · rcases z_if_inv hf with ⟨h27, hf⟩ | ⟨h27, hf⟩
                                                      · obtain ⟨e1, e2⟩ := z_ret hf
                                                        subst e1
                                                        subst e2
                                                        exact gx_end 111 [.inl 1, .inl 1, .inl 1, .inl 1, .inl 1, .inl 1, .inl 1, .inl 1, .inl 1, .inl 1, .inl 1, .inl 1, .inl 1, .inl 1, .inl 1, .inl 1, .inl 1, .inl 1, .inl 1, .inl 1, .inl 1, .inl 1, .inl 1, .inl 1, .inl 1, .inl 1, .inl 0] [¬ ((lg_cmp l0 (935275816 : Int64)) = 0), ¬ ((lg_cmp l0 (9133230 : Int64)) = 0), ¬ ((lg_cmp l0 (868178852 : Int64)) = 0), ¬ ((lg_cmp l0 (818583781 : Int64)) = 0), ¬ ((lg_cmp l0 (14555877 : Int64)) = 0), ¬ ((lg_cmp l0 (867326320 : Int64)) = 0), ¬ ((lg_cmp l0 (10898213 : Int64)) = 0), ¬ ((lg_cmp l0 (9313068 : Int64)) = 0), ¬ ((lg_cmp l0 (848758905 : Int64)) = 0), ¬ ((lg_cmp l0 (10681714 : Int64)) = 0), ¬ ((lg_cmp l0 (2164 : Int64)) = 0), ¬ ((lg_cmp l0 (158706 : Int64)) = 0), ¬ ((lg_cmp l0 (3375 : Int64)) = 0), ¬ ((lg_cmp l0 (2233 : Int64)) = 0), ¬ ((lg_cmp l0 (3058 : Int64)) = 0), ¬ ((lg_cmp l0 (138148 : Int64)) = 0), ¬ ((lg_cmp l0 (191476 : Int64)) = 0), ¬ ((lg_cmp l0 (2662 : Int64)) = 0), ¬ ((lg_cmp l0 (13797742 : Int64)) = 0), ¬ ((lg_cmp l0 (9882853 : Int64)) = 0), ¬ ((lg_cmp l0 (154532 : Int64)) = 0), ¬ ((lg_cmp l0 (227887 : Int64)) = 0), ¬ ((lg_cmp l0 (191479 : Int64)) = 0), ¬ ((lg_cmp l0 (3054 : Int64)) = 0), ¬ ((lg_cmp l0 (613879080 : Int64)) = 0), ¬ ((lg_cmp l0 (617240685 : Int64)) = 0), ¬ ¬ ((lg_cmp l0 (14584813 : Int64)) = 0)] rfl ⟨h1, h2, h3, h4, h5, h6, h7, h8, h9, h10, h11, h12, h13, h14, h15, h16, h17, h18, h19, h20, h21, h22, h23, h24, h25, h26, (fun q => q h27), trivial⟩
                                                      · rcases z_if_inv hf with ⟨h28, hf⟩ | ⟨h28, hf⟩
                                                        · obtain ⟨e1, e2⟩ := z_ret hf
                                                          subst e1
                                                          subst e2
                                                          exact gx_end 115 [.inl 1, .inl 1, .inl 1, .inl 1, .inl 1, .inl 1, .inl 1, .inl 1, .inl 1, .inl 1, .inl 1, .inl 1, .inl 1, .inl 1, .inl 1, .inl 1, .inl 1, .inl 1, .inl 1, .inl 1, .inl 1, .inl 1, .inl 1, .inl 1, .inl 1, .inl 1, .inl 1, .inl 0] [¬ ((lg_cmp l0 (935275816 : Int64)) = 0), ¬ ((lg_cmp l0 (9133230 : Int64)) = 0), ¬ ((lg_cmp l0 (868178852 : Int64)) = 0), ¬ ((lg_cmp l0 (818583781 : Int64)) = 0), ¬ ((lg_cmp l0 (14555877 : Int64)) = 0), ¬ ((lg_cmp l0 (867326320 : Int64)) = 0), ¬ ((lg_cmp l0 (10898213 : Int64)) = 0), ¬ ((lg_cmp l0 (9313068 : Int64)) = 0), ¬ ((lg_cmp l0 (848758905 : Int64)) = 0), ¬ ((lg_cmp l0 (10681714 : Int64)) = 0), ¬ ((lg_cmp l0 (2164 : Int64)) = 0), ¬ ((lg_cmp l0 (158706 : Int64)) = 0), ¬ ((lg_cmp l0 (3375 : Int64)) = 0), ¬ ((lg_cmp l0 (2233 : Int64)) = 0), ¬ ((lg_cmp l0 (3058 : Int64)) = 0), ¬ ((lg_cmp l0 (138148 : Int64)) = 0), ¬ ((lg_cmp l0 (191476 : Int64)) = 0), ¬ ((lg_cmp l0 (2662 : Int64)) = 0), ¬ ((lg_cmp l0 (13797742 : Int64)) = 0), ¬ ((lg_cmp l0 (9882853 : Int64)) = 0), ¬ ((lg_cmp l0 (154532 : Int64)) = 0), ¬ ((lg_cmp l0 (227887 : Int64)) = 0), ¬ ((lg_cmp l0 (191479 : Int64)) = 0), ¬ ((lg_cmp l0 (3054 : Int64)) = 0), ¬ ((lg_cmp l0 (613879080 : Int64)) = 0), ¬ ((lg_cmp l0 (617240685 : Int64)) = 0), ¬ ((lg_cmp l0 (14584813 : Int64)) = 0), ¬ ¬ ((lg_cmp l0 (13769963 : Int64)) = 0)] rfl ⟨h1, h2, h3, h4, h5, h6, h7, h8, h9, h10, h11, h12, h13, h14, h15, h16, h17, h18, h19, h20, h21, h22, h23, h24, h25, h26, h27, (fun q => q h28), trivial⟩
                                                        · rcases z_if_inv hf with ⟨h29, hf⟩ | ⟨h29, hf⟩
                                                          · obtain ⟨e1, e2⟩ := z_ret hf
                                                            subst e1
                                                            subst e2
                                                            exact gx_end 119 [.inl 1, .inl 1, .inl 1, .inl 1, .inl 1, .inl 1, .inl 1, .inl 1, .inl 1, .inl 1, .inl 1, .inl 1, .inl 1, .inl 1, .inl 1, .inl 1, .inl 1, .inl 1, .inl 1, .inl 1, .inl 1, .inl 1, .inl 1, .inl 1, .inl 1, .inl 1, .inl 1, .inl 1, .inl 0] [¬ ((lg_cmp l0 (935275816 : Int64)) = 0), ¬ ((lg_cmp l0 (9133230 : Int64)) = 0), ¬ ((lg_cmp l0 (868178852 : Int64)) = 0), ¬ ((lg_cmp l0 (818583781 : Int64)) = 0), ¬ ((lg_cmp l0 (14555877 : Int64)) = 0), ¬ ((lg_cmp l0 (867326320 : Int64)) = 0), ¬ ((lg_cmp l0 (10898213 : Int64)) = 0), ¬ ((lg_cmp l0 (9313068 : Int64)) = 0), ¬ ((lg_cmp l0 (848758905 : Int64)) = 0), ¬ ((lg_cmp l0 (10681714 : Int64)) = 0), ¬ ((lg_cmp l0 (2164 : Int64)) = 0), ¬ ((lg_cmp l0 (158706 : Int64)) = 0), ¬ ((lg_cmp l0 (3375 : Int64)) = 0), ¬ ((lg_cmp l0 (2233 : Int64)) = 0), ¬ ((lg_cmp l0 (3058 : Int64)) = 0), ¬ ((lg_cmp l0 (138148 : Int64)) = 0), ¬ ((lg_cmp l0 (191476 : Int64)) = 0), ¬ ((lg_cmp l0 (2662 : Int64)) = 0), ¬ ((lg_cmp l0 (13797742 : Int64)) = 0), ¬ ((lg_cmp l0 (9882853 : Int64)) = 0), ¬ ((lg_cmp l0 (154532 : Int64)) = 0), ¬ ((lg_cmp l0 (227887 : Int64)) = 0), ¬ ((lg_cmp l0 (191479 : Int64)) = 0), ¬ ((lg_cmp l0 (3054 : Int64)) = 0), ¬ ((lg_cmp l0 (613879080 : Int64)) = 0), ¬ ((lg_cmp l0 (617240685 : Int64)) = 0), ¬ ((lg_cmp l0 (14584813 : Int64)) = 0), ¬ ((lg_cmp l0 (13769963 : Int64)) = 0), ¬ ¬ ((lg_cmp l0 (784243941 : Int64)) = 0)] rfl ⟨h1, h2, h3, h4, h5, h6, h7, h8, h9, h10, h11, h12, h13, h14, h15, h16, h17, h18, h19, h20, h21, h22, h23, h24, h25, h26, h27, h28, (fun q => q h29), trivial⟩
                                                          · rcases z_if_inv hf with ⟨h30, hf⟩ | ⟨h30, hf⟩
                                                            · obtain ⟨e1, e2⟩ := z_ret hf
                                                              subst e1
                                                              subst e2
                                                              exact gx_end 123 [.inl 1, .inl 1, .inl 1, .inl 1, .inl 1, .inl 1, .inl 1, .inl 1, .inl 1, .inl 1, .inl 1, .inl 1, .inl 1, .inl 1, .inl 1, .inl 1, .inl 1, .inl 1, .inl 1, .inl 1, .inl 1, .inl 1, .inl 1, .inl 1, .inl 1, .inl 1, .inl 1, .inl 1, .inl 1, .inl 0] [¬ ((lg_cmp l0 (935275816 : Int64)) = 0), ¬ ((lg_cmp l0 (9133230 : Int64)) = 0), ¬ ((lg_cmp l0 (868178852 : Int64)) = 0), ¬ ((lg_cmp l0 (818583781 : Int64)) = 0), ¬ ((lg_cmp l0 (14555877 : Int64)) = 0), ¬ ((lg_cmp l0 (867326320 : Int64)) = 0), ¬ ((lg_cmp l0 (10898213 : Int64)) = 0), ¬ ((lg_cmp l0 (9313068 : Int64)) = 0), ¬ ((lg_cmp l0 (848758905 : Int64)) = 0), ¬ ((lg_cmp l0 (10681714 : Int64)) = 0), ¬ ((lg_cmp l0 (2164 : Int64)) = 0), ¬ ((lg_cmp l0 (158706 : Int64)) = 0), ¬ ((lg_cmp l0 (3375 : Int64)) = 0), ¬ ((lg_cmp l0 (2233 : Int64)) = 0), ¬ ((lg_cmp l0 (3058 : Int64)) = 0), ¬ ((lg_cmp l0 (138148 : Int64)) = 0), ¬ ((lg_cmp l0 (191476 : Int64)) = 0), ¬ ((lg_cmp l0 (2662 : Int64)) = 0), ¬ ((lg_cmp l0 (13797742 : Int64)) = 0), ¬ ((lg_cmp l0 (9882853 : Int64)) = 0), ¬ ((lg_cmp l0 (154532 : Int64)) = 0), ¬ ((lg_cmp l0 (227887 : Int64)) = 0), ¬ ((lg_cmp l0 (191479 : Int64)) = 0), ¬ ((lg_cmp l0 (3054 : Int64)) = 0), ¬ ((lg_cmp l0 (613879080 : Int64)) = 0), ¬ ((lg_cmp l0 (617240685 : Int64)) = 0), ¬ ((lg_cmp l0 (14584813 : Int64)) = 0), ¬ ((lg_cmp l0 (13769963 : Int64)) = 0), ¬ ((lg_cmp l0 (784243941 : Int64)) = 0), ¬ ¬ ((lg_cmp l0 (12548452 : Int64)) = 0)] rfl ⟨h1, h2, h3, h4, h5, h6, h7, h8, h9, h10, h11, h12, h13, h14, h15, h16, h17, h18, h19, h20, h21, h22, h23, h24, h25, h26, h27, h28, h29, (fun q => q h30), trivial⟩
                                                            · obtain ⟨e1, e2⟩ := z_ret hf
                                                              subst e1
                                                              subst e2
                                                              exact gx_end 122 [.inl 1, .inl 1, .inl 1, .inl 1, .inl 1, .inl 1, .inl 1, .inl 1, .inl 1, .inl 1, .inl 1, .inl 1, .inl 1, .inl 1, .inl 1, .inl 1, .inl 1, .inl 1, .inl 1, .inl 1, .inl 1, .inl 1, .inl 1, .inl 1, .inl 1, .inl 1, .inl 1, .inl 1, .inl 1, .inl 1] [¬ ((lg_cmp l0 (935275816 : Int64)) = 0), ¬ ((lg_cmp l0 (9133230 : Int64)) = 0), ¬ ((lg_cmp l0 (868178852 : Int64)) = 0), ¬ ((lg_cmp l0 (818583781 : Int64)) = 0), ¬ ((lg_cmp l0 (14555877 : Int64)) = 0), ¬ ((lg_cmp l0 (867326320 : Int64)) = 0), ¬ ((lg_cmp l0 (10898213 : Int64)) = 0), ¬ ((lg_cmp l0 (9313068 : Int64)) = 0), ¬ ((lg_cmp l0 (848758905 : Int64)) = 0), ¬ ((lg_cmp l0 (10681714 : Int64)) = 0), ¬ ((lg_cmp l0 (2164 : Int64)) = 0), ¬ ((lg_cmp l0 (158706 : Int64)) = 0), ¬ ((lg_cmp l0 (3375 : Int64)) = 0), ¬ ((lg_cmp l0 (2233 : Int64)) = 0), ¬ ((lg_cmp l0 (3058 : Int64)) = 0), ¬ ((lg_cmp l0 (138148 : Int64)) = 0), ¬ ((lg_cmp l0 (191476 : Int64)) = 0), ¬ ((lg_cmp l0 (2662 : Int64)) = 0), ¬ ((lg_cmp l0 (13797742 : Int64)) = 0), ¬ ((lg_cmp l0 (9882853 : Int64)) = 0), ¬ ((lg_cmp l0 (154532 : Int64)) = 0), ¬ ((lg_cmp l0 (227887 : Int64)) = 0), ¬ ((lg_cmp l0 (191479 : Int64)) = 0), ¬ ((lg_cmp l0 (3054 : Int64)) = 0), ¬ ((lg_cmp l0 (613879080 : Int64)) = 0), ¬ ((lg_cmp l0 (617240685 : Int64)) = 0), ¬ ((lg_cmp l0 (14584813 : Int64)) = 0), ¬ ((lg_cmp l0 (13769963 : Int64)) = 0), ¬ ((lg_cmp l0 (784243941 : Int64)) = 0), ¬ ((lg_cmp l0 (12548452 : Int64)) = 0)] rfl ⟨h1, h2, h3, h4, h5, h6, h7, h8, h9, h10, h11, h12, h13, h14, h15, h16, h17, h18, h19, h20, h21, h22, h23, h24, h25, h26, h27, h28, h29, h30, trivial⟩
set_option maxHeartbeats 16000000 in
set_option maxRecDepth 20000 in
theorem ww_Md_wordOf (D : Nat) (hD : 1 ≤ D) (l0 : Int64) (σ : gx_R) (rr : Int32) (σ' : gx_R) (hf : Md_wordOf l0 σ = some (rr, σ')) : E0 D 162 [.long l0] σ (some (.int rr)) σ' := by
  cases D with
  | zero => omega
  | succ D => exact Or.inl ⟨Nat.le_of_ble_eq_true rfl, vv_Md_wordOf_E D hD rr σ' l0 σ hf⟩
set_option maxHeartbeats 16000000 in
set_option maxRecDepth 20000 in
theorem vv_Md_next_216 (D : Nat) (hD : 3 ≤ D + 1) (rr : Unit) (σ' : gx_R) (s1 : Int32) (σ : gx_R) (hf : Md_next_216 s1 σ = some (rr, σ')) : gx_Ev lay0 (E0 D) tt_163 none σ' 216 [.ref 109, .null, .null, .null, .null] [.int s1, .ref 109] σ := by
  unfold Md_next_216 at hf
  obtain ⟨e1, e2⟩ := z_ret hf
  subst e1
  subst e2
  exact gx_end 8 [] [] rfl trivial
set_option maxHeartbeats 16000000 in
set_option maxRecDepth 20000 in
theorem vv_Md_next_153 (D : Nat) (hD : 3 ≤ D + 1) (rr : Unit) (σ' : gx_R) (K119 : gx_R → Option (Unit × gx_R)) (hK119 : ∀ (σ : gx_R), K119  σ = some (rr, σ') → gx_Ev lay0 (E0 D) tt_163 none σ' 119 [.ref 109, .null, .null, .null, .null] [] σ) (s1 : Int32) (σ : gx_R) (hf : Md_next_153 K119 s1 σ = some (rr, σ')) : gx_Ev lay0 (E0 D) tt_163 none σ' 153 [.ref 109, .null, .null, .null, .null] [.int s1, .ref 109] σ := by
  unfold Md_next_153 at hf
  exact gx_go_ 8 [] [] 119 [.ref 109, .null, .null, .null, .null] [] (gx_up (gx_up σ 109 18 s1) 109 15 (((gx_up σ 109 18 s1) 109 15) + (1 : Int32))) rfl trivial (gx_fgt (ls' := [.ref 109, .null, .null, .null, .null]) ⟨Or.inr rfl, Or.inl rfl, Or.inl rfl, Or.inl rfl, Or.inl rfl, trivial⟩ (hK119 (gx_up (gx_up σ 109 18 s1) 109 15 (((gx_up σ 109 18 s1) 109 15) + (1 : Int32))) hf))
set_option maxHeartbeats 16000000 in
set_option maxRecDepth 20000 in
theorem vv_Md_next_197 (D : Nat) (hD : 3 ≤ D + 1) (rr : Unit) (σ' : gx_R) (a1 : Int32) (σ : gx_R) (hf : Md_next_197 a1 σ = some (rr, σ')) : gx_Ev lay0 (E0 D) tt_163 none σ' 197 [.ref 109, .int a1, .null, .null, .null] [] σ := by
  unfold Md_next_197 at hf
  rcases z_if_inv hf with ⟨h1, hf⟩ | ⟨h1, hf⟩
  · obtain ⟨e1, e2⟩ := z_ret hf
    subst e1
    subst e2
    exact gx_end 6 [.inl 1] [(σ 109 14) ≤ (σ 109 15)] rfl ⟨h1, trivial⟩
  · obtain ⟨h2, hf⟩ := z_ck_inv hf
    rcases z_if_inv hf with ⟨h3, hf⟩ | ⟨h3, hf⟩
    · rcases z_if_inv hf with ⟨h4, hf⟩ | ⟨h4, hf⟩
      · exact gx_go_ 18 [.inl 0, .inl 0, .inl 0] [¬ ((σ 109 14) ≤ (σ 109 15)), vp_in (σ 109 15) 300, ¬ ¬ ((σ 112 ((σ 109 15).toNatClampNeg)) = (61 : Int32)), ¬ ¬ (a1 = (60 : Int32))] 216 [.ref 109, .int a1, .null, .null, .null] [.int (300 : Int32), .ref 109] σ rfl ⟨h1, (z_ix_in h2), (fun q => q h3), (fun q => q h4), trivial⟩ (gx_fgt (ls' := [.ref 109, .null, .null, .null, .null]) ⟨Or.inr rfl, Or.inl rfl, Or.inl rfl, Or.inl rfl, Or.inl rfl, trivial⟩ (vv_Md_next_216 D hD rr σ' (300 : Int32) σ hf))
      · exact gx_go_ 17 [.inl 0, .inl 0, .inl 1] [¬ ((σ 109 14) ≤ (σ 109 15)), vp_in (σ 109 15) 300, ¬ ¬ ((σ 112 ((σ 109 15).toNatClampNeg)) = (61 : Int32)), ¬ (a1 = (60 : Int32))] 216 [.ref 109, .int a1, .null, .null, .null] [.int (301 : Int32), .ref 109] σ rfl ⟨h1, (z_ix_in h2), (fun q => q h3), h4, trivial⟩ (gx_fgt (ls' := [.ref 109, .null, .null, .null, .null]) ⟨Or.inr rfl, Or.inl rfl, Or.inl rfl, Or.inl rfl, Or.inl rfl, trivial⟩ (vv_Md_next_216 D hD rr σ' (301 : Int32) σ hf))
    · obtain ⟨e1, e2⟩ := z_ret hf
      subst e1
      subst e2
      exact gx_end 13 [.inl 0, .inl 1] [¬ ((σ 109 14) ≤ (σ 109 15)), vp_in (σ 109 15) 300, ¬ ((σ 112 ((σ 109 15).toNatClampNeg)) = (61 : Int32))] rfl ⟨h1, (z_ix_in h2), h3, trivial⟩
set_option maxHeartbeats 16000000 in
set_option maxRecDepth 20000 in
theorem vv_Md_next_187 (D : Nat) (hD : 3 ≤ D + 1) (rr : Unit) (σ' : gx_R) (K190 : Int32 → Int32 → gx_R → Option (Unit × gx_R)) (hK190 : ∀ (a1 : Int32) (s1 : Int32) (σ : gx_R), K190 a1 s1 σ = some (rr, σ') → gx_Ev lay0 (E0 D) tt_163 none σ' 190 [.ref 109, .int a1, .null, .null, .null] [.int s1, .ref 109] σ) (a1 : Int32) (σ : gx_R) (hf : Md_next_187 K190 a1 σ = some (rr, σ')) : gx_Ev lay0 (E0 D) tt_163 none σ' 187 [.ref 109, .int a1, .null, .null, .null] [.ref 109] σ := by
  unfold Md_next_187 at hf
  exact gx_go_ 2 [] [] 190 [.ref 109, .int a1, .null, .null, .null] [.int (3 : Int32), .ref 109] σ rfl trivial (gx_fgt (ls' := [.ref 109, .int a1, .null, .null, .null]) ⟨Or.inr rfl, Or.inr rfl, Or.inl rfl, Or.inl rfl, Or.inl rfl, trivial⟩ (hK190 a1 (3 : Int32) σ hf))
set_option maxHeartbeats 16000000 in
set_option maxRecDepth 20000 in
theorem vv_Md_next_190 (D : Nat) (hD : 3 ≤ D + 1) (rr : Unit) (σ' : gx_R) (a1 : Int32) (s1 : Int32) (σ : gx_R) (hf : Md_next_190 a1 s1 σ = some (rr, σ')) : gx_Ev lay0 (E0 D) tt_163 none σ' 190 [.ref 109, .int a1, .null, .null, .null] [.int s1, .ref 109] σ := by
  unfold Md_next_190 at hf
  rcases z_if_inv hf with ⟨h1, hf⟩ | ⟨h1, hf⟩
  · exact gx_go_ 4 [.inl 1] [a1 = (60 : Int32)] 197 [.ref 109, .int a1, .null, .null, .null] [] (gx_up σ 109 17 s1) rfl ⟨h1, trivial⟩ (gx_fgt (ls' := [.ref 109, .int a1, .null, .null, .null]) ⟨Or.inr rfl, Or.inr rfl, Or.inl rfl, Or.inl rfl, Or.inl rfl, trivial⟩ (vv_Md_next_197 D hD rr σ' a1 (gx_up σ 109 17 s1) hf))
  · rcases z_if_inv hf with ⟨h2, hf⟩ | ⟨h2, hf⟩
    · exact gx_go_ 7 [.inl 0, .inl 0] [¬ (a1 = (60 : Int32)), ¬ ¬ (a1 = (62 : Int32))] 197 [.ref 109, .int a1, .null, .null, .null] [] (gx_up σ 109 17 s1) rfl ⟨h1, (fun q => q h2), trivial⟩ (gx_fgt (ls' := [.ref 109, .int a1, .null, .null, .null]) ⟨Or.inr rfl, Or.inr rfl, Or.inl rfl, Or.inl rfl, Or.inl rfl, trivial⟩ (vv_Md_next_197 D hD rr σ' a1 (gx_up σ 109 17 s1) hf))
    · obtain ⟨e1, e2⟩ := z_ret hf
      subst e1
      subst e2
      exact gx_end 8 [.inl 0, .inl 1] [¬ (a1 = (60 : Int32)), ¬ (a1 = (62 : Int32))] rfl ⟨h1, h2, trivial⟩
set_option maxHeartbeats 16000000 in
set_option maxRecDepth 20000 in
theorem vv_Md_next_81 (D : Nat) (hD : 3 ≤ D + 1) (rr : Unit) (σ' : gx_R) (K52 : Int64 → Int32 → gx_R → Option (Unit × gx_R)) (hK52 : ∀ (l2 : Int64) (a4 : Int32) (σ : gx_R), K52 l2 a4 σ = some (rr, σ') → gx_Ev lay0 (E0 D) tt_163 none σ' 52 [.ref 109, .null, .long l2, .null, .int a4] [] σ) (a4 : Int32) (s0 : Int64) (σ : gx_R) (hf : Md_next_81 K52 a4 s0 σ = some (rr, σ')) : gx_Ev lay0 (E0 D) tt_163 none σ' 81 [.ref 109, .null, .null, .null, .int a4] [.long s0] σ := by
  unfold Md_next_81 at hf
  exact gx_go_ 9 [] [] 52 [.ref 109, .null, .long s0, .null, .int (a4 + 1)] [] (gx_up σ 109 15 ((σ 109 15) + (1 : Int32))) rfl trivial (gx_fgt (ls' := [.ref 109, .null, .long s0, .null, .int (a4 + 1)]) ⟨Or.inr rfl, Or.inl rfl, Or.inr rfl, Or.inl rfl, Or.inr rfl, trivial⟩ (hK52 s0 (a4 + 1) (gx_up σ 109 15 ((σ 109 15) + (1 : Int32))) hf))
set_option maxHeartbeats 16000000 in
set_option maxRecDepth 20000 in
theorem vv_Md_next_106 (D : Nat) (hD : 3 ≤ D + 1) (rr : Unit) (σ' : gx_R) (s1 : Int32) (σ : gx_R) (hf : Md_next_106 s1 σ = some (rr, σ')) : gx_Ev lay0 (E0 D) tt_163 none σ' 106 [.null, .null, .null, .null, .null] [.int s1, .ref 109] σ := by
  unfold Md_next_106 at hf
  obtain ⟨e1, e2⟩ := z_ret hf
  subst e1
  subst e2
  exact gx_end 3 [] [] rfl trivial
set_option maxHeartbeats 16000000 in
set_option maxRecDepth 20000 in
theorem vv_Md_next_98 (D : Nat) (hD : 3 ≤ D + 1) (rr : Unit) (σ' : gx_R) (s1 : Int32) (σ : gx_R) (hf : Md_next_98 s1 σ = some (rr, σ')) : gx_Ev lay0 (E0 D) tt_163 none σ' 98 [.ref 109, .null, .null, .null, .null] [.int s1, .ref 109] σ := by
  unfold Md_next_98 at hf
  rcases z_if_inv hf with ⟨h1, hf⟩ | ⟨h1, hf⟩
  · exact gx_go_ 6 [.inl 1] [0 ≤ ((gx_up σ 109 18 s1) 109 18)] 106 [.ref 109, .null, .null, .null, .null] [.int (1 : Int32), .ref 109] (gx_up σ 109 18 s1) rfl ⟨h1, trivial⟩ (gx_fgt (ls' := [.null, .null, .null, .null, .null]) ⟨Or.inl rfl, Or.inl rfl, Or.inl rfl, Or.inl rfl, Or.inl rfl, trivial⟩ (vv_Md_next_106 D hD rr σ' (1 : Int32) (gx_up σ 109 18 s1) hf))
  · exact gx_go_ 7 [.inl 0] [¬ (0 ≤ ((gx_up σ 109 18 s1) 109 18))] 106 [.ref 109, .null, .null, .null, .null] [.int (4 : Int32), .ref 109] (gx_up σ 109 18 s1) rfl ⟨h1, trivial⟩ (gx_fgt (ls' := [.null, .null, .null, .null, .null]) ⟨Or.inl rfl, Or.inl rfl, Or.inl rfl, Or.inl rfl, Or.inl rfl, trivial⟩ (vv_Md_next_106 D hD rr σ' (4 : Int32) (gx_up σ 109 18 s1) hf))
set_option maxHeartbeats 16000000 in
set_option maxRecDepth 20000 in
theorem vv_Md_next_119_B (D : Nat) (hD : 3 ≤ D + 1) (rr : Unit) (σ' : gx_R) (K119 : gx_R → Option (Unit × gx_R)) (hK119 : ∀ (σ : gx_R), K119  σ = some (rr, σ') → gx_Ev lay0 (E0 D) tt_163 none σ' 119 [.ref 109, .null, .null, .null, .null] [] σ) (σ : gx_R) (hf : Md_next_119_B K119  σ = some (rr, σ')) : gx_Ev lay0 (E0 D) tt_163 none σ' 119 [.ref 109, .null, .null, .null, .null] [] σ := by
  unfold Md_next_119_B at hf
  rcases z_if_inv hf with ⟨h1, hf⟩ | ⟨h1, hf⟩
  · obtain ⟨e1, e2⟩ := z_ret hf
    subst e1
    subst e2
    exact gx_end 6 [.inl 1] [(σ 109 14) ≤ (σ 109 15)] rfl ⟨h1, trivial⟩
  · obtain ⟨h2, hf⟩ := z_ck_inv hf
    obtain ⟨r3, σ4, h5, hf⟩ := z_bd_inv hf
    rcases z_if_inv hf with ⟨h6, hf⟩ | ⟨h6, hf⟩
    · obtain ⟨e1, e2⟩ := z_ret hf
      subst e1
      subst e2
      exact gx_end 15 [.inl 0, .inr (some (.int r3), σ4), .inl 1] [¬ ((σ 109 14) ≤ (σ 109 15)), vp_in (σ 109 15) 300, E0 D 145 [.int (σ 112 ((σ 109 15).toNatClampNeg)), .int (48 : Int32), .int (57 : Int32)] σ (some (.int r3)) σ4, r3 = 0] rfl ⟨h1, (z_ix_in h2), (ww_Md_in D (by omega) (σ 112 ((σ 109 15).toNatClampNeg)) (48 : Int32) (57 : Int32) σ r3 σ4 h5), h6, trivial⟩
    · rcases z_if_inv hf with ⟨h7, hf⟩ | ⟨h7, hf⟩
      · obtain ⟨h8, hf⟩ := z_ck_inv hf
        exact gx_go_ 31 [.inl 0, .inr (some (.int r3), σ4), .inl 0, .inl 1] [¬ ((σ 109 14) ≤ (σ 109 15)), vp_in (σ 109 15) 300, E0 D 145 [.int (σ 112 ((σ 109 15).toNatClampNeg)), .int (48 : Int32), .int (57 : Int32)] σ (some (.int r3)) σ4, ¬ (r3 = 0), (σ4 109 18) ≤ (99999 : Int32), vp_in (σ4 109 15) 300] 153 [.ref 109, .null, .null, .null, .null] [.int ((((10 : Int32) * (σ4 109 18)) + (σ4 112 ((σ4 109 15).toNatClampNeg))) - (48 : Int32)), .ref 109] σ4 rfl ⟨h1, (z_ix_in h2), (ww_Md_in D (by omega) (σ 112 ((σ 109 15).toNatClampNeg)) (48 : Int32) (57 : Int32) σ r3 σ4 h5), h6, h7, (z_ix_in h8), trivial⟩ (gx_fgt (ls' := [.ref 109, .null, .null, .null, .null]) ⟨Or.inr rfl, Or.inl rfl, Or.inl rfl, Or.inl rfl, Or.inl rfl, trivial⟩ (vv_Md_next_153 D hD rr σ' K119 hK119 ((((10 : Int32) * (σ4 109 18)) + (σ4 112 ((σ4 109 15).toNatClampNeg))) - (48 : Int32)) σ4 hf))
      · exact gx_go_ 22 [.inl 0, .inr (some (.int r3), σ4), .inl 0, .inl 0] [¬ ((σ 109 14) ≤ (σ 109 15)), vp_in (σ 109 15) 300, E0 D 145 [.int (σ 112 ((σ 109 15).toNatClampNeg)), .int (48 : Int32), .int (57 : Int32)] σ (some (.int r3)) σ4, ¬ (r3 = 0), ¬ ((σ4 109 18) ≤ (99999 : Int32))] 153 [.ref 109, .null, .null, .null, .null] [.int (σ4 109 18), .ref 109] σ4 rfl ⟨h1, (z_ix_in h2), (ww_Md_in D (by omega) (σ 112 ((σ 109 15).toNatClampNeg)) (48 : Int32) (57 : Int32) σ r3 σ4 h5), h6, h7, trivial⟩ (gx_fgt (ls' := [.ref 109, .null, .null, .null, .null]) ⟨Or.inr rfl, Or.inl rfl, Or.inl rfl, Or.inl rfl, Or.inl rfl, trivial⟩ (vv_Md_next_153 D hD rr σ' K119 hK119 (σ4 109 18) σ4 hf))
set_option maxHeartbeats 16000000 in
set_option maxRecDepth 20000 in
theorem vv_Md_next_119 (D : Nat) (hD : 3 ≤ D + 1) (rr : Unit) (σ' : gx_R) : ∀ (n : Nat) (σ : gx_R), Md_next_119 n  σ = some (rr, σ') → gx_Ev lay0 (E0 D) tt_163 none σ' 119 [.ref 109, .null, .null, .null, .null] [] σ := by
  intro n
  induction n with
  | zero => intro  σ  hf; cases hf
  | succ n ih => intro  σ  hf; exact vv_Md_next_119_B D hD rr σ'  (Md_next_119 n) ih  σ  hf
set_option maxHeartbeats 16000000 in
set_option maxRecDepth 20000 in
theorem vv_Md_next_90 (D : Nat) (hD : 3 ≤ D + 1) (rr : Unit) (σ' : gx_R) (l2 : Int64) (a4 : Int32) (σ : gx_R) (hf : Md_next_90 l2 a4 σ = some (rr, σ')) : gx_Ev lay0 (E0 D) tt_163 none σ' 90 [.ref 109, .null, .long l2, .null, .int a4] [] σ := by
  unfold Md_next_90 at hf
  rcases z_if_inv hf with ⟨h1, hf⟩ | ⟨h1, hf⟩
  · obtain ⟨r2, σ3, h4, hf⟩ := z_bd_inv hf
    exact gx_go_ 6 [.inl 1, .inr (some (.int r2), σ3)] [a4 ≤ (7 : Int32), E0 D 162 [.long l2] σ (some (.int r2)) σ3] 98 [.ref 109, .null, .long l2, .null, .int a4] [.int r2, .ref 109] σ3 rfl ⟨h1, (ww_Md_wordOf D (by omega) l2 σ r2 σ3 h4), trivial⟩ (gx_fgt (ls' := [.ref 109, .null, .null, .null, .null]) ⟨Or.inr rfl, Or.inl rfl, Or.inl rfl, Or.inl rfl, Or.inl rfl, trivial⟩ (vv_Md_next_98 D hD rr σ' r2 σ3 hf))
  · exact gx_go_ 6 [.inl 0] [¬ (a4 ≤ (7 : Int32))] 98 [.ref 109, .null, .long l2, .null, .int a4] [.int (-1 : Int32), .ref 109] σ rfl ⟨h1, trivial⟩ (gx_fgt (ls' := [.ref 109, .null, .null, .null, .null]) ⟨Or.inr rfl, Or.inl rfl, Or.inl rfl, Or.inl rfl, Or.inl rfl, trivial⟩ (vv_Md_next_98 D hD rr σ' (-1 : Int32) σ hf))
set_option maxHeartbeats 16000000 in
set_option maxRecDepth 20000 in
theorem vv_Md_next_52_B (D : Nat) (hD : 3 ≤ D + 1) (rr : Unit) (σ' : gx_R) (K52 : Int64 → Int32 → gx_R → Option (Unit × gx_R)) (hK52 : ∀ (l2 : Int64) (a4 : Int32) (σ : gx_R), K52 l2 a4 σ = some (rr, σ') → gx_Ev lay0 (E0 D) tt_163 none σ' 52 [.ref 109, .null, .long l2, .null, .int a4] [] σ) (l2 : Int64) (a4 : Int32) (σ : gx_R) (hf : Md_next_52_B K52 l2 a4 σ = some (rr, σ')) : gx_Ev lay0 (E0 D) tt_163 none σ' 52 [.ref 109, .null, .long l2, .null, .int a4] [] σ := by
  unfold Md_next_52_B at hf
  rcases z_if_inv hf with ⟨h1, hf⟩ | ⟨h1, hf⟩
  · exact gx_go_ 5 [.inl 1] [(σ 109 14) ≤ (σ 109 15)] 90 [.ref 109, .null, .long l2, .null, .int a4] [] σ rfl ⟨h1, trivial⟩ (gx_fgt (ls' := [.ref 109, .null, .long l2, .null, .int a4]) ⟨Or.inr rfl, Or.inl rfl, Or.inr rfl, Or.inl rfl, Or.inr rfl, trivial⟩ (vv_Md_next_90 D hD rr σ' l2 a4 σ hf))
  · obtain ⟨h2, hf⟩ := z_ck_inv hf
    obtain ⟨r3, σ4, h5, hf⟩ := z_bd_inv hf
    rcases z_if_inv hf with ⟨h6, hf⟩ | ⟨h6, hf⟩
    · exact gx_go_ 12 [.inl 0, .inr (some (.int r3), σ4), .inl 1] [¬ ((σ 109 14) ≤ (σ 109 15)), vp_in (σ 109 15) 300, E0 D 161 [.int (σ 112 ((σ 109 15).toNatClampNeg))] σ (some (.int r3)) σ4, r3 = 0] 90 [.ref 109, .null, .long l2, .null, .int a4] [] σ4 rfl ⟨h1, (z_ix_in h2), (ww_Md_isLetter D (by omega) (σ 112 ((σ 109 15).toNatClampNeg)) σ r3 σ4 h5), h6, trivial⟩ (gx_fgt (ls' := [.ref 109, .null, .long l2, .null, .int a4]) ⟨Or.inr rfl, Or.inl rfl, Or.inr rfl, Or.inl rfl, Or.inr rfl, trivial⟩ (vv_Md_next_90 D hD rr σ' l2 a4 σ4 hf))
    · rcases z_if_inv hf with ⟨h7, hf⟩ | ⟨h7, hf⟩
      · exact gx_go_ 16 [.inl 0, .inr (some (.int r3), σ4), .inl 0, .inl 1] [¬ ((σ 109 14) ≤ (σ 109 15)), vp_in (σ 109 15) 300, E0 D 161 [.int (σ 112 ((σ 109 15).toNatClampNeg))] σ (some (.int r3)) σ4, ¬ (r3 = 0), (8 : Int32) ≤ a4] 81 [.ref 109, .null, .long l2, .null, .int a4] [.long l2] σ4 rfl ⟨h1, (z_ix_in h2), (ww_Md_isLetter D (by omega) (σ 112 ((σ 109 15).toNatClampNeg)) σ r3 σ4 h5), h6, h7, trivial⟩ (gx_fgt (ls' := [.ref 109, .null, .null, .null, .int a4]) ⟨Or.inr rfl, Or.inl rfl, Or.inl rfl, Or.inl rfl, Or.inr rfl, trivial⟩ (vv_Md_next_81 D hD rr σ' K52 hK52 a4 l2 σ4 hf))
      · obtain ⟨h8, hf⟩ := z_ck_inv hf
        exact gx_go_ 28 [.inl 0, .inr (some (.int r3), σ4), .inl 0, .inl 0] [¬ ((σ 109 14) ≤ (σ 109 15)), vp_in (σ 109 15) 300, E0 D 161 [.int (σ 112 ((σ 109 15).toNatClampNeg))] σ (some (.int r3)) σ4, ¬ (r3 = 0), ¬ ((8 : Int32) ≤ a4), vp_in (σ4 109 15) 300] 81 [.ref 109, .null, .long l2, .null, .int a4] [.long ((((64 : Int64) * l2) + (σ4 112 ((σ4 109 15).toNatClampNeg)).toInt64) - (64 : Int64))] σ4 rfl ⟨h1, (z_ix_in h2), (ww_Md_isLetter D (by omega) (σ 112 ((σ 109 15).toNatClampNeg)) σ r3 σ4 h5), h6, h7, (z_ix_in h8), trivial⟩ (gx_fgt (ls' := [.ref 109, .null, .null, .null, .int a4]) ⟨Or.inr rfl, Or.inl rfl, Or.inl rfl, Or.inl rfl, Or.inr rfl, trivial⟩ (vv_Md_next_81 D hD rr σ' K52 hK52 a4 ((((64 : Int64) * l2) + (σ4 112 ((σ4 109 15).toNatClampNeg)).toInt64) - (64 : Int64)) σ4 hf))
set_option maxHeartbeats 16000000 in
set_option maxRecDepth 20000 in
theorem vv_Md_next_52 (D : Nat) (hD : 3 ≤ D + 1) (rr : Unit) (σ' : gx_R) : ∀ (n : Nat) (l2 : Int64) (a4 : Int32) (σ : gx_R), Md_next_52 n l2 a4 σ = some (rr, σ') → gx_Ev lay0 (E0 D) tt_163 none σ' 52 [.ref 109, .null, .long l2, .null, .int a4] [] σ := by
  intro n
  induction n with
  | zero => intro l2 a4 σ  hf; cases hf
  | succ n ih => intro l2 a4 σ  hf; exact vv_Md_next_52_B D hD rr σ'  (Md_next_52 n) ih l2 a4 σ  hf
set_option maxHeartbeats 16000000 in
set_option maxRecDepth 20000 in
theorem vv_Md_next_19 (D : Nat) (hD : 3 ≤ D + 1) (rr : Unit) (σ' : gx_R) (K0 : gx_R → Option (Unit × gx_R)) (hK0 : ∀ (σ : gx_R), K0  σ = some (rr, σ') → gx_Ev lay0 (E0 D) tt_163 none σ' 0 [.ref 109, .null, .null, .null, .null] [] σ) (σ : gx_R) (hf : Md_next_19 K0  σ = some (rr, σ')) : gx_Ev lay0 (E0 D) tt_163 none σ' 19 [.ref 109, .null, .null, .null, .null] [] σ := by
  unfold Md_next_19 at hf
  exact gx_go_ 7 [] [] 0 [.ref 109, .null, .null, .null, .null] [] (gx_up σ 109 15 ((σ 109 15) + (1 : Int32))) rfl trivial (gx_fgt (ls' := [.ref 109, .null, .null, .null, .null]) ⟨Or.inr rfl, Or.inl rfl, Or.inl rfl, Or.inl rfl, Or.inl rfl, trivial⟩ (hK0 (gx_up σ 109 15 ((σ 109 15) + (1 : Int32))) hf))
set_option maxHeartbeats 16000000 in
set_option maxRecDepth 20000 in
theorem vv_Md_next_26 (D : Nat) (hD : 3 ≤ D + 1) (rr : Unit) (σ' : gx_R) (σ : gx_R) (hf : Md_next_26  σ = some (rr, σ')) : gx_Ev lay0 (E0 D) tt_163 none σ' 26 [.ref 109, .null, .null, .null, .null] [] σ := by
  unfold Md_next_26 at hf
  rcases z_if_inv hf with ⟨h1, hf⟩ | ⟨h1, hf⟩
  · obtain ⟨e1, e2⟩ := z_ret hf
    subst e1
    subst e2
    exact gx_end 13 [.inl 0] [¬ ¬ (((gx_up σ 109 16 (σ 109 15)) 109 15) = ((gx_up σ 109 16 (σ 109 15)) 109 14))] rfl ⟨(fun q => q h1), trivial⟩
  · obtain ⟨h2, hf⟩ := z_ck_inv hf
    obtain ⟨r3, σ4, h5, hf⟩ := z_bd_inv hf
    rcases z_if_inv hf with ⟨h6, hf⟩ | ⟨h6, hf⟩
    · obtain ⟨r7, σ8, h9, hf⟩ := z_bd_inv hf
      rcases z_if_inv hf with ⟨h10, hf⟩ | ⟨h10, hf⟩
      · obtain ⟨r11, σ12, h13, hf⟩ := z_bd_inv hf
        rcases z_if_inv hf with ⟨h14, hf⟩ | ⟨h14, hf⟩
        · obtain ⟨r15, σ16, h17, hf⟩ := z_bd_inv hf
          rcases z_if_inv hf with ⟨h18, hf⟩ | ⟨h18, hf⟩
          · rcases z_if_inv hf with ⟨h19, hf⟩ | ⟨h19, hf⟩
            · exact gx_go_ 46 [.inl 1, .inr (some (.int r3), σ4), .inl 1, .inr (some (.int r7), σ8), .inl 1, .inr (some (.int r11), σ12), .inl 0, .inr (some (.int r15), σ16), .inl 0, .inl 1] [¬ (((gx_up σ 109 16 (σ 109 15)) 109 15) = ((gx_up σ 109 16 (σ 109 15)) 109 14)), vp_in ((gx_up σ 109 16 (σ 109 15)) 109 15) 300, E0 D 161 [.int ((gx_up σ 109 16 (σ 109 15)) 112 (((gx_up σ 109 16 (σ 109 15)) 109 15).toNatClampNeg))] (gx_up σ 109 16 (σ 109 15)) (some (.int r3)) σ4, r3 = 0, E0 D 145 [.int ((gx_up σ 109 16 (σ 109 15)) 112 (((gx_up σ 109 16 (σ 109 15)) 109 15).toNatClampNeg)), .int (48 : Int32), .int (57 : Int32)] σ4 (some (.int r7)) σ8, r7 = 0, E0 D 145 [.int ((gx_up σ 109 16 (σ 109 15)) 112 (((gx_up σ 109 16 (σ 109 15)) 109 15).toNatClampNeg)), .int (59 : Int32), .int (62 : Int32)] (gx_up (gx_up σ8 109 15 ((σ8 109 15) + (1 : Int32))) 109 18 ((gx_up σ 109 16 (σ 109 15)) 112 (((gx_up σ 109 16 (σ 109 15)) 109 15).toNatClampNeg))) (some (.int r11)) σ12, ¬ ¬ (r11 = 0), E0 D 145 [.int ((gx_up σ 109 16 (σ 109 15)) 112 (((gx_up σ 109 16 (σ 109 15)) 109 15).toNatClampNeg)), .int (40 : Int32), .int (45 : Int32)] σ12 (some (.int r15)) σ16, ¬ ¬ (r15 = 0), ((gx_up σ 109 16 (σ 109 15)) 112 (((gx_up σ 109 16 (σ 109 15)) 109 15).toNatClampNeg)) = (47 : Int32)] 187 [.ref 109, .int ((gx_up σ 109 16 (σ 109 15)) 112 (((gx_up σ 109 16 (σ 109 15)) 109 15).toNatClampNeg)), .null, .null, .null] [.ref 109] σ16 rfl ⟨h1, (z_ix_in h2), (ww_Md_isLetter D (by omega) ((gx_up σ 109 16 (σ 109 15)) 112 (((gx_up σ 109 16 (σ 109 15)) 109 15).toNatClampNeg)) (gx_up σ 109 16 (σ 109 15)) r3 σ4 h5), h6, (ww_Md_in D (by omega) ((gx_up σ 109 16 (σ 109 15)) 112 (((gx_up σ 109 16 (σ 109 15)) 109 15).toNatClampNeg)) (48 : Int32) (57 : Int32) σ4 r7 σ8 h9), h10, (ww_Md_in D (by omega) ((gx_up σ 109 16 (σ 109 15)) 112 (((gx_up σ 109 16 (σ 109 15)) 109 15).toNatClampNeg)) (59 : Int32) (62 : Int32) (gx_up (gx_up σ8 109 15 ((σ8 109 15) + (1 : Int32))) 109 18 ((gx_up σ 109 16 (σ 109 15)) 112 (((gx_up σ 109 16 (σ 109 15)) 109 15).toNatClampNeg))) r11 σ12 h13), (fun q => q h14), (ww_Md_in D (by omega) ((gx_up σ 109 16 (σ 109 15)) 112 (((gx_up σ 109 16 (σ 109 15)) 109 15).toNatClampNeg)) (40 : Int32) (45 : Int32) σ12 r15 σ16 h17), (fun q => q h18), h19, trivial⟩ (gx_fgt (ls' := [.ref 109, .int ((gx_up σ 109 16 (σ 109 15)) 112 (((gx_up σ 109 16 (σ 109 15)) 109 15).toNatClampNeg)), .null, .null, .null]) ⟨Or.inr rfl, Or.inr rfl, Or.inl rfl, Or.inl rfl, Or.inl rfl, trivial⟩ (vv_Md_next_187 D hD rr σ' (Md_next_190) (vv_Md_next_190 D hD rr σ') ((gx_up σ 109 16 (σ 109 15)) 112 (((gx_up σ 109 16 (σ 109 15)) 109 15).toNatClampNeg)) σ16 hf))
            · rcases z_if_inv hf with ⟨h20, hf⟩ | ⟨h20, hf⟩
              · exact gx_go_ 49 [.inl 1, .inr (some (.int r3), σ4), .inl 1, .inr (some (.int r7), σ8), .inl 1, .inr (some (.int r11), σ12), .inl 0, .inr (some (.int r15), σ16), .inl 0, .inl 0, .inl 0] [¬ (((gx_up σ 109 16 (σ 109 15)) 109 15) = ((gx_up σ 109 16 (σ 109 15)) 109 14)), vp_in ((gx_up σ 109 16 (σ 109 15)) 109 15) 300, E0 D 161 [.int ((gx_up σ 109 16 (σ 109 15)) 112 (((gx_up σ 109 16 (σ 109 15)) 109 15).toNatClampNeg))] (gx_up σ 109 16 (σ 109 15)) (some (.int r3)) σ4, r3 = 0, E0 D 145 [.int ((gx_up σ 109 16 (σ 109 15)) 112 (((gx_up σ 109 16 (σ 109 15)) 109 15).toNatClampNeg)), .int (48 : Int32), .int (57 : Int32)] σ4 (some (.int r7)) σ8, r7 = 0, E0 D 145 [.int ((gx_up σ 109 16 (σ 109 15)) 112 (((gx_up σ 109 16 (σ 109 15)) 109 15).toNatClampNeg)), .int (59 : Int32), .int (62 : Int32)] (gx_up (gx_up σ8 109 15 ((σ8 109 15) + (1 : Int32))) 109 18 ((gx_up σ 109 16 (σ 109 15)) 112 (((gx_up σ 109 16 (σ 109 15)) 109 15).toNatClampNeg))) (some (.int r11)) σ12, ¬ ¬ (r11 = 0), E0 D 145 [.int ((gx_up σ 109 16 (σ 109 15)) 112 (((gx_up σ 109 16 (σ 109 15)) 109 15).toNatClampNeg)), .int (40 : Int32), .int (45 : Int32)] σ12 (some (.int r15)) σ16, ¬ ¬ (r15 = 0), ¬ (((gx_up σ 109 16 (σ 109 15)) 112 (((gx_up σ 109 16 (σ 109 15)) 109 15).toNatClampNeg)) = (47 : Int32)), ¬ ¬ (((gx_up σ 109 16 (σ 109 15)) 112 (((gx_up σ 109 16 (σ 109 15)) 109 15).toNatClampNeg)) = (35 : Int32))] 187 [.ref 109, .int ((gx_up σ 109 16 (σ 109 15)) 112 (((gx_up σ 109 16 (σ 109 15)) 109 15).toNatClampNeg)), .null, .null, .null] [.ref 109] σ16 rfl ⟨h1, (z_ix_in h2), (ww_Md_isLetter D (by omega) ((gx_up σ 109 16 (σ 109 15)) 112 (((gx_up σ 109 16 (σ 109 15)) 109 15).toNatClampNeg)) (gx_up σ 109 16 (σ 109 15)) r3 σ4 h5), h6, (ww_Md_in D (by omega) ((gx_up σ 109 16 (σ 109 15)) 112 (((gx_up σ 109 16 (σ 109 15)) 109 15).toNatClampNeg)) (48 : Int32) (57 : Int32) σ4 r7 σ8 h9), h10, (ww_Md_in D (by omega) ((gx_up σ 109 16 (σ 109 15)) 112 (((gx_up σ 109 16 (σ 109 15)) 109 15).toNatClampNeg)) (59 : Int32) (62 : Int32) (gx_up (gx_up σ8 109 15 ((σ8 109 15) + (1 : Int32))) 109 18 ((gx_up σ 109 16 (σ 109 15)) 112 (((gx_up σ 109 16 (σ 109 15)) 109 15).toNatClampNeg))) r11 σ12 h13), (fun q => q h14), (ww_Md_in D (by omega) ((gx_up σ 109 16 (σ 109 15)) 112 (((gx_up σ 109 16 (σ 109 15)) 109 15).toNatClampNeg)) (40 : Int32) (45 : Int32) σ12 r15 σ16 h17), (fun q => q h18), h19, (fun q => q h20), trivial⟩ (gx_fgt (ls' := [.ref 109, .int ((gx_up σ 109 16 (σ 109 15)) 112 (((gx_up σ 109 16 (σ 109 15)) 109 15).toNatClampNeg)), .null, .null, .null]) ⟨Or.inr rfl, Or.inr rfl, Or.inl rfl, Or.inl rfl, Or.inl rfl, trivial⟩ (vv_Md_next_187 D hD rr σ' (Md_next_190) (vv_Md_next_190 D hD rr σ') ((gx_up σ 109 16 (σ 109 15)) 112 (((gx_up σ 109 16 (σ 109 15)) 109 15).toNatClampNeg)) σ16 hf))
              · exact gx_go_ 50 [.inl 1, .inr (some (.int r3), σ4), .inl 1, .inr (some (.int r7), σ8), .inl 1, .inr (some (.int r11), σ12), .inl 0, .inr (some (.int r15), σ16), .inl 0, .inl 0, .inl 1] [¬ (((gx_up σ 109 16 (σ 109 15)) 109 15) = ((gx_up σ 109 16 (σ 109 15)) 109 14)), vp_in ((gx_up σ 109 16 (σ 109 15)) 109 15) 300, E0 D 161 [.int ((gx_up σ 109 16 (σ 109 15)) 112 (((gx_up σ 109 16 (σ 109 15)) 109 15).toNatClampNeg))] (gx_up σ 109 16 (σ 109 15)) (some (.int r3)) σ4, r3 = 0, E0 D 145 [.int ((gx_up σ 109 16 (σ 109 15)) 112 (((gx_up σ 109 16 (σ 109 15)) 109 15).toNatClampNeg)), .int (48 : Int32), .int (57 : Int32)] σ4 (some (.int r7)) σ8, r7 = 0, E0 D 145 [.int ((gx_up σ 109 16 (σ 109 15)) 112 (((gx_up σ 109 16 (σ 109 15)) 109 15).toNatClampNeg)), .int (59 : Int32), .int (62 : Int32)] (gx_up (gx_up σ8 109 15 ((σ8 109 15) + (1 : Int32))) 109 18 ((gx_up σ 109 16 (σ 109 15)) 112 (((gx_up σ 109 16 (σ 109 15)) 109 15).toNatClampNeg))) (some (.int r11)) σ12, ¬ ¬ (r11 = 0), E0 D 145 [.int ((gx_up σ 109 16 (σ 109 15)) 112 (((gx_up σ 109 16 (σ 109 15)) 109 15).toNatClampNeg)), .int (40 : Int32), .int (45 : Int32)] σ12 (some (.int r15)) σ16, ¬ ¬ (r15 = 0), ¬ (((gx_up σ 109 16 (σ 109 15)) 112 (((gx_up σ 109 16 (σ 109 15)) 109 15).toNatClampNeg)) = (47 : Int32)), ¬ (((gx_up σ 109 16 (σ 109 15)) 112 (((gx_up σ 109 16 (σ 109 15)) 109 15).toNatClampNeg)) = (35 : Int32))] 190 [.ref 109, .int ((gx_up σ 109 16 (σ 109 15)) 112 (((gx_up σ 109 16 (σ 109 15)) 109 15).toNatClampNeg)), .null, .null, .null] [.int (4 : Int32), .ref 109] σ16 rfl ⟨h1, (z_ix_in h2), (ww_Md_isLetter D (by omega) ((gx_up σ 109 16 (σ 109 15)) 112 (((gx_up σ 109 16 (σ 109 15)) 109 15).toNatClampNeg)) (gx_up σ 109 16 (σ 109 15)) r3 σ4 h5), h6, (ww_Md_in D (by omega) ((gx_up σ 109 16 (σ 109 15)) 112 (((gx_up σ 109 16 (σ 109 15)) 109 15).toNatClampNeg)) (48 : Int32) (57 : Int32) σ4 r7 σ8 h9), h10, (ww_Md_in D (by omega) ((gx_up σ 109 16 (σ 109 15)) 112 (((gx_up σ 109 16 (σ 109 15)) 109 15).toNatClampNeg)) (59 : Int32) (62 : Int32) (gx_up (gx_up σ8 109 15 ((σ8 109 15) + (1 : Int32))) 109 18 ((gx_up σ 109 16 (σ 109 15)) 112 (((gx_up σ 109 16 (σ 109 15)) 109 15).toNatClampNeg))) r11 σ12 h13), (fun q => q h14), (ww_Md_in D (by omega) ((gx_up σ 109 16 (σ 109 15)) 112 (((gx_up σ 109 16 (σ 109 15)) 109 15).toNatClampNeg)) (40 : Int32) (45 : Int32) σ12 r15 σ16 h17), (fun q => q h18), h19, h20, trivial⟩ (gx_fgt (ls' := [.ref 109, .int ((gx_up σ 109 16 (σ 109 15)) 112 (((gx_up σ 109 16 (σ 109 15)) 109 15).toNatClampNeg)), .null, .null, .null]) ⟨Or.inr rfl, Or.inr rfl, Or.inl rfl, Or.inl rfl, Or.inl rfl, trivial⟩ (vv_Md_next_190 D hD rr σ' ((gx_up σ 109 16 (σ 109 15)) 112 (((gx_up σ 109 16 (σ 109 15)) 109 15).toNatClampNeg)) (4 : Int32) σ16 hf))
          · exact gx_go_ 43 [.inl 1, .inr (some (.int r3), σ4), .inl 1, .inr (some (.int r7), σ8), .inl 1, .inr (some (.int r11), σ12), .inl 0, .inr (some (.int r15), σ16), .inl 1] [¬ (((gx_up σ 109 16 (σ 109 15)) 109 15) = ((gx_up σ 109 16 (σ 109 15)) 109 14)), vp_in ((gx_up σ 109 16 (σ 109 15)) 109 15) 300, E0 D 161 [.int ((gx_up σ 109 16 (σ 109 15)) 112 (((gx_up σ 109 16 (σ 109 15)) 109 15).toNatClampNeg))] (gx_up σ 109 16 (σ 109 15)) (some (.int r3)) σ4, r3 = 0, E0 D 145 [.int ((gx_up σ 109 16 (σ 109 15)) 112 (((gx_up σ 109 16 (σ 109 15)) 109 15).toNatClampNeg)), .int (48 : Int32), .int (57 : Int32)] σ4 (some (.int r7)) σ8, r7 = 0, E0 D 145 [.int ((gx_up σ 109 16 (σ 109 15)) 112 (((gx_up σ 109 16 (σ 109 15)) 109 15).toNatClampNeg)), .int (59 : Int32), .int (62 : Int32)] (gx_up (gx_up σ8 109 15 ((σ8 109 15) + (1 : Int32))) 109 18 ((gx_up σ 109 16 (σ 109 15)) 112 (((gx_up σ 109 16 (σ 109 15)) 109 15).toNatClampNeg))) (some (.int r11)) σ12, ¬ ¬ (r11 = 0), E0 D 145 [.int ((gx_up σ 109 16 (σ 109 15)) 112 (((gx_up σ 109 16 (σ 109 15)) 109 15).toNatClampNeg)), .int (40 : Int32), .int (45 : Int32)] σ12 (some (.int r15)) σ16, ¬ (r15 = 0)] 187 [.ref 109, .int ((gx_up σ 109 16 (σ 109 15)) 112 (((gx_up σ 109 16 (σ 109 15)) 109 15).toNatClampNeg)), .null, .null, .null] [.ref 109] σ16 rfl ⟨h1, (z_ix_in h2), (ww_Md_isLetter D (by omega) ((gx_up σ 109 16 (σ 109 15)) 112 (((gx_up σ 109 16 (σ 109 15)) 109 15).toNatClampNeg)) (gx_up σ 109 16 (σ 109 15)) r3 σ4 h5), h6, (ww_Md_in D (by omega) ((gx_up σ 109 16 (σ 109 15)) 112 (((gx_up σ 109 16 (σ 109 15)) 109 15).toNatClampNeg)) (48 : Int32) (57 : Int32) σ4 r7 σ8 h9), h10, (ww_Md_in D (by omega) ((gx_up σ 109 16 (σ 109 15)) 112 (((gx_up σ 109 16 (σ 109 15)) 109 15).toNatClampNeg)) (59 : Int32) (62 : Int32) (gx_up (gx_up σ8 109 15 ((σ8 109 15) + (1 : Int32))) 109 18 ((gx_up σ 109 16 (σ 109 15)) 112 (((gx_up σ 109 16 (σ 109 15)) 109 15).toNatClampNeg))) r11 σ12 h13), (fun q => q h14), (ww_Md_in D (by omega) ((gx_up σ 109 16 (σ 109 15)) 112 (((gx_up σ 109 16 (σ 109 15)) 109 15).toNatClampNeg)) (40 : Int32) (45 : Int32) σ12 r15 σ16 h17), h18, trivial⟩ (gx_fgt (ls' := [.ref 109, .int ((gx_up σ 109 16 (σ 109 15)) 112 (((gx_up σ 109 16 (σ 109 15)) 109 15).toNatClampNeg)), .null, .null, .null]) ⟨Or.inr rfl, Or.inr rfl, Or.inl rfl, Or.inl rfl, Or.inl rfl, trivial⟩ (vv_Md_next_187 D hD rr σ' (Md_next_190) (vv_Md_next_190 D hD rr σ') ((gx_up σ 109 16 (σ 109 15)) 112 (((gx_up σ 109 16 (σ 109 15)) 109 15).toNatClampNeg)) σ16 hf))
        · exact gx_go_ 38 [.inl 1, .inr (some (.int r3), σ4), .inl 1, .inr (some (.int r7), σ8), .inl 1, .inr (some (.int r11), σ12), .inl 1] [¬ (((gx_up σ 109 16 (σ 109 15)) 109 15) = ((gx_up σ 109 16 (σ 109 15)) 109 14)), vp_in ((gx_up σ 109 16 (σ 109 15)) 109 15) 300, E0 D 161 [.int ((gx_up σ 109 16 (σ 109 15)) 112 (((gx_up σ 109 16 (σ 109 15)) 109 15).toNatClampNeg))] (gx_up σ 109 16 (σ 109 15)) (some (.int r3)) σ4, r3 = 0, E0 D 145 [.int ((gx_up σ 109 16 (σ 109 15)) 112 (((gx_up σ 109 16 (σ 109 15)) 109 15).toNatClampNeg)), .int (48 : Int32), .int (57 : Int32)] σ4 (some (.int r7)) σ8, r7 = 0, E0 D 145 [.int ((gx_up σ 109 16 (σ 109 15)) 112 (((gx_up σ 109 16 (σ 109 15)) 109 15).toNatClampNeg)), .int (59 : Int32), .int (62 : Int32)] (gx_up (gx_up σ8 109 15 ((σ8 109 15) + (1 : Int32))) 109 18 ((gx_up σ 109 16 (σ 109 15)) 112 (((gx_up σ 109 16 (σ 109 15)) 109 15).toNatClampNeg))) (some (.int r11)) σ12, ¬ (r11 = 0)] 187 [.ref 109, .int ((gx_up σ 109 16 (σ 109 15)) 112 (((gx_up σ 109 16 (σ 109 15)) 109 15).toNatClampNeg)), .null, .null, .null] [.ref 109] σ12 rfl ⟨h1, (z_ix_in h2), (ww_Md_isLetter D (by omega) ((gx_up σ 109 16 (σ 109 15)) 112 (((gx_up σ 109 16 (σ 109 15)) 109 15).toNatClampNeg)) (gx_up σ 109 16 (σ 109 15)) r3 σ4 h5), h6, (ww_Md_in D (by omega) ((gx_up σ 109 16 (σ 109 15)) 112 (((gx_up σ 109 16 (σ 109 15)) 109 15).toNatClampNeg)) (48 : Int32) (57 : Int32) σ4 r7 σ8 h9), h10, (ww_Md_in D (by omega) ((gx_up σ 109 16 (σ 109 15)) 112 (((gx_up σ 109 16 (σ 109 15)) 109 15).toNatClampNeg)) (59 : Int32) (62 : Int32) (gx_up (gx_up σ8 109 15 ((σ8 109 15) + (1 : Int32))) 109 18 ((gx_up σ 109 16 (σ 109 15)) 112 (((gx_up σ 109 16 (σ 109 15)) 109 15).toNatClampNeg))) r11 σ12 h13), h14, trivial⟩ (gx_fgt (ls' := [.ref 109, .int ((gx_up σ 109 16 (σ 109 15)) 112 (((gx_up σ 109 16 (σ 109 15)) 109 15).toNatClampNeg)), .null, .null, .null]) ⟨Or.inr rfl, Or.inr rfl, Or.inl rfl, Or.inl rfl, Or.inl rfl, trivial⟩ (vv_Md_next_187 D hD rr σ' (Md_next_190) (vv_Md_next_190 D hD rr σ') ((gx_up σ 109 16 (σ 109 15)) 112 (((gx_up σ 109 16 (σ 109 15)) 109 15).toNatClampNeg)) σ12 hf))
      · exact gx_go_ 29 [.inl 1, .inr (some (.int r3), σ4), .inl 1, .inr (some (.int r7), σ8), .inl 0] [¬ (((gx_up σ 109 16 (σ 109 15)) 109 15) = ((gx_up σ 109 16 (σ 109 15)) 109 14)), vp_in ((gx_up σ 109 16 (σ 109 15)) 109 15) 300, E0 D 161 [.int ((gx_up σ 109 16 (σ 109 15)) 112 (((gx_up σ 109 16 (σ 109 15)) 109 15).toNatClampNeg))] (gx_up σ 109 16 (σ 109 15)) (some (.int r3)) σ4, r3 = 0, E0 D 145 [.int ((gx_up σ 109 16 (σ 109 15)) 112 (((gx_up σ 109 16 (σ 109 15)) 109 15).toNatClampNeg)), .int (48 : Int32), .int (57 : Int32)] σ4 (some (.int r7)) σ8, ¬ (r7 = 0)] 119 [.ref 109, .int ((gx_up σ 109 16 (σ 109 15)) 112 (((gx_up σ 109 16 (σ 109 15)) 109 15).toNatClampNeg)), .null, .null, .null] [] (gx_up (gx_up σ8 109 17 (2 : Int32)) 109 18 (0 : Int32)) rfl ⟨h1, (z_ix_in h2), (ww_Md_isLetter D (by omega) ((gx_up σ 109 16 (σ 109 15)) 112 (((gx_up σ 109 16 (σ 109 15)) 109 15).toNatClampNeg)) (gx_up σ 109 16 (σ 109 15)) r3 σ4 h5), h6, (ww_Md_in D (by omega) ((gx_up σ 109 16 (σ 109 15)) 112 (((gx_up σ 109 16 (σ 109 15)) 109 15).toNatClampNeg)) (48 : Int32) (57 : Int32) σ4 r7 σ8 h9), h10, trivial⟩ (gx_fgt (ls' := [.ref 109, .null, .null, .null, .null]) ⟨Or.inr rfl, Or.inl rfl, Or.inl rfl, Or.inl rfl, Or.inl rfl, trivial⟩ (vv_Md_next_119 D hD rr σ' z_FU (gx_up (gx_up σ8 109 17 (2 : Int32)) 109 18 (0 : Int32)) hf))
    · exact gx_go_ 22 [.inl 1, .inr (some (.int r3), σ4), .inl 0] [¬ (((gx_up σ 109 16 (σ 109 15)) 109 15) = ((gx_up σ 109 16 (σ 109 15)) 109 14)), vp_in ((gx_up σ 109 16 (σ 109 15)) 109 15) 300, E0 D 161 [.int ((gx_up σ 109 16 (σ 109 15)) 112 (((gx_up σ 109 16 (σ 109 15)) 109 15).toNatClampNeg))] (gx_up σ 109 16 (σ 109 15)) (some (.int r3)) σ4, ¬ (r3 = 0)] 52 [.ref 109, .int ((gx_up σ 109 16 (σ 109 15)) 112 (((gx_up σ 109 16 (σ 109 15)) 109 15).toNatClampNeg)), .long (0 : Int64), .null, .int (0 : Int32)] [] σ4 rfl ⟨h1, (z_ix_in h2), (ww_Md_isLetter D (by omega) ((gx_up σ 109 16 (σ 109 15)) 112 (((gx_up σ 109 16 (σ 109 15)) 109 15).toNatClampNeg)) (gx_up σ 109 16 (σ 109 15)) r3 σ4 h5), h6, trivial⟩ (gx_fgt (ls' := [.ref 109, .null, .long (0 : Int64), .null, .int (0 : Int32)]) ⟨Or.inr rfl, Or.inl rfl, Or.inr rfl, Or.inl rfl, Or.inr rfl, trivial⟩ (vv_Md_next_52 D hD rr σ' z_FU (0 : Int64) (0 : Int32) σ4 hf))
set_option maxHeartbeats 16000000 in
set_option maxRecDepth 20000 in
theorem vv_Md_next_0_B (D : Nat) (hD : 3 ≤ D + 1) (rr : Unit) (σ' : gx_R) (K0 : gx_R → Option (Unit × gx_R)) (hK0 : ∀ (σ : gx_R), K0  σ = some (rr, σ') → gx_Ev lay0 (E0 D) tt_163 none σ' 0 [.ref 109, .null, .null, .null, .null] [] σ) (σ : gx_R) (hf : Md_next_0_B K0  σ = some (rr, σ')) : gx_Ev lay0 (E0 D) tt_163 none σ' 0 [.ref 109, .null, .null, .null, .null] [] σ := by
  unfold Md_next_0_B at hf
  rcases z_if_inv hf with ⟨h1, hf⟩ | ⟨h1, hf⟩
  · exact gx_go_ 5 [.inl 1] [(σ 109 14) ≤ (σ 109 15)] 26 [.ref 109, .null, .null, .null, .null] [] σ rfl ⟨h1, trivial⟩ (gx_fgt (ls' := [.ref 109, .null, .null, .null, .null]) ⟨Or.inr rfl, Or.inl rfl, Or.inl rfl, Or.inl rfl, Or.inl rfl, trivial⟩ (vv_Md_next_26 D hD rr σ' σ hf))
  · obtain ⟨h2, hf⟩ := z_ck_inv hf
    rcases z_if_inv hf with ⟨h3, hf⟩ | ⟨h3, hf⟩
    · exact gx_go_ 12 [.inl 0, .inl 1] [¬ ((σ 109 14) ≤ (σ 109 15)), vp_in (σ 109 15) 300, (σ 112 ((σ 109 15).toNatClampNeg)) = (32 : Int32)] 19 [.ref 109, .null, .null, .null, .null] [] σ rfl ⟨h1, (z_ix_in h2), h3, trivial⟩ (gx_fgt (ls' := [.ref 109, .null, .null, .null, .null]) ⟨Or.inr rfl, Or.inl rfl, Or.inl rfl, Or.inl rfl, Or.inl rfl, trivial⟩ (vv_Md_next_19 D hD rr σ' K0 hK0 σ hf))
    · obtain ⟨h4, hf⟩ := z_ck_inv hf
      rcases z_if_inv hf with ⟨h5, hf⟩ | ⟨h5, hf⟩
      · exact gx_go_ 19 [.inl 0, .inl 0, .inl 0] [¬ ((σ 109 14) ≤ (σ 109 15)), vp_in (σ 109 15) 300, ¬ ((σ 112 ((σ 109 15).toNatClampNeg)) = (32 : Int32)), vp_in (σ 109 15) 300, ¬ ¬ ((σ 112 ((σ 109 15).toNatClampNeg)) = (10 : Int32))] 19 [.ref 109, .null, .null, .null, .null] [] σ rfl ⟨h1, (z_ix_in h2), h3, (z_ix_in h4), (fun q => q h5), trivial⟩ (gx_fgt (ls' := [.ref 109, .null, .null, .null, .null]) ⟨Or.inr rfl, Or.inl rfl, Or.inl rfl, Or.inl rfl, Or.inl rfl, trivial⟩ (vv_Md_next_19 D hD rr σ' K0 hK0 σ hf))
      · exact gx_go_ 19 [.inl 0, .inl 0, .inl 1] [¬ ((σ 109 14) ≤ (σ 109 15)), vp_in (σ 109 15) 300, ¬ ((σ 112 ((σ 109 15).toNatClampNeg)) = (32 : Int32)), vp_in (σ 109 15) 300, ¬ ((σ 112 ((σ 109 15).toNatClampNeg)) = (10 : Int32))] 26 [.ref 109, .null, .null, .null, .null] [] σ rfl ⟨h1, (z_ix_in h2), h3, (z_ix_in h4), h5, trivial⟩ (gx_fgt (ls' := [.ref 109, .null, .null, .null, .null]) ⟨Or.inr rfl, Or.inl rfl, Or.inl rfl, Or.inl rfl, Or.inl rfl, trivial⟩ (vv_Md_next_26 D hD rr σ' σ hf))
set_option maxHeartbeats 16000000 in
set_option maxRecDepth 20000 in
theorem vv_Md_next_0 (D : Nat) (hD : 3 ≤ D + 1) (rr : Unit) (σ' : gx_R) : ∀ (n : Nat) (σ : gx_R), Md_next_0 n  σ = some (rr, σ') → gx_Ev lay0 (E0 D) tt_163 none σ' 0 [.ref 109, .null, .null, .null, .null] [] σ := by
  intro n
  induction n with
  | zero => intro  σ  hf; cases hf
  | succ n ih => intro  σ  hf; exact vv_Md_next_0_B D hD rr σ'  (Md_next_0 n) ih  σ  hf
set_option maxHeartbeats 16000000 in
set_option maxRecDepth 20000 in
theorem vv_Md_next_E (D : Nat) (hD : 3 ≤ D + 1) (rr : Unit) (σ' : gx_R) (σ : gx_R) (hf : Md_next  σ = some (rr, σ')) : gx_Ev lay0 (E0 D) tt_163 none σ' 0 [.ref 109, .null, .null, .null, .null] [] σ := by
  unfold Md_next at hf
  exact gx_fgt (ls' := [.ref 109, .null, .null, .null, .null]) ⟨Or.inr rfl, Or.inl rfl, Or.inl rfl, Or.inl rfl, Or.inl rfl, trivial⟩ (vv_Md_next_0 D hD rr σ' z_FU σ hf)
set_option maxHeartbeats 16000000 in
set_option maxRecDepth 20000 in
theorem ww_Md_next (D : Nat) (hD : 3 ≤ D) (σ : gx_R) (rr : Unit) (σ' : gx_R) (hf : Md_next  σ = some (rr, σ')) : E0 D 163 [.ref 109] σ none σ' := by
  cases D with
  | zero => omega
  | succ D => exact Or.inl ⟨Nat.le_of_ble_eq_true rfl, vv_Md_next_E D hD rr σ' σ hf⟩
set_option maxHeartbeats 16000000 in
set_option maxRecDepth 20000 in
theorem vv_Md_isSign_E (D : Nat) (hD : 1 ≤ D + 1) (rr : Int32) (σ' : gx_R) (a1 : Int32) (σ : gx_R) (hf : Md_isSign a1 σ = some (rr, σ')) : gx_Ev lay0 (E0 D) tt_164 (some (.int rr)) σ' 0 [.ref 109, .int a1] [] σ := by
  unfold Md_isSign at hf
  rcases z_if_inv hf with ⟨h1, hf⟩ | ⟨h1, hf⟩
  · rcases z_if_inv hf with ⟨h2, hf⟩ | ⟨h2, hf⟩
    · obtain ⟨e1, e2⟩ := z_ret hf
      subst e1
      subst e2
      exact gx_end 11 [.inl 0, .inl 0] [¬ ¬ ((σ 109 17) = (3 : Int32)), ¬ ¬ ((σ 109 18) = a1), (1 : Int32) &&& 1 = (1 : Int32)] rfl ⟨(fun q => q h1), (fun q => q h2), rfl, trivial⟩
    · obtain ⟨e1, e2⟩ := z_ret hf
      subst e1
      subst e2
      exact gx_end 10 [.inl 0, .inl 1] [¬ ¬ ((σ 109 17) = (3 : Int32)), ¬ ((σ 109 18) = a1), (0 : Int32) &&& 1 = (0 : Int32)] rfl ⟨(fun q => q h1), h2, rfl, trivial⟩
  · obtain ⟨e1, e2⟩ := z_ret hf
    subst e1
    subst e2
    exact gx_end 6 [.inl 1] [¬ ((σ 109 17) = (3 : Int32)), (0 : Int32) &&& 1 = (0 : Int32)] rfl ⟨h1, rfl, trivial⟩
set_option maxHeartbeats 16000000 in
set_option maxRecDepth 20000 in
theorem ww_Md_isSign (D : Nat) (hD : 1 ≤ D) (a1 : Int32) (σ : gx_R) (rr : Int32) (σ' : gx_R) (hf : Md_isSign a1 σ = some (rr, σ')) : E0 D 164 [.ref 109, .int a1] σ (some (.int rr)) σ' := by
  cases D with
  | zero => omega
  | succ D => exact Or.inl ⟨Nat.le_of_ble_eq_true rfl, vv_Md_isSign_E D hD rr σ' a1 σ hf⟩
set_option maxHeartbeats 16000000 in
set_option maxRecDepth 20000 in
theorem vv_Md_isWord_E (D : Nat) (hD : 1 ≤ D + 1) (rr : Int32) (σ' : gx_R) (a1 : Int32) (σ : gx_R) (hf : Md_isWord a1 σ = some (rr, σ')) : gx_Ev lay0 (E0 D) tt_165 (some (.int rr)) σ' 0 [.ref 109, .int a1] [] σ := by
  unfold Md_isWord at hf
  rcases z_if_inv hf with ⟨h1, hf⟩ | ⟨h1, hf⟩
  · rcases z_if_inv hf with ⟨h2, hf⟩ | ⟨h2, hf⟩
    · obtain ⟨e1, e2⟩ := z_ret hf
      subst e1
      subst e2
      exact gx_end 11 [.inl 0, .inl 0] [¬ ¬ ((σ 109 17) = (1 : Int32)), ¬ ¬ ((σ 109 18) = a1), (1 : Int32) &&& 1 = (1 : Int32)] rfl ⟨(fun q => q h1), (fun q => q h2), rfl, trivial⟩
    · obtain ⟨e1, e2⟩ := z_ret hf
      subst e1
      subst e2
      exact gx_end 10 [.inl 0, .inl 1] [¬ ¬ ((σ 109 17) = (1 : Int32)), ¬ ((σ 109 18) = a1), (0 : Int32) &&& 1 = (0 : Int32)] rfl ⟨(fun q => q h1), h2, rfl, trivial⟩
  · obtain ⟨e1, e2⟩ := z_ret hf
    subst e1
    subst e2
    exact gx_end 6 [.inl 1] [¬ ((σ 109 17) = (1 : Int32)), (0 : Int32) &&& 1 = (0 : Int32)] rfl ⟨h1, rfl, trivial⟩
set_option maxHeartbeats 16000000 in
set_option maxRecDepth 20000 in
theorem ww_Md_isWord (D : Nat) (hD : 1 ≤ D) (a1 : Int32) (σ : gx_R) (rr : Int32) (σ' : gx_R) (hf : Md_isWord a1 σ = some (rr, σ')) : E0 D 165 [.ref 109, .int a1] σ (some (.int rr)) σ' := by
  cases D with
  | zero => omega
  | succ D => exact Or.inl ⟨Nat.le_of_ble_eq_true rfl, vv_Md_isWord_E D hD rr σ' a1 σ hf⟩
set_option maxHeartbeats 16000000 in
set_option maxRecDepth 20000 in
theorem vv_Md_errs_E (D : Nat) (hD : 1 ≤ D + 1) (rr : Unit) (σ' : gx_R) (a1 : Int32) (σ : gx_R) (hf : Md_errs a1 σ = some (rr, σ')) : gx_Ev lay0 (E0 D) tt_166 none σ' 0 [.ref 109, .int a1] [] σ := by
  unfold Md_errs at hf
  rcases z_if_inv hf with ⟨h1, hf⟩ | ⟨h1, hf⟩
  · obtain ⟨e1, e2⟩ := z_ret hf
    subst e1
    subst e2
    exact gx_end 11 [.inl 0] [¬ ¬ ((σ 109 19) = 0)] rfl ⟨(fun q => q h1), trivial⟩
  · obtain ⟨e1, e2⟩ := z_ret hf
    subst e1
    subst e2
    exact gx_end 4 [.inl 1] [¬ ((σ 109 19) = 0)] rfl ⟨h1, trivial⟩
set_option maxHeartbeats 16000000 in
set_option maxRecDepth 20000 in
theorem ww_Md_errs (D : Nat) (hD : 1 ≤ D) (a1 : Int32) (σ : gx_R) (rr : Unit) (σ' : gx_R) (hf : Md_errs a1 σ = some (rr, σ')) : E0 D 166 [.ref 109, .int a1] σ none σ' := by
  cases D with
  | zero => omega
  | succ D => exact Or.inl ⟨Nat.le_of_ble_eq_true rfl, vv_Md_errs_E D hD rr σ' a1 σ hf⟩
set_option maxHeartbeats 16000000 in
set_option maxRecDepth 20000 in
theorem vv_Md_emits_E (D : Nat) (hD : 1 ≤ D + 1) (rr : Unit) (σ' : gx_R) (a1 : Int32) (a2 : Int32) (σ : gx_R) (hf : Md_emits a1 a2 σ = some (rr, σ')) : gx_Ev lay0 (E0 D) tt_167 none σ' 0 [.ref 109, .int a1, .int a2] [] σ := by
  unfold Md_emits at hf
  obtain ⟨h1, hf⟩ := z_ck_inv hf
  obtain ⟨h2, hf⟩ := z_ck_inv hf
  obtain ⟨e1, e2⟩ := z_ret hf
  subst e1
  subst e2
  exact gx_end 19 [] [vp_in (σ 109 37) 400, vp_in ((gx_up σ 131 (σ 109 37).toNatClampNeg a1) 109 37) 400] rfl ⟨(z_ix_in h1), (z_ix_in h2), trivial⟩
set_option maxHeartbeats 16000000 in
set_option maxRecDepth 20000 in
theorem ww_Md_emits (D : Nat) (hD : 1 ≤ D) (a1 : Int32) (a2 : Int32) (σ : gx_R) (rr : Unit) (σ' : gx_R) (hf : Md_emits a1 a2 σ = some (rr, σ')) : E0 D 167 [.ref 109, .int a1, .int a2] σ none σ' := by
  cases D with
  | zero => omega
  | succ D => exact Or.inl ⟨Nat.le_of_ble_eq_true rfl, vv_Md_emits_E D hD rr σ' a1 a2 σ hf⟩
set_option maxHeartbeats 16000000 in
set_option maxRecDepth 20000 in
theorem vv_Md_opensFrame_E (D : Nat) (hD : 1 ≤ D + 1) (rr : Unit) (σ' : gx_R) (a1 : Int32) (σ : gx_R) (hf : Md_opensFrame a1 σ = some (rr, σ')) : gx_Ev lay0 (E0 D) tt_168 none σ' 0 [.ref 109, .int a1] [] σ := by
  unfold Md_opensFrame at hf
  obtain ⟨h1, hf⟩ := z_ck_inv hf
  obtain ⟨e1, e2⟩ := z_ret hf
  subst e1
  subst e2
  exact gx_end 13 [] [vp_in (σ 109 22) 40] rfl ⟨(z_ix_in h1), trivial⟩
set_option maxHeartbeats 16000000 in
set_option maxRecDepth 20000 in
theorem ww_Md_opensFrame (D : Nat) (hD : 1 ≤ D) (a1 : Int32) (σ : gx_R) (rr : Unit) (σ' : gx_R) (hf : Md_opensFrame a1 σ = some (rr, σ')) : E0 D 168 [.ref 109, .int a1] σ none σ' := by
  cases D with
  | zero => omega
  | succ D => exact Or.inl ⟨Nat.le_of_ble_eq_true rfl, vv_Md_opensFrame_E D hD rr σ' a1 σ hf⟩
set_option maxHeartbeats 16000000 in
set_option maxRecDepth 20000 in
theorem vv_Md_top_E (D : Nat) (hD : 1 ≤ D + 1) (rr : Int32) (σ' : gx_R) (σ : gx_R) (hf : Md_top  σ = some (rr, σ')) : gx_Ev lay0 (E0 D) tt_169 (some (.int rr)) σ' 0 [.ref 109] [] σ := by
  unfold Md_top at hf
  obtain ⟨h1, hf⟩ := z_ck_inv hf
  obtain ⟨e1, e2⟩ := z_ret hf
  subst e1
  subst e2
  exact gx_end 8 [] [vp_in ((σ 109 22) - (1 : Int32)) 40] rfl ⟨(z_ix_in h1), trivial⟩
set_option maxHeartbeats 16000000 in
set_option maxRecDepth 20000 in
theorem ww_Md_top (D : Nat) (hD : 1 ≤ D) (σ : gx_R) (rr : Int32) (σ' : gx_R) (hf : Md_top  σ = some (rr, σ')) : E0 D 169 [.ref 109] σ (some (.int rr)) σ' := by
  cases D with
  | zero => omega
  | succ D => exact Or.inl ⟨Nat.le_of_ble_eq_true rfl, vv_Md_top_E D hD rr σ' σ hf⟩
set_option maxHeartbeats 16000000 in
set_option maxRecDepth 20000 in
theorem vv_Md_opensSign_E (D : Nat) (hD : 4 ≤ D + 1) (rr : Int32) (σ' : gx_R) (a1 : Int32) (σ : gx_R) (hf : Md_opensSign a1 σ = some (rr, σ')) : gx_Ev lay0 (E0 D) tt_170 (some (.int rr)) σ' 0 [.ref 109, .int a1] [] σ := by
  unfold Md_opensSign at hf
  rcases z_if_inv hf with ⟨h1, hf⟩ | ⟨h1, hf⟩
  · obtain ⟨⟨⟩, σ3, h4, hf⟩ := z_bd_inv hf
    obtain ⟨e1, e2⟩ := z_ret hf
    subst e1
    subst e2
    exact gx_end 9 [.inl 0, .inr (none, σ3)] [¬ ¬ ((σ 109 21) = (8 : Int32)), E0 D 166 [.ref 109, .int (3 : Int32)] σ (none) σ3, (0 : Int32) &&& 1 = (0 : Int32)] rfl ⟨(fun q => q h1), (ww_Md_errs D (by omega) (3 : Int32) σ () σ3 h4), rfl, trivial⟩
  · obtain ⟨⟨⟩, σ6, h7, hf⟩ := z_bd_inv hf
    obtain ⟨⟨⟩, σ9, h10, hf⟩ := z_bd_inv hf
    obtain ⟨e1, e2⟩ := z_ret hf
    subst e1
    subst e2
    exact gx_end 17 [.inl 1, .inr (none, σ6), .inr (none, σ9)] [¬ ((σ 109 21) = (8 : Int32)), E0 D 168 [.ref 109, .int a1] (gx_up σ 109 21 ((σ 109 21) + (1 : Int32))) (none) σ6, E0 D 163 [.ref 109] σ6 (none) σ9, (1 : Int32) &&& 1 = (1 : Int32)] rfl ⟨h1, (ww_Md_opensFrame D (by omega) a1 (gx_up σ 109 21 ((σ 109 21) + (1 : Int32))) () σ6 h7), (ww_Md_next D (by omega) σ6 () σ9 h10), rfl, trivial⟩
set_option maxHeartbeats 16000000 in
set_option maxRecDepth 20000 in
theorem ww_Md_opensSign (D : Nat) (hD : 4 ≤ D) (a1 : Int32) (σ : gx_R) (rr : Int32) (σ' : gx_R) (hf : Md_opensSign a1 σ = some (rr, σ')) : E0 D 170 [.ref 109, .int a1] σ (some (.int rr)) σ' := by
  cases D with
  | zero => omega
  | succ D => exact Or.inl ⟨Nat.le_of_ble_eq_true rfl, vv_Md_opensSign_E D hD rr σ' a1 σ hf⟩
set_option maxHeartbeats 16000000 in
set_option maxRecDepth 20000 in
theorem vv_Md_rank_16 (D : Nat) (hD : 1 ≤ D + 1) (rr : Int32) (σ' : gx_R) (σ : gx_R) (hf : Md_rank_16  σ = some (rr, σ')) : gx_Ev lay0 (E0 D) tt_171 (some (.int rr)) σ' 16 [.null] [] σ := by
  unfold Md_rank_16 at hf
  obtain ⟨e1, e2⟩ := z_ret hf
  subst e1
  subst e2
  exact gx_end 3 [] [] rfl trivial
set_option maxHeartbeats 16000000 in
set_option maxRecDepth 20000 in
theorem vv_Md_rank_E (D : Nat) (hD : 1 ≤ D + 1) (rr : Int32) (σ' : gx_R) (a0 : Int32) (σ : gx_R) (hf : Md_rank a0 σ = some (rr, σ')) : gx_Ev lay0 (E0 D) tt_171 (some (.int rr)) σ' 0 [.int a0] [] σ := by
  unfold Md_rank at hf
  rcases z_if_inv hf with ⟨h1, hf⟩ | ⟨h1, hf⟩
  · obtain ⟨e1, e2⟩ := z_ret hf
    subst e1
    subst e2
    exact gx_end 6 [.inl 0] [¬ ¬ (a0 = (407 : Int32))] rfl ⟨(fun q => q h1), trivial⟩
  · rcases z_if_inv hf with ⟨h2, hf⟩ | ⟨h2, hf⟩
    · obtain ⟨e1, e2⟩ := z_ret hf
      subst e1
      subst e2
      exact gx_end 9 [.inl 1, .inl 0] [¬ (a0 = (407 : Int32)), ¬ ¬ (a0 = (406 : Int32))] rfl ⟨h1, (fun q => q h2), trivial⟩
    · rcases z_if_inv hf with ⟨h3, hf⟩ | ⟨h3, hf⟩
      · exact gx_go_ 9 [.inl 1, .inl 1, .inl 1] [¬ (a0 = (407 : Int32)), ¬ (a0 = (406 : Int32)), a0 = (43 : Int32)] 16 [.int a0] [] σ rfl ⟨h1, h2, h3, trivial⟩ (gx_fgt (ls' := [.null]) ⟨Or.inl rfl, trivial⟩ (vv_Md_rank_16 D hD rr σ' σ hf))
      · rcases z_if_inv hf with ⟨h4, hf⟩ | ⟨h4, hf⟩
        · exact gx_go_ 12 [.inl 1, .inl 1, .inl 0, .inl 0] [¬ (a0 = (407 : Int32)), ¬ (a0 = (406 : Int32)), ¬ (a0 = (43 : Int32)), ¬ ¬ (a0 = (45 : Int32))] 16 [.int a0] [] σ rfl ⟨h1, h2, h3, (fun q => q h4), trivial⟩ (gx_fgt (ls' := [.null]) ⟨Or.inl rfl, trivial⟩ (vv_Md_rank_16 D hD rr σ' σ hf))
        · obtain ⟨e1, e2⟩ := z_ret hf
          subst e1
          subst e2
          exact gx_end 14 [.inl 1, .inl 1, .inl 0, .inl 1] [¬ (a0 = (407 : Int32)), ¬ (a0 = (406 : Int32)), ¬ (a0 = (43 : Int32)), ¬ (a0 = (45 : Int32))] rfl ⟨h1, h2, h3, h4, trivial⟩
set_option maxHeartbeats 16000000 in
set_option maxRecDepth 20000 in
theorem ww_Md_rank (D : Nat) (hD : 1 ≤ D) (a0 : Int32) (σ : gx_R) (rr : Int32) (σ' : gx_R) (hf : Md_rank a0 σ = some (rr, σ')) : E0 D 171 [.int a0] σ (some (.int rr)) σ' := by
  cases D with
  | zero => omega
  | succ D => exact Or.inl ⟨Nat.le_of_ble_eq_true rfl, vv_Md_rank_E D hD rr σ' a0 σ hf⟩
set_option maxHeartbeats 16000000 in
set_option maxRecDepth 20000 in
theorem vv_Md_works_0_B (D : Nat) (hD : 2 ≤ D + 1) (rr : Unit) (σ' : gx_R) (K0 : Int32 → gx_R → Option (Unit × gx_R)) (hK0 : ∀ (a1 : Int32) (σ : gx_R), K0 a1 σ = some (rr, σ') → gx_Ev lay0 (E0 D) tt_172 none σ' 0 [.ref 109, .int a1] [] σ) (a1 : Int32) (σ : gx_R) (hf : Md_works_0_B K0 a1 σ = some (rr, σ')) : gx_Ev lay0 (E0 D) tt_172 none σ' 0 [.ref 109, .int a1] [] σ := by
  unfold Md_works_0_B at hf
  rcases z_if_inv hf with ⟨h1, hf⟩ | ⟨h1, hf⟩
  · obtain ⟨e1, e2⟩ := z_ret hf
    subst e1
    subst e2
    exact gx_end 4 [.inl 1] [(σ 109 25) ≤ 0] rfl ⟨h1, trivial⟩
  · obtain ⟨h2, hf⟩ := z_ck_inv hf
    rcases z_if_inv hf with ⟨h3, hf⟩ | ⟨h3, hf⟩
    · obtain ⟨h4, hf⟩ := z_ck_inv hf
      obtain ⟨r5, σ6, h7, hf⟩ := z_bd_inv hf
      rcases z_if_inv hf with ⟨h8, hf⟩ | ⟨h8, hf⟩
      · obtain ⟨e1, e2⟩ := z_ret hf
        subst e1
        subst e2
        exact gx_end 24 [.inl 0, .inl 0, .inr (some (.int r5), σ6), .inl 1] [¬ ((σ 109 25) ≤ 0), vp_in ((σ 109 25) - (1 : Int32)) 80, ¬ ¬ ((σ 124 (((σ 109 25) - (1 : Int32)).toNatClampNeg)) = (σ 109 22)), vp_in ((σ 109 25) - (1 : Int32)) 80, E0 D 171 [.int (σ 123 (((σ 109 25) - (1 : Int32)).toNatClampNeg))] σ (some (.int r5)) σ6, r5 < a1] rfl ⟨h1, (z_ix_in h2), (fun q => q h3), (z_ix_in h4), (ww_Md_rank D (by omega) (σ 123 (((σ 109 25) - (1 : Int32)).toNatClampNeg)) σ r5 σ6 h7), h8, trivial⟩
      · obtain ⟨h9, hf⟩ := z_ck_inv hf
        obtain ⟨⟨⟩, σ11, h12, hf⟩ := z_bd_inv hf
        exact gx_go_ 38 [.inl 0, .inl 0, .inr (some (.int r5), σ6), .inl 0, .inr (none, σ11)] [¬ ((σ 109 25) ≤ 0), vp_in ((σ 109 25) - (1 : Int32)) 80, ¬ ¬ ((σ 124 (((σ 109 25) - (1 : Int32)).toNatClampNeg)) = (σ 109 22)), vp_in ((σ 109 25) - (1 : Int32)) 80, E0 D 171 [.int (σ 123 (((σ 109 25) - (1 : Int32)).toNatClampNeg))] σ (some (.int r5)) σ6, ¬ (r5 < a1), vp_in ((gx_up σ6 109 25 ((σ6 109 25) - (1 : Int32))) 109 25) 80, E0 D 167 [.ref 109, .int ((gx_up σ6 109 25 ((σ6 109 25) - (1 : Int32))) 123 (((gx_up σ6 109 25 ((σ6 109 25) - (1 : Int32))) 109 25).toNatClampNeg)), .int (0 : Int32)] (gx_up σ6 109 25 ((σ6 109 25) - (1 : Int32))) (none) σ11] 0 [.ref 109, .int a1] [] σ11 rfl ⟨h1, (z_ix_in h2), (fun q => q h3), (z_ix_in h4), (ww_Md_rank D (by omega) (σ 123 (((σ 109 25) - (1 : Int32)).toNatClampNeg)) σ r5 σ6 h7), h8, (z_ix_in h9), (ww_Md_emits D (by omega) ((gx_up σ6 109 25 ((σ6 109 25) - (1 : Int32))) 123 (((gx_up σ6 109 25 ((σ6 109 25) - (1 : Int32))) 109 25).toNatClampNeg)) (0 : Int32) (gx_up σ6 109 25 ((σ6 109 25) - (1 : Int32))) () σ11 h12), trivial⟩ (gx_fgt (ls' := [.ref 109, .int a1]) ⟨Or.inr rfl, Or.inr rfl, trivial⟩ (hK0 a1 σ11 hf))
    · obtain ⟨e1, e2⟩ := z_ret hf
      subst e1
      subst e2
      exact gx_end 14 [.inl 0, .inl 1] [¬ ((σ 109 25) ≤ 0), vp_in ((σ 109 25) - (1 : Int32)) 80, ¬ ((σ 124 (((σ 109 25) - (1 : Int32)).toNatClampNeg)) = (σ 109 22))] rfl ⟨h1, (z_ix_in h2), h3, trivial⟩
set_option maxHeartbeats 16000000 in
set_option maxRecDepth 20000 in
theorem vv_Md_works_0 (D : Nat) (hD : 2 ≤ D + 1) (rr : Unit) (σ' : gx_R) : ∀ (n : Nat) (a1 : Int32) (σ : gx_R), Md_works_0 n a1 σ = some (rr, σ') → gx_Ev lay0 (E0 D) tt_172 none σ' 0 [.ref 109, .int a1] [] σ := by
  intro n
  induction n with
  | zero => intro a1 σ  hf; cases hf
  | succ n ih => intro a1 σ  hf; exact vv_Md_works_0_B D hD rr σ'  (Md_works_0 n) ih a1 σ  hf
set_option maxHeartbeats 16000000 in
set_option maxRecDepth 20000 in
theorem vv_Md_works_E (D : Nat) (hD : 2 ≤ D + 1) (rr : Unit) (σ' : gx_R) (a1 : Int32) (σ : gx_R) (hf : Md_works a1 σ = some (rr, σ')) : gx_Ev lay0 (E0 D) tt_172 none σ' 0 [.ref 109, .int a1] [] σ := by
  unfold Md_works at hf
  exact gx_fgt (ls' := [.ref 109, .int a1]) ⟨Or.inr rfl, Or.inr rfl, trivial⟩ (vv_Md_works_0 D hD rr σ' z_FU a1 σ hf)
set_option maxHeartbeats 16000000 in
set_option maxRecDepth 20000 in
theorem ww_Md_works (D : Nat) (hD : 2 ≤ D) (a1 : Int32) (σ : gx_R) (rr : Unit) (σ' : gx_R) (hf : Md_works a1 σ = some (rr, σ')) : E0 D 172 [.ref 109, .int a1] σ none σ' := by
  cases D with
  | zero => omega
  | succ D => exact Or.inl ⟨Nat.le_of_ble_eq_true rfl, vv_Md_works_E D hD rr σ' a1 σ hf⟩
set_option maxHeartbeats 16000000 in
set_option maxRecDepth 20000 in
theorem vv_Md_waitsFor_E (D : Nat) (hD : 4 ≤ D + 1) (rr : Unit) (σ' : gx_R) (a1 : Int32) (σ : gx_R) (hf : Md_waitsFor a1 σ = some (rr, σ')) : gx_Ev lay0 (E0 D) tt_173 none σ' 0 [.ref 109, .int a1] [] σ := by
  unfold Md_waitsFor at hf
  obtain ⟨r1, σ2, h3, hf⟩ := z_bd_inv hf
  obtain ⟨⟨⟩, σ5, h6, hf⟩ := z_bd_inv hf
  obtain ⟨h7, hf⟩ := z_ck_inv hf
  obtain ⟨h8, hf⟩ := z_ck_inv hf
  obtain ⟨⟨⟩, σ10, h11, hf⟩ := z_bd_inv hf
  obtain ⟨e1, e2⟩ := z_ret hf
  subst e1
  subst e2
  exact gx_end 26 [.inr (some (.int r1), σ2), .inr (none, σ5), .inr (none, σ10)] [E0 D 171 [.int a1] σ (some (.int r1)) σ2, E0 D 172 [.ref 109, .int r1] σ2 (none) σ5, vp_in (σ5 109 25) 80, vp_in ((gx_up σ5 123 (σ5 109 25).toNatClampNeg a1) 109 25) 80, E0 D 163 [.ref 109] (gx_up (gx_up (gx_up σ5 123 (σ5 109 25).toNatClampNeg a1) 124 ((gx_up σ5 123 (σ5 109 25).toNatClampNeg a1) 109 25).toNatClampNeg ((gx_up σ5 123 (σ5 109 25).toNatClampNeg a1) 109 22)) 109 25 (((gx_up (gx_up σ5 123 (σ5 109 25).toNatClampNeg a1) 124 ((gx_up σ5 123 (σ5 109 25).toNatClampNeg a1) 109 25).toNatClampNeg ((gx_up σ5 123 (σ5 109 25).toNatClampNeg a1) 109 22)) 109 25) + (1 : Int32))) (none) σ10] rfl ⟨(ww_Md_rank D (by omega) a1 σ r1 σ2 h3), (ww_Md_works D (by omega) r1 σ2 () σ5 h6), (z_ix_in h7), (z_ix_in h8), (ww_Md_next D (by omega) (gx_up (gx_up (gx_up σ5 123 (σ5 109 25).toNatClampNeg a1) 124 ((gx_up σ5 123 (σ5 109 25).toNatClampNeg a1) 109 25).toNatClampNeg ((gx_up σ5 123 (σ5 109 25).toNatClampNeg a1) 109 22)) 109 25 (((gx_up (gx_up σ5 123 (σ5 109 25).toNatClampNeg a1) 124 ((gx_up σ5 123 (σ5 109 25).toNatClampNeg a1) 109 25).toNatClampNeg ((gx_up σ5 123 (σ5 109 25).toNatClampNeg a1) 109 22)) 109 25) + (1 : Int32))) () σ10 h11), trivial⟩
set_option maxHeartbeats 16000000 in
set_option maxRecDepth 20000 in
theorem ww_Md_waitsFor (D : Nat) (hD : 4 ≤ D) (a1 : Int32) (σ : gx_R) (rr : Unit) (σ' : gx_R) (hf : Md_waitsFor a1 σ = some (rr, σ')) : E0 D 173 [.ref 109, .int a1] σ none σ' := by
  cases D with
  | zero => omega
  | succ D => exact Or.inl ⟨Nat.le_of_ble_eq_true rfl, vv_Md_waitsFor_E D hD rr σ' a1 σ hf⟩
set_option maxHeartbeats 16000000 in
set_option maxRecDepth 20000 in
theorem vv_Md_asks_E (D : Nat) (hD : 5 ≤ D + 1) (rr : Unit) (σ' : gx_R) (σ : gx_R) (hf : Md_asks  σ = some (rr, σ')) : gx_Ev lay0 (E0 D) tt_174 none σ' 0 [.ref 109, .null] [] σ := by
  unfold Md_asks at hf
  obtain ⟨r1, σ2, h3, hf⟩ := z_bd_inv hf
  rcases z_if_inv hf with ⟨h4, hf⟩ | ⟨h4, hf⟩
  · obtain ⟨⟨⟩, σ6, h7, hf⟩ := z_bd_inv hf
    obtain ⟨e1, e2⟩ := z_ret hf
    subst e1
    subst e2
    exact gx_end 11 [.inr (some (.int r1), σ2), .inl 1, .inr (none, σ6)] [E0 D 165 [.ref 109, .int (16 : Int32)] σ (some (.int r1)) σ2, r1 = 0, E0 D 168 [.ref 109, .int (4 : Int32)] σ2 (none) σ6] rfl ⟨(ww_Md_isWord D (by omega) (16 : Int32) σ r1 σ2 h3), h4, (ww_Md_opensFrame D (by omega) (4 : Int32) σ2 () σ6 h7), trivial⟩
  · obtain ⟨r8, σ9, h10, hf⟩ := z_bd_inv hf
    obtain ⟨e1, e2⟩ := z_ret hf
    subst e1
    subst e2
    exact gx_end 10 [.inr (some (.int r1), σ2), .inl 0, .inr (some (.int r8), σ9)] [E0 D 165 [.ref 109, .int (16 : Int32)] σ (some (.int r1)) σ2, ¬ (r1 = 0), E0 D 170 [.ref 109, .int (3 : Int32)] σ2 (some (.int r8)) σ9] rfl ⟨(ww_Md_isWord D (by omega) (16 : Int32) σ r1 σ2 h3), h4, (ww_Md_opensSign D (by omega) (3 : Int32) σ2 r8 σ9 h10), trivial⟩
set_option maxHeartbeats 16000000 in
set_option maxRecDepth 20000 in
theorem ww_Md_asks (D : Nat) (hD : 5 ≤ D) (σ : gx_R) (rr : Unit) (σ' : gx_R) (hf : Md_asks  σ = some (rr, σ')) : E0 D 174 [.ref 109] σ none σ' := by
  cases D with
  | zero => omega
  | succ D => exact Or.inl ⟨Nat.le_of_ble_eq_true rfl, vv_Md_asks_E D hD rr σ' σ hf⟩
set_option maxHeartbeats 16000000 in
set_option maxRecDepth 20000 in
theorem vv_Md_mayName_E (D : Nat) (hD : 1 ≤ D + 1) (rr : Int32) (σ' : gx_R) (a0 : Int32) (a1 : Int32) (σ : gx_R) (hf : Md_mayName a0 a1 σ = some (rr, σ')) : gx_Ev lay0 (E0 D) tt_175 (some (.int rr)) σ' 0 [.int a0, .int a1] [] σ := by
  unfold Md_mayName at hf
  rcases z_if_inv hf with ⟨h1, hf⟩ | ⟨h1, hf⟩
  · obtain ⟨e1, e2⟩ := z_ret hf
    subst e1
    subst e2
    exact gx_end 4 [.inl 1] [a0.toInt = 0 + (0 : Nat), (1 : Int32) &&& 1 = (1 : Int32)] rfl ⟨(z_sw_in h1 (by decide)), rfl, trivial⟩
  · skip
    rcases z_if_inv hf with ⟨h2, hf⟩ | ⟨h2, hf⟩
    · obtain ⟨e1, e2⟩ := z_ret hf
      subst e1
      subst e2
      exact gx_end 4 [.inl 2] [a0.toInt = 0 + (1 : Nat), (1 : Int32) &&& 1 = (1 : Int32)] rfl ⟨(z_sw_in h2 (by decide)), rfl, trivial⟩
    · skip
      rcases z_if_inv hf with ⟨h3, hf⟩ | ⟨h3, hf⟩
      · rcases z_if_inv hf with ⟨h4, hf⟩ | ⟨h4, hf⟩
        · obtain ⟨e1, e2⟩ := z_ret hf
          subst e1
          subst e2
          exact gx_end 7 [.inl 3, .inl 1] [a0.toInt = 0 + (2 : Nat), a1 = (3 : Int32), (0 : Int32) &&& 1 = (0 : Int32)] rfl ⟨(z_sw_in h3 (by decide)), h4, rfl, trivial⟩
        · obtain ⟨e1, e2⟩ := z_ret hf
          subst e1
          subst e2
          exact gx_end 8 [.inl 3, .inl 0] [a0.toInt = 0 + (2 : Nat), ¬ (a1 = (3 : Int32)), (1 : Int32) &&& 1 = (1 : Int32)] rfl ⟨(z_sw_in h3 (by decide)), h4, rfl, trivial⟩
      · skip
        rcases z_if_inv hf with ⟨h5, hf⟩ | ⟨h5, hf⟩
        · rcases z_if_inv hf with ⟨h6, hf⟩ | ⟨h6, hf⟩
          · obtain ⟨e1, e2⟩ := z_ret hf
            subst e1
            subst e2
            exact gx_end 7 [.inl 4, .inl 1] [a0.toInt = 0 + (3 : Nat), a1 = (1 : Int32), (0 : Int32) &&& 1 = (0 : Int32)] rfl ⟨(z_sw_in h5 (by decide)), h6, rfl, trivial⟩
          · obtain ⟨e1, e2⟩ := z_ret hf
            subst e1
            subst e2
            exact gx_end 8 [.inl 4, .inl 0] [a0.toInt = 0 + (3 : Nat), ¬ (a1 = (1 : Int32)), (1 : Int32) &&& 1 = (1 : Int32)] rfl ⟨(z_sw_in h5 (by decide)), h6, rfl, trivial⟩
        · skip
          rcases z_if_inv hf with ⟨h7, hf⟩ | ⟨h7, hf⟩
          · rcases z_if_inv hf with ⟨h8, hf⟩ | ⟨h8, hf⟩
            · obtain ⟨e1, e2⟩ := z_ret hf
              subst e1
              subst e2
              exact gx_end 7 [.inl 5, .inl 0] [a0.toInt = 0 + (4 : Nat), ¬ ¬ (a1 = 0), (1 : Int32) &&& 1 = (1 : Int32)] rfl ⟨(z_sw_in h7 (by decide)), (fun q => q h8), rfl, trivial⟩
            · obtain ⟨e1, e2⟩ := z_ret hf
              subst e1
              subst e2
              exact gx_end 6 [.inl 5, .inl 1] [a0.toInt = 0 + (4 : Nat), ¬ (a1 = 0), (0 : Int32) &&& 1 = (0 : Int32)] rfl ⟨(z_sw_in h7 (by decide)), h8, rfl, trivial⟩
          · skip
            rcases z_if_inv hf with ⟨h9, hf⟩ | ⟨h9, hf⟩
            · rcases z_if_inv hf with ⟨h10, hf⟩ | ⟨h10, hf⟩
              · obtain ⟨e1, e2⟩ := z_ret hf
                subst e1
                subst e2
                exact gx_end 7 [.inl 6, .inl 0] [a0.toInt = 0 + (5 : Nat), ¬ ¬ (a1 = 0), (1 : Int32) &&& 1 = (1 : Int32)] rfl ⟨(z_sw_in h9 (by decide)), (fun q => q h10), rfl, trivial⟩
              · obtain ⟨e1, e2⟩ := z_ret hf
                subst e1
                subst e2
                exact gx_end 6 [.inl 6, .inl 1] [a0.toInt = 0 + (5 : Nat), ¬ (a1 = 0), (0 : Int32) &&& 1 = (0 : Int32)] rfl ⟨(z_sw_in h9 (by decide)), h10, rfl, trivial⟩
            · skip
              rcases z_if_inv hf with ⟨h11, hf⟩ | ⟨h11, hf⟩
              · rcases z_if_inv hf with ⟨h12, hf⟩ | ⟨h12, hf⟩
                · obtain ⟨e1, e2⟩ := z_ret hf
                  subst e1
                  subst e2
                  exact gx_end 8 [.inl 7, .inl 0] [a0.toInt = 0 + (6 : Nat), ¬ ¬ (a1 = (1 : Int32)), (1 : Int32) &&& 1 = (1 : Int32)] rfl ⟨(z_sw_in h11 (by decide)), (fun q => q h12), rfl, trivial⟩
                · obtain ⟨e1, e2⟩ := z_ret hf
                  subst e1
                  subst e2
                  exact gx_end 7 [.inl 7, .inl 1] [a0.toInt = 0 + (6 : Nat), ¬ (a1 = (1 : Int32)), (0 : Int32) &&& 1 = (0 : Int32)] rfl ⟨(z_sw_in h11 (by decide)), h12, rfl, trivial⟩
              · skip
                rcases z_if_inv hf with ⟨h13, hf⟩ | ⟨h13, hf⟩
                · rcases z_if_inv hf with ⟨h14, hf⟩ | ⟨h14, hf⟩
                  · obtain ⟨e1, e2⟩ := z_ret hf
                    subst e1
                    subst e2
                    exact gx_end 8 [.inl 8, .inl 0] [a0.toInt = 0 + (7 : Nat), ¬ ¬ (a1 = (1 : Int32)), (1 : Int32) &&& 1 = (1 : Int32)] rfl ⟨(z_sw_in h13 (by decide)), (fun q => q h14), rfl, trivial⟩
                  · obtain ⟨e1, e2⟩ := z_ret hf
                    subst e1
                    subst e2
                    exact gx_end 7 [.inl 8, .inl 1] [a0.toInt = 0 + (7 : Nat), ¬ (a1 = (1 : Int32)), (0 : Int32) &&& 1 = (0 : Int32)] rfl ⟨(z_sw_in h13 (by decide)), h14, rfl, trivial⟩
                · skip
                  refine gx_go_ 1 [] [] 1 [.int a0, .int a1] [.int a0] σ rfl trivial ?_
                  refine gx_sw (td := 31) (tt := [2, 2, 4, 11, 18, 18, 24, 24]) (lo := 0) rfl rfl ?_
                  rw [gx_swt_df (td := 31) (tt := [2, 2, 4, 11, 18, 18, 24, 24]) (lo := 0) ⟨Or.inr (z_sw_ne h1 (by decide)), Or.inr (z_sw_ne h2 (by decide)), Or.inr (z_sw_ne h3 (by decide)), Or.inr (z_sw_ne h5 (by decide)), Or.inr (z_sw_ne h7 (by decide)), Or.inr (z_sw_ne h9 (by decide)), Or.inr (z_sw_ne h11 (by decide)), Or.inr (z_sw_ne h13 (by decide)), trivial⟩]
                  rcases z_if_inv hf with ⟨h16, hf⟩ | ⟨h16, hf⟩
                  · obtain ⟨e1, e2⟩ := z_ret hf
                    subst e1
                    subst e2
                    exact gx_end 6 [.inl 0] [¬ ¬ (a1 = (3 : Int32)), (1 : Int32) &&& 1 = (1 : Int32)] rfl ⟨(fun q => q h16), rfl, trivial⟩
                  · obtain ⟨e1, e2⟩ := z_ret hf
                    subst e1
                    subst e2
                    exact gx_end 5 [.inl 1] [¬ (a1 = (3 : Int32)), (0 : Int32) &&& 1 = (0 : Int32)] rfl ⟨h16, rfl, trivial⟩
set_option maxHeartbeats 16000000 in
set_option maxRecDepth 20000 in
theorem ww_Md_mayName (D : Nat) (hD : 1 ≤ D) (a0 : Int32) (a1 : Int32) (σ : gx_R) (rr : Int32) (σ' : gx_R) (hf : Md_mayName a0 a1 σ = some (rr, σ')) : E0 D 175 [.int a0, .int a1] σ (some (.int rr)) σ' := by
  cases D with
  | zero => omega
  | succ D => exact Or.inl ⟨Nat.le_of_ble_eq_true rfl, vv_Md_mayName_E D hD rr σ' a0 a1 σ hf⟩
set_option maxHeartbeats 16000000 in
set_option maxRecDepth 20000 in
theorem vv_Md_nameNow_E (D : Nat) (hD : 1 ≤ D + 1) (rr : Int32) (σ' : gx_R) (σ : gx_R) (hf : Md_nameNow  σ = some (rr, σ')) : gx_Ev lay0 (E0 D) tt_176 (some (.int rr)) σ' 0 [.ref 109] [] σ := by
  unfold Md_nameNow at hf
  rcases z_if_inv hf with ⟨h1, hf⟩ | ⟨h1, hf⟩
  · rcases z_if_inv hf with ⟨h2, hf⟩ | ⟨h2, hf⟩
    · obtain ⟨e1, e2⟩ := z_ret hf
      subst e1
      subst e2
      exact gx_end 10 [.inl 1, .inl 1] [(σ 109 17) = (1 : Int32), (σ 109 18) ≤ (20 : Int32)] rfl ⟨h1, h2, trivial⟩
    · obtain ⟨e1, e2⟩ := z_ret hf
      subst e1
      subst e2
      exact gx_end 16 [.inl 1, .inl 0] [(σ 109 17) = (1 : Int32), ¬ ((σ 109 18) ≤ (20 : Int32))] rfl ⟨h1, h2, trivial⟩
  · obtain ⟨e1, e2⟩ := z_ret hf
    subst e1
    subst e2
    exact gx_end 6 [.inl 0] [¬ ((σ 109 17) = (1 : Int32))] rfl ⟨h1, trivial⟩
set_option maxHeartbeats 16000000 in
set_option maxRecDepth 20000 in
theorem ww_Md_nameNow (D : Nat) (hD : 1 ≤ D) (σ : gx_R) (rr : Int32) (σ' : gx_R) (hf : Md_nameNow  σ = some (rr, σ')) : E0 D 176 [.ref 109] σ (some (.int rr)) σ' := by
  cases D with
  | zero => omega
  | succ D => exact Or.inl ⟨Nat.le_of_ble_eq_true rfl, vv_Md_nameNow_E D hD rr σ' σ hf⟩
set_option maxHeartbeats 16000000 in
set_option maxRecDepth 20000 in
theorem vv_Md_oneIsOver_21 (D : Nat) (hD : 2 ≤ D + 1) (rr : Unit) (σ' : gx_R) (σ : gx_R) (hf : Md_oneIsOver_21  σ = some (rr, σ')) : gx_Ev lay0 (E0 D) tt_178 none σ' 21 [.ref 109] [] σ := by
  unfold Md_oneIsOver_21 at hf
  obtain ⟨e1, e2⟩ := z_ret hf
  subst e1
  subst e2
  exact gx_end 4 [] [] rfl trivial
set_option maxHeartbeats 16000000 in
set_option maxRecDepth 20000 in
theorem vv_Md_oneIsOver_0_B (D : Nat) (hD : 2 ≤ D + 1) (rr : Unit) (σ' : gx_R) (K0 : gx_R → Option (Unit × gx_R)) (hK0 : ∀ (σ : gx_R), K0  σ = some (rr, σ') → gx_Ev lay0 (E0 D) tt_178 none σ' 0 [.ref 109] [] σ) (σ : gx_R) (hf : Md_oneIsOver_0_B K0  σ = some (rr, σ')) : gx_Ev lay0 (E0 D) tt_178 none σ' 0 [.ref 109] [] σ := by
  unfold Md_oneIsOver_0_B at hf
  obtain ⟨r1, σ2, h3, hf⟩ := z_bd_inv hf
  rcases z_if_inv hf with ⟨h4, hf⟩ | ⟨h4, hf⟩
  · obtain ⟨⟨⟩, σ6, h7, hf⟩ := z_bd_inv hf
    exact gx_go_ 21 [.inr (some (.int r1), σ2), .inl 0, .inr (none, σ6)] [E0 D 169 [.ref 109] σ (some (.int r1)) σ2, ¬ ¬ (r1 = (7 : Int32)), E0 D 167 [.ref 109, .int (402 : Int32), .int (0 : Int32)] (gx_up (gx_up σ2 109 22 ((σ2 109 22) - (1 : Int32))) 109 21 (((gx_up σ2 109 22 ((σ2 109 22) - (1 : Int32))) 109 21) - (1 : Int32))) (none) σ6] 0 [.ref 109] [] σ6 rfl ⟨(ww_Md_top D (by omega) σ r1 σ2 h3), (fun q => q h4), (ww_Md_emits D (by omega) (402 : Int32) (0 : Int32) (gx_up (gx_up σ2 109 22 ((σ2 109 22) - (1 : Int32))) 109 21 (((gx_up σ2 109 22 ((σ2 109 22) - (1 : Int32))) 109 21) - (1 : Int32))) () σ6 h7), trivial⟩ (gx_fgt (ls' := [.ref 109]) ⟨Or.inr rfl, trivial⟩ (hK0 σ6 hf))
  · exact gx_go_ 4 [.inr (some (.int r1), σ2), .inl 1] [E0 D 169 [.ref 109] σ (some (.int r1)) σ2, ¬ (r1 = (7 : Int32))] 21 [.ref 109] [] σ2 rfl ⟨(ww_Md_top D (by omega) σ r1 σ2 h3), h4, trivial⟩ (gx_fgt (ls' := [.ref 109]) ⟨Or.inr rfl, trivial⟩ (vv_Md_oneIsOver_21 D hD rr σ' σ2 hf))
set_option maxHeartbeats 16000000 in
set_option maxRecDepth 20000 in
theorem vv_Md_oneIsOver_0 (D : Nat) (hD : 2 ≤ D + 1) (rr : Unit) (σ' : gx_R) : ∀ (n : Nat) (σ : gx_R), Md_oneIsOver_0 n  σ = some (rr, σ') → gx_Ev lay0 (E0 D) tt_178 none σ' 0 [.ref 109] [] σ := by
  intro n
  induction n with
  | zero => intro  σ  hf; cases hf
  | succ n ih => intro  σ  hf; exact vv_Md_oneIsOver_0_B D hD rr σ'  (Md_oneIsOver_0 n) ih  σ  hf
set_option maxHeartbeats 16000000 in
set_option maxRecDepth 20000 in
theorem vv_Md_oneIsOver_E (D : Nat) (hD : 2 ≤ D + 1) (rr : Unit) (σ' : gx_R) (σ : gx_R) (hf : Md_oneIsOver  σ = some (rr, σ')) : gx_Ev lay0 (E0 D) tt_178 none σ' 0 [.ref 109] [] σ := by
  unfold Md_oneIsOver at hf
  exact gx_fgt (ls' := [.ref 109]) ⟨Or.inr rfl, trivial⟩ (vv_Md_oneIsOver_0 D hD rr σ' z_FU σ hf)
set_option maxHeartbeats 16000000 in
set_option maxRecDepth 20000 in
theorem ww_Md_oneIsOver (D : Nat) (hD : 2 ≤ D) (σ : gx_R) (rr : Unit) (σ' : gx_R) (hf : Md_oneIsOver  σ = some (rr, σ')) : E0 D 178 [.ref 109] σ none σ' := by
  cases D with
  | zero => omega
  | succ D => exact Or.inl ⟨Nat.le_of_ble_eq_true rfl, vv_Md_oneIsOver_E D hD rr σ' σ hf⟩
set_option maxHeartbeats 16000000 in
set_option maxRecDepth 20000 in
theorem vv_Md_begins_E (D : Nat) (hD : 5 ≤ D + 1) (rr : Unit) (σ' : gx_R) (σ : gx_R) (hf : Md_begins  σ = some (rr, σ')) : gx_Ev lay0 (E0 D) tt_177 none σ' 0 [.ref 109, .null, .null] [] σ := by
  unfold Md_begins at hf
  obtain ⟨r1, σ2, h3, hf⟩ := z_bd_inv hf
  rcases z_if_inv hf with ⟨h4, hf⟩ | ⟨h4, hf⟩
  · rcases z_if_inv hf with ⟨h5, hf⟩ | ⟨h5, hf⟩
    · obtain ⟨⟨⟩, σ7, h8, hf⟩ := z_bd_inv hf
      obtain ⟨⟨⟩, σ10, h11, hf⟩ := z_bd_inv hf
      obtain ⟨⟨⟩, σ13, h14, hf⟩ := z_bd_inv hf
      obtain ⟨e1, e2⟩ := z_ret hf
      subst e1
      subst e2
      exact gx_end 22 [.inr (some (.int r1), σ2), .inl 0, .inl 1, .inr (none, σ7), .inr (none, σ10), .inr (none, σ13)] [E0 D 176 [.ref 109] σ (some (.int r1)) σ2, ¬ ¬ ((σ2 109 17) = (2 : Int32)), (σ2 109 18) ≤ (9999 : Int32), E0 D 167 [.ref 109, .int (400 : Int32), .int (σ2 109 18)] σ2 (none) σ7, E0 D 163 [.ref 109] σ7 (none) σ10, E0 D 178 [.ref 109] σ10 (none) σ13] rfl ⟨(ww_Md_nameNow D (by omega) σ r1 σ2 h3), (fun q => q h4), h5, (ww_Md_emits D (by omega) (400 : Int32) (σ2 109 18) σ2 () σ7 h8), (ww_Md_next D (by omega) σ7 () σ10 h11), (ww_Md_oneIsOver D (by omega) σ10 () σ13 h14), trivial⟩
    · obtain ⟨⟨⟩, σ16, h17, hf⟩ := z_bd_inv hf
      obtain ⟨e1, e2⟩ := z_ret hf
      subst e1
      subst e2
      exact gx_end 15 [.inr (some (.int r1), σ2), .inl 0, .inl 0, .inr (none, σ16)] [E0 D 176 [.ref 109] σ (some (.int r1)) σ2, ¬ ¬ ((σ2 109 17) = (2 : Int32)), ¬ ((σ2 109 18) ≤ (9999 : Int32)), E0 D 166 [.ref 109, .int (2 : Int32)] σ2 (none) σ16] rfl ⟨(ww_Md_nameNow D (by omega) σ r1 σ2 h3), (fun q => q h4), h5, (ww_Md_errs D (by omega) (2 : Int32) σ2 () σ16 h17), trivial⟩
  · rcases z_if_inv hf with ⟨h18, hf⟩ | ⟨h18, hf⟩
    · obtain ⟨r19, σ20, h21, hf⟩ := z_bd_inv hf
      rcases z_if_inv hf with ⟨h22, hf⟩ | ⟨h22, hf⟩
      · obtain ⟨r23, σ24, h25, hf⟩ := z_bd_inv hf
        rcases z_if_inv hf with ⟨h26, hf⟩ | ⟨h26, hf⟩
        · obtain ⟨r27, σ28, h29, hf⟩ := z_bd_inv hf
          rcases z_if_inv hf with ⟨h30, hf⟩ | ⟨h30, hf⟩
          · obtain ⟨⟨⟩, σ32, h33, hf⟩ := z_bd_inv hf
            obtain ⟨e1, e2⟩ := z_ret hf
            subst e1
            subst e2
            exact gx_end 26 [.inr (some (.int r1), σ2), .inl 1, .inl 1, .inr (some (.int r19), σ20), .inl 1, .inr (some (.int r23), σ24), .inl 1, .inr (some (.int r27), σ28), .inl 1, .inr (none, σ32)] [E0 D 176 [.ref 109] σ (some (.int r1)) σ2, ¬ ((σ2 109 17) = (2 : Int32)), r1 = (-1 : Int32), E0 D 165 [.ref 109, .int (17 : Int32)] σ2 (some (.int r19)) σ20, r19 = 0, E0 D 164 [.ref 109, .int (40 : Int32)] σ20 (some (.int r23)) σ24, r23 = 0, E0 D 164 [.ref 109, .int (45 : Int32)] σ24 (some (.int r27)) σ28, r27 = 0, E0 D 166 [.ref 109, .int (1 : Int32)] σ28 (none) σ32] rfl ⟨(ww_Md_nameNow D (by omega) σ r1 σ2 h3), h4, h18, (ww_Md_isWord D (by omega) (17 : Int32) σ2 r19 σ20 h21), h22, (ww_Md_isSign D (by omega) (40 : Int32) σ20 r23 σ24 h25), h26, (ww_Md_isSign D (by omega) (45 : Int32) σ24 r27 σ28 h29), h30, (ww_Md_errs D (by omega) (1 : Int32) σ28 () σ32 h33), trivial⟩
          · obtain ⟨r34, σ35, h36, hf⟩ := z_bd_inv hf
            obtain ⟨e1, e2⟩ := z_ret hf
            subst e1
            subst e2
            exact gx_end 28 [.inr (some (.int r1), σ2), .inl 1, .inl 1, .inr (some (.int r19), σ20), .inl 1, .inr (some (.int r23), σ24), .inl 1, .inr (some (.int r27), σ28), .inl 0, .inr (some (.int r34), σ35)] [E0 D 176 [.ref 109] σ (some (.int r1)) σ2, ¬ ((σ2 109 17) = (2 : Int32)), r1 = (-1 : Int32), E0 D 165 [.ref 109, .int (17 : Int32)] σ2 (some (.int r19)) σ20, r19 = 0, E0 D 164 [.ref 109, .int (40 : Int32)] σ20 (some (.int r23)) σ24, r23 = 0, E0 D 164 [.ref 109, .int (45 : Int32)] σ24 (some (.int r27)) σ28, ¬ (r27 = 0), E0 D 170 [.ref 109, .int (7 : Int32)] σ28 (some (.int r34)) σ35] rfl ⟨(ww_Md_nameNow D (by omega) σ r1 σ2 h3), h4, h18, (ww_Md_isWord D (by omega) (17 : Int32) σ2 r19 σ20 h21), h22, (ww_Md_isSign D (by omega) (40 : Int32) σ20 r23 σ24 h25), h26, (ww_Md_isSign D (by omega) (45 : Int32) σ24 r27 σ28 h29), h30, (ww_Md_opensSign D (by omega) (7 : Int32) σ28 r34 σ35 h36), trivial⟩
        · obtain ⟨r37, σ38, h39, hf⟩ := z_bd_inv hf
          obtain ⟨e1, e2⟩ := z_ret hf
          subst e1
          subst e2
          exact gx_end 24 [.inr (some (.int r1), σ2), .inl 1, .inl 1, .inr (some (.int r19), σ20), .inl 1, .inr (some (.int r23), σ24), .inl 0, .inr (some (.int r37), σ38)] [E0 D 176 [.ref 109] σ (some (.int r1)) σ2, ¬ ((σ2 109 17) = (2 : Int32)), r1 = (-1 : Int32), E0 D 165 [.ref 109, .int (17 : Int32)] σ2 (some (.int r19)) σ20, r19 = 0, E0 D 164 [.ref 109, .int (40 : Int32)] σ20 (some (.int r23)) σ24, ¬ (r23 = 0), E0 D 170 [.ref 109, .int (6 : Int32)] σ24 (some (.int r37)) σ38] rfl ⟨(ww_Md_nameNow D (by omega) σ r1 σ2 h3), h4, h18, (ww_Md_isWord D (by omega) (17 : Int32) σ2 r19 σ20 h21), h22, (ww_Md_isSign D (by omega) (40 : Int32) σ20 r23 σ24 h25), h26, (ww_Md_opensSign D (by omega) (6 : Int32) σ24 r37 σ38 h39), trivial⟩
      · obtain ⟨r40, σ41, h42, hf⟩ := z_bd_inv hf
        rcases z_if_inv hf with ⟨h43, hf⟩ | ⟨h43, hf⟩
        · obtain ⟨e1, e2⟩ := z_ret hf
          subst e1
          subst e2
          exact gx_end 19 [.inr (some (.int r1), σ2), .inl 1, .inl 1, .inr (some (.int r19), σ20), .inl 0, .inr (some (.int r40), σ41), .inl 1] [E0 D 176 [.ref 109] σ (some (.int r1)) σ2, ¬ ((σ2 109 17) = (2 : Int32)), r1 = (-1 : Int32), E0 D 165 [.ref 109, .int (17 : Int32)] σ2 (some (.int r19)) σ20, ¬ (r19 = 0), E0 D 170 [.ref 109, .int (2 : Int32)] σ20 (some (.int r40)) σ41, r40 = 0] rfl ⟨(ww_Md_nameNow D (by omega) σ r1 σ2 h3), h4, h18, (ww_Md_isWord D (by omega) (17 : Int32) σ2 r19 σ20 h21), h22, (ww_Md_opensSign D (by omega) (2 : Int32) σ20 r40 σ41 h42), h43, trivial⟩
        · obtain ⟨e1, e2⟩ := z_ret hf
          subst e1
          subst e2
          exact gx_end 23 [.inr (some (.int r1), σ2), .inl 1, .inl 1, .inr (some (.int r19), σ20), .inl 0, .inr (some (.int r40), σ41), .inl 0] [E0 D 176 [.ref 109] σ (some (.int r1)) σ2, ¬ ((σ2 109 17) = (2 : Int32)), r1 = (-1 : Int32), E0 D 165 [.ref 109, .int (17 : Int32)] σ2 (some (.int r19)) σ20, ¬ (r19 = 0), E0 D 170 [.ref 109, .int (2 : Int32)] σ20 (some (.int r40)) σ41, ¬ (r40 = 0)] rfl ⟨(ww_Md_nameNow D (by omega) σ r1 σ2 h3), h4, h18, (ww_Md_isWord D (by omega) (17 : Int32) σ2 r19 σ20 h21), h22, (ww_Md_opensSign D (by omega) (2 : Int32) σ20 r40 σ41 h42), h43, trivial⟩
    · obtain ⟨r44, σ45, h46, hf⟩ := z_bd_inv hf
      rcases z_if_inv hf with ⟨h47, hf⟩ | ⟨h47, hf⟩
      · obtain ⟨⟨⟩, σ49, h50, hf⟩ := z_bd_inv hf
        obtain ⟨e1, e2⟩ := z_ret hf
        subst e1
        subst e2
        exact gx_end 19 [.inr (some (.int r1), σ2), .inl 1, .inl 0, .inr (some (.int r44), σ45), .inl 0, .inr (none, σ49)] [E0 D 176 [.ref 109] σ (some (.int r1)) σ2, ¬ ((σ2 109 17) = (2 : Int32)), ¬ (r1 = (-1 : Int32)), E0 D 175 [.int r1, .int (σ2 109 31)] σ2 (some (.int r44)) σ45, ¬ ¬ (r44 = 0), E0 D 166 [.ref 109, .int (5 : Int32)] σ45 (none) σ49] rfl ⟨(ww_Md_nameNow D (by omega) σ r1 σ2 h3), h4, h18, (ww_Md_mayName D (by omega) r1 (σ2 109 31) σ2 r44 σ45 h46), (fun q => q h47), (ww_Md_errs D (by omega) (5 : Int32) σ45 () σ49 h50), trivial⟩
      · obtain ⟨⟨⟩, σ52, h53, hf⟩ := z_bd_inv hf
        obtain ⟨⟨⟩, σ55, h56, hf⟩ := z_bd_inv hf
        obtain ⟨⟨⟩, σ58, h59, hf⟩ := z_bd_inv hf
        obtain ⟨e1, e2⟩ := z_ret hf
        subst e1
        subst e2
        exact gx_end 25 [.inr (some (.int r1), σ2), .inl 1, .inl 0, .inr (some (.int r44), σ45), .inl 1, .inr (none, σ52), .inr (none, σ55), .inr (none, σ58)] [E0 D 176 [.ref 109] σ (some (.int r1)) σ2, ¬ ((σ2 109 17) = (2 : Int32)), ¬ (r1 = (-1 : Int32)), E0 D 175 [.int r1, .int (σ2 109 31)] σ2 (some (.int r44)) σ45, ¬ (r44 = 0), E0 D 167 [.ref 109, .int (401 : Int32), .int r1] σ45 (none) σ52, E0 D 163 [.ref 109] σ52 (none) σ55, E0 D 178 [.ref 109] σ55 (none) σ58] rfl ⟨(ww_Md_nameNow D (by omega) σ r1 σ2 h3), h4, h18, (ww_Md_mayName D (by omega) r1 (σ2 109 31) σ2 r44 σ45 h46), h47, (ww_Md_emits D (by omega) (401 : Int32) r1 σ45 () σ52 h53), (ww_Md_next D (by omega) σ52 () σ55 h56), (ww_Md_oneIsOver D (by omega) σ55 () σ58 h59), trivial⟩
set_option maxHeartbeats 16000000 in
set_option maxRecDepth 20000 in
theorem ww_Md_begins (D : Nat) (hD : 5 ≤ D) (σ : gx_R) (rr : Unit) (σ' : gx_R) (hf : Md_begins  σ = some (rr, σ')) : E0 D 177 [.ref 109] σ none σ' := by
  cases D with
  | zero => omega
  | succ D => exact Or.inl ⟨Nat.le_of_ble_eq_true rfl, vv_Md_begins_E D hD rr σ' σ hf⟩
set_option maxHeartbeats 16000000 in
set_option maxRecDepth 20000 in
theorem vv_Md_askIsOver_21 (D : Nat) (hD : 2 ≤ D + 1) (rr : Unit) (σ' : gx_R) (σ : gx_R) (hf : Md_askIsOver_21  σ = some (rr, σ')) : gx_Ev lay0 (E0 D) tt_179 none σ' 21 [.ref 109] [] σ := by
  unfold Md_askIsOver_21 at hf
  obtain ⟨e1, e2⟩ := z_ret hf
  subst e1
  subst e2
  exact gx_end 4 [] [] rfl trivial
set_option maxHeartbeats 16000000 in
set_option maxRecDepth 20000 in
theorem vv_Md_askIsOver_0_B (D : Nat) (hD : 2 ≤ D + 1) (rr : Unit) (σ' : gx_R) (K0 : gx_R → Option (Unit × gx_R)) (hK0 : ∀ (σ : gx_R), K0  σ = some (rr, σ') → gx_Ev lay0 (E0 D) tt_179 none σ' 0 [.ref 109] [] σ) (σ : gx_R) (hf : Md_askIsOver_0_B K0  σ = some (rr, σ')) : gx_Ev lay0 (E0 D) tt_179 none σ' 0 [.ref 109] [] σ := by
  unfold Md_askIsOver_0_B at hf
  obtain ⟨r1, σ2, h3, hf⟩ := z_bd_inv hf
  rcases z_if_inv hf with ⟨h4, hf⟩ | ⟨h4, hf⟩
  · obtain ⟨⟨⟩, σ6, h7, hf⟩ := z_bd_inv hf
    exact gx_go_ 21 [.inr (some (.int r1), σ2), .inl 0, .inr (none, σ6)] [E0 D 169 [.ref 109] σ (some (.int r1)) σ2, ¬ ¬ (r1 = (3 : Int32)), E0 D 167 [.ref 109, .int (405 : Int32), .int (0 : Int32)] (gx_up (gx_up σ2 109 22 ((σ2 109 22) - (1 : Int32))) 109 21 (((gx_up σ2 109 22 ((σ2 109 22) - (1 : Int32))) 109 21) - (1 : Int32))) (none) σ6] 0 [.ref 109] [] σ6 rfl ⟨(ww_Md_top D (by omega) σ r1 σ2 h3), (fun q => q h4), (ww_Md_emits D (by omega) (405 : Int32) (0 : Int32) (gx_up (gx_up σ2 109 22 ((σ2 109 22) - (1 : Int32))) 109 21 (((gx_up σ2 109 22 ((σ2 109 22) - (1 : Int32))) 109 21) - (1 : Int32))) () σ6 h7), trivial⟩ (gx_fgt (ls' := [.ref 109]) ⟨Or.inr rfl, trivial⟩ (hK0 σ6 hf))
  · exact gx_go_ 4 [.inr (some (.int r1), σ2), .inl 1] [E0 D 169 [.ref 109] σ (some (.int r1)) σ2, ¬ (r1 = (3 : Int32))] 21 [.ref 109] [] σ2 rfl ⟨(ww_Md_top D (by omega) σ r1 σ2 h3), h4, trivial⟩ (gx_fgt (ls' := [.ref 109]) ⟨Or.inr rfl, trivial⟩ (vv_Md_askIsOver_21 D hD rr σ' σ2 hf))
set_option maxHeartbeats 16000000 in
set_option maxRecDepth 20000 in
theorem vv_Md_askIsOver_0 (D : Nat) (hD : 2 ≤ D + 1) (rr : Unit) (σ' : gx_R) : ∀ (n : Nat) (σ : gx_R), Md_askIsOver_0 n  σ = some (rr, σ') → gx_Ev lay0 (E0 D) tt_179 none σ' 0 [.ref 109] [] σ := by
  intro n
  induction n with
  | zero => intro  σ  hf; cases hf
  | succ n ih => intro  σ  hf; exact vv_Md_askIsOver_0_B D hD rr σ'  (Md_askIsOver_0 n) ih  σ  hf
set_option maxHeartbeats 16000000 in
set_option maxRecDepth 20000 in
theorem vv_Md_askIsOver_E (D : Nat) (hD : 2 ≤ D + 1) (rr : Unit) (σ' : gx_R) (σ : gx_R) (hf : Md_askIsOver  σ = some (rr, σ')) : gx_Ev lay0 (E0 D) tt_179 none σ' 0 [.ref 109] [] σ := by
  unfold Md_askIsOver at hf
  exact gx_fgt (ls' := [.ref 109]) ⟨Or.inr rfl, trivial⟩ (vv_Md_askIsOver_0 D hD rr σ' z_FU σ hf)
set_option maxHeartbeats 16000000 in
set_option maxRecDepth 20000 in
theorem ww_Md_askIsOver (D : Nat) (hD : 2 ≤ D) (σ : gx_R) (rr : Unit) (σ' : gx_R) (hf : Md_askIsOver  σ = some (rr, σ')) : E0 D 179 [.ref 109] σ none σ' := by
  cases D with
  | zero => omega
  | succ D => exact Or.inl ⟨Nat.le_of_ble_eq_true rfl, vv_Md_askIsOver_E D hD rr σ' σ hf⟩
set_option maxHeartbeats 16000000 in
set_option maxRecDepth 20000 in
theorem vv_Md_isAsking_18 (D : Nat) (hD : 1 ≤ D + 1) (rr : Int32) (σ' : gx_R) (σ : gx_R) (hf : Md_isAsking_18  σ = some (rr, σ')) : gx_Ev lay0 (E0 D) tt_180 (some (.int rr)) σ' 18 [.null] [] σ := by
  unfold Md_isAsking_18 at hf
  obtain ⟨e1, e2⟩ := z_ret hf
  subst e1
  subst e2
  exact gx_end 3 [] [(1 : Int32) &&& 1 = (1 : Int32)] rfl ⟨rfl, trivial⟩
set_option maxHeartbeats 16000000 in
set_option maxRecDepth 20000 in
theorem vv_Md_isAsking_E (D : Nat) (hD : 1 ≤ D + 1) (rr : Int32) (σ' : gx_R) (a0 : Int32) (σ : gx_R) (hf : Md_isAsking a0 σ = some (rr, σ')) : gx_Ev lay0 (E0 D) tt_180 (some (.int rr)) σ' 0 [.int a0] [] σ := by
  unfold Md_isAsking at hf
  rcases z_if_inv hf with ⟨h1, hf⟩ | ⟨h1, hf⟩
  · exact gx_go_ 3 [.inl 1] [a0 = (60 : Int32)] 18 [.int a0] [] σ rfl ⟨h1, trivial⟩ (gx_fgt (ls' := [.null]) ⟨Or.inl rfl, trivial⟩ (vv_Md_isAsking_18 D hD rr σ' σ hf))
  · rcases z_if_inv hf with ⟨h2, hf⟩ | ⟨h2, hf⟩
    · exact gx_go_ 6 [.inl 0, .inl 1] [¬ (a0 = (60 : Int32)), a0 = (62 : Int32)] 18 [.int a0] [] σ rfl ⟨h1, h2, trivial⟩ (gx_fgt (ls' := [.null]) ⟨Or.inl rfl, trivial⟩ (vv_Md_isAsking_18 D hD rr σ' σ hf))
    · rcases z_if_inv hf with ⟨h3, hf⟩ | ⟨h3, hf⟩
      · exact gx_go_ 9 [.inl 0, .inl 0, .inl 1] [¬ (a0 = (60 : Int32)), ¬ (a0 = (62 : Int32)), a0 = (61 : Int32)] 18 [.int a0] [] σ rfl ⟨h1, h2, h3, trivial⟩ (gx_fgt (ls' := [.null]) ⟨Or.inl rfl, trivial⟩ (vv_Md_isAsking_18 D hD rr σ' σ hf))
      · rcases z_if_inv hf with ⟨h4, hf⟩ | ⟨h4, hf⟩
        · exact gx_go_ 12 [.inl 0, .inl 0, .inl 0, .inl 1] [¬ (a0 = (60 : Int32)), ¬ (a0 = (62 : Int32)), ¬ (a0 = (61 : Int32)), a0 = (35 : Int32)] 18 [.int a0] [] σ rfl ⟨h1, h2, h3, h4, trivial⟩ (gx_fgt (ls' := [.null]) ⟨Or.inl rfl, trivial⟩ (vv_Md_isAsking_18 D hD rr σ' σ hf))
        · rcases z_if_inv hf with ⟨h5, hf⟩ | ⟨h5, hf⟩
          · exact gx_go_ 15 [.inl 0, .inl 0, .inl 0, .inl 0, .inl 1] [¬ (a0 = (60 : Int32)), ¬ (a0 = (62 : Int32)), ¬ (a0 = (61 : Int32)), ¬ (a0 = (35 : Int32)), a0 = (300 : Int32)] 18 [.int a0] [] σ rfl ⟨h1, h2, h3, h4, h5, trivial⟩ (gx_fgt (ls' := [.null]) ⟨Or.inl rfl, trivial⟩ (vv_Md_isAsking_18 D hD rr σ' σ hf))
          · rcases z_if_inv hf with ⟨h6, hf⟩ | ⟨h6, hf⟩
            · exact gx_go_ 18 [.inl 0, .inl 0, .inl 0, .inl 0, .inl 0, .inl 0] [¬ (a0 = (60 : Int32)), ¬ (a0 = (62 : Int32)), ¬ (a0 = (61 : Int32)), ¬ (a0 = (35 : Int32)), ¬ (a0 = (300 : Int32)), ¬ ¬ (a0 = (301 : Int32))] 18 [.int a0] [] σ rfl ⟨h1, h2, h3, h4, h5, (fun q => q h6), trivial⟩ (gx_fgt (ls' := [.null]) ⟨Or.inl rfl, trivial⟩ (vv_Md_isAsking_18 D hD rr σ' σ hf))
            · obtain ⟨e1, e2⟩ := z_ret hf
              subst e1
              subst e2
              exact gx_end 20 [.inl 0, .inl 0, .inl 0, .inl 0, .inl 0, .inl 1] [¬ (a0 = (60 : Int32)), ¬ (a0 = (62 : Int32)), ¬ (a0 = (61 : Int32)), ¬ (a0 = (35 : Int32)), ¬ (a0 = (300 : Int32)), ¬ (a0 = (301 : Int32)), (0 : Int32) &&& 1 = (0 : Int32)] rfl ⟨h1, h2, h3, h4, h5, h6, rfl, trivial⟩
set_option maxHeartbeats 16000000 in
set_option maxRecDepth 20000 in
theorem ww_Md_isAsking (D : Nat) (hD : 1 ≤ D) (a0 : Int32) (σ : gx_R) (rr : Int32) (σ' : gx_R) (hf : Md_isAsking a0 σ = some (rr, σ')) : E0 D 180 [.int a0] σ (some (.int rr)) σ' := by
  cases D with
  | zero => omega
  | succ D => exact Or.inl ⟨Nat.le_of_ble_eq_true rfl, vv_Md_isAsking_E D hD rr σ' a0 σ hf⟩
set_option maxHeartbeats 16000000 in
set_option maxRecDepth 20000 in
theorem vv_Md_turnsTo_26 (D : Nat) (hD : 4 ≤ D + 1) (rr : Unit) (σ' : gx_R) (a1 : Int32) (σ : gx_R) (hf : Md_turnsTo_26 a1 σ = some (rr, σ')) : gx_Ev lay0 (E0 D) tt_181 none σ' 26 [.ref 109, .int a1, .null, .null] [] σ := by
  unfold Md_turnsTo_26 at hf
  obtain ⟨h1, hf⟩ := z_ck_inv hf
  obtain ⟨⟨⟩, σ3, h4, hf⟩ := z_bd_inv hf
  obtain ⟨e1, e2⟩ := z_ret hf
  subst e1
  subst e2
  exact gx_end 14 [.inr (none, σ3)] [vp_in ((σ 109 22) - (1 : Int32)) 40, E0 D 163 [.ref 109] (gx_up σ 121 ((σ 109 22) - (1 : Int32)).toNatClampNeg a1) (none) σ3] rfl ⟨(z_ix_in h1), (ww_Md_next D (by omega) (gx_up σ 121 ((σ 109 22) - (1 : Int32)).toNatClampNeg a1) () σ3 h4), trivial⟩
set_option maxHeartbeats 16000000 in
set_option maxRecDepth 20000 in
theorem vv_Md_turnsTo_E (D : Nat) (hD : 4 ≤ D + 1) (rr : Unit) (σ' : gx_R) (a1 : Int32) (a2 : Int32) (σ : gx_R) (hf : Md_turnsTo a1 a2 σ = some (rr, σ')) : gx_Ev lay0 (E0 D) tt_181 none σ' 0 [.ref 109, .int a1, .int a2, .null] [] σ := by
  unfold Md_turnsTo at hf
  obtain ⟨h1, hf⟩ := z_ck_inv hf
  obtain ⟨h2, hf⟩ := z_ck_inv hf
  obtain ⟨⟨⟩, σ4, h5, hf⟩ := z_bd_inv hf
  rcases z_if_inv hf with ⟨h6, hf⟩ | ⟨h6, hf⟩
  · obtain ⟨h7, hf⟩ := z_ck_inv hf
    exact gx_go_ 26 [.inr (none, σ4), .inl 0] [vp_in (σ 109 22) 41, vp_in (σ 109 22) 41, E0 D 167 [.ref 109, .int a2, .int (0 : Int32)] (gx_up σ 125 (σ 109 22).toNatClampNeg (σ 109 37)) (none) σ4, ¬ ¬ (a2 = (404 : Int32)), vp_in (σ 125 ((σ 109 22).toNatClampNeg)) 400] 26 [.ref 109, .int a1, .int a2, .int (σ 125 ((σ 109 22).toNatClampNeg))] [] (gx_up σ4 132 (σ 125 ((σ 109 22).toNatClampNeg)).toNatClampNeg (σ4 109 37)) rfl ⟨(z_ix_in h1), (z_ix_in h2), (ww_Md_emits D (by omega) a2 (0 : Int32) (gx_up σ 125 (σ 109 22).toNatClampNeg (σ 109 37)) () σ4 h5), (fun q => q h6), (z_ix_in h7), trivial⟩ (gx_fgt (ls' := [.ref 109, .int a1, .null, .null]) ⟨Or.inr rfl, Or.inr rfl, Or.inl rfl, Or.inl rfl, trivial⟩ (vv_Md_turnsTo_26 D hD rr σ' a1 (gx_up σ4 132 (σ 125 ((σ 109 22).toNatClampNeg)).toNatClampNeg (σ4 109 37)) hf))
  · exact gx_go_ 20 [.inr (none, σ4), .inl 1] [vp_in (σ 109 22) 41, vp_in (σ 109 22) 41, E0 D 167 [.ref 109, .int a2, .int (0 : Int32)] (gx_up σ 125 (σ 109 22).toNatClampNeg (σ 109 37)) (none) σ4, ¬ (a2 = (404 : Int32))] 26 [.ref 109, .int a1, .int a2, .int (σ 125 ((σ 109 22).toNatClampNeg))] [] σ4 rfl ⟨(z_ix_in h1), (z_ix_in h2), (ww_Md_emits D (by omega) a2 (0 : Int32) (gx_up σ 125 (σ 109 22).toNatClampNeg (σ 109 37)) () σ4 h5), h6, trivial⟩ (gx_fgt (ls' := [.ref 109, .int a1, .null, .null]) ⟨Or.inr rfl, Or.inr rfl, Or.inl rfl, Or.inl rfl, trivial⟩ (vv_Md_turnsTo_26 D hD rr σ' a1 σ4 hf))
set_option maxHeartbeats 16000000 in
set_option maxRecDepth 20000 in
theorem ww_Md_turnsTo (D : Nat) (hD : 4 ≤ D) (a1 : Int32) (a2 : Int32) (σ : gx_R) (rr : Unit) (σ' : gx_R) (hf : Md_turnsTo a1 a2 σ = some (rr, σ')) : E0 D 181 [.ref 109, .int a1, .int a2] σ none σ' := by
  cases D with
  | zero => omega
  | succ D => exact Or.inl ⟨Nat.le_of_ble_eq_true rfl, vv_Md_turnsTo_E D hD rr σ' a1 a2 σ hf⟩
set_option maxHeartbeats 16000000 in
set_option maxRecDepth 20000 in
theorem vv_Md_clauseIsOver_E (D : Nat) (hD : 4 ≤ D + 1) (rr : Unit) (σ' : gx_R) (σ : gx_R) (hf : Md_clauseIsOver  σ = some (rr, σ')) : gx_Ev lay0 (E0 D) tt_184 none σ' 0 [.ref 109] [] σ := by
  unfold Md_clauseIsOver at hf
  obtain ⟨⟨⟩, σ2, h3, hf⟩ := z_bd_inv hf
  obtain ⟨⟨⟩, σ5, h6, hf⟩ := z_bd_inv hf
  obtain ⟨⟨⟩, σ8, h9, hf⟩ := z_bd_inv hf
  obtain ⟨e1, e2⟩ := z_ret hf
  subst e1
  subst e2
  exact gx_end 22 [.inr (none, σ2), .inr (none, σ5), .inr (none, σ8)] [E0 D 172 [.ref 109, .int (1 : Int32)] σ (none) σ2, E0 D 167 [.ref 109, .int (408 : Int32), .int (0 : Int32)] (gx_up σ2 109 22 (0 : Int32)) (none) σ5, E0 D 163 [.ref 109] (gx_up σ5 109 30 ((σ5 109 30) + (1 : Int32))) (none) σ8] rfl ⟨(ww_Md_works D (by omega) (1 : Int32) σ () σ2 h3), (ww_Md_emits D (by omega) (408 : Int32) (0 : Int32) (gx_up σ2 109 22 (0 : Int32)) () σ5 h6), (ww_Md_next D (by omega) (gx_up σ5 109 30 ((σ5 109 30) + (1 : Int32))) () σ8 h9), trivial⟩
set_option maxHeartbeats 16000000 in
set_option maxRecDepth 20000 in
theorem ww_Md_clauseIsOver (D : Nat) (hD : 4 ≤ D) (σ : gx_R) (rr : Unit) (σ' : gx_R) (hf : Md_clauseIsOver  σ = some (rr, σ')) : E0 D 184 [.ref 109] σ none σ' := by
  cases D with
  | zero => omega
  | succ D => exact Or.inl ⟨Nat.le_of_ble_eq_true rfl, vv_Md_clauseIsOver_E D hD rr σ' σ hf⟩
set_option maxHeartbeats 16000000 in
set_option maxRecDepth 20000 in
theorem vv_Md_goesOn_180 (D : Nat) (hD : 5 ≤ D + 1) (rr : Unit) (σ' : gx_R) (σ : gx_R) (hf : Md_goesOn_180  σ = some (rr, σ')) : gx_Ev lay0 (E0 D) tt_182 none σ' 180 [.ref 109, .null, .null] [] σ := by
  unfold Md_goesOn_180 at hf
  obtain ⟨⟨⟩, σ2, h3, hf⟩ := z_bd_inv hf
  obtain ⟨e1, e2⟩ := z_ret hf
  subst e1
  subst e2
  exact gx_end 4 [.inr (none, σ2)] [E0 D 166 [.ref 109, .int (1 : Int32)] σ (none) σ2] rfl ⟨(ww_Md_errs D (by omega) (1 : Int32) σ () σ2 h3), trivial⟩
set_option maxHeartbeats 16000000 in
set_option maxRecDepth 20000 in
theorem vv_Md_goesOn_145 (D : Nat) (hD : 5 ≤ D + 1) (rr : Unit) (σ' : gx_R) (a1 : Int32) (σ : gx_R) (hf : Md_goesOn_145 a1 σ = some (rr, σ')) : gx_Ev lay0 (E0 D) tt_182 none σ' 145 [.ref 109, .int a1, .null] [] σ := by
  unfold Md_goesOn_145 at hf
  rcases z_if_inv hf with ⟨h1, hf⟩ | ⟨h1, hf⟩
  · obtain ⟨⟨⟩, σ3, h4, hf⟩ := z_bd_inv hf
    obtain ⟨h5, hf⟩ := z_ck_inv hf
    obtain ⟨⟨⟩, σ7, h8, hf⟩ := z_bd_inv hf
    obtain ⟨⟨⟩, σ10, h11, hf⟩ := z_bd_inv hf
    obtain ⟨e1, e2⟩ := z_ret hf
    subst e1
    subst e2
    exact gx_end 26 [.inl 0, .inr (none, σ3), .inr (none, σ7), .inr (none, σ10)] [¬ ¬ (a1 = (5 : Int32)), E0 D 172 [.ref 109, .int (3 : Int32)] σ (none) σ3, vp_in (σ3 109 22) 41, E0 D 167 [.ref 109, .int (σ3 122 ((σ3 109 22).toNatClampNeg)), .int (0 : Int32)] (gx_up σ3 109 22 ((σ3 109 22) - (1 : Int32))) (none) σ7, E0 D 179 [.ref 109] σ7 (none) σ10] rfl ⟨(fun q => q h1), (ww_Md_works D (by omega) (3 : Int32) σ () σ3 h4), (z_ix_in h5), (ww_Md_emits D (by omega) (σ3 122 ((σ3 109 22).toNatClampNeg)) (0 : Int32) (gx_up σ3 109 22 ((σ3 109 22) - (1 : Int32))) () σ7 h8), (ww_Md_askIsOver D (by omega) σ7 () σ10 h11), trivial⟩
  · rcases z_if_inv hf with ⟨h12, hf⟩ | ⟨h12, hf⟩
    · obtain ⟨r13, σ14, h15, hf⟩ := z_bd_inv hf
      rcases z_if_inv hf with ⟨h16, hf⟩ | ⟨h16, hf⟩
      · exact gx_go_ 10 [.inl 1, .inl 0, .inr (some (.int r13), σ14), .inl 1] [¬ (a1 = (5 : Int32)), ¬ ¬ (a1 = (1 : Int32)), E0 D 164 [.ref 109, .int (59 : Int32)] σ (some (.int r13)) σ14, r13 = 0] 180 [.ref 109, .int a1, .null] [] σ14 rfl ⟨h1, (fun q => q h12), (ww_Md_isSign D (by omega) (59 : Int32) σ r13 σ14 h15), h16, trivial⟩ (gx_fgt (ls' := [.ref 109, .null, .null]) ⟨Or.inr rfl, Or.inl rfl, Or.inl rfl, trivial⟩ (vv_Md_goesOn_180 D hD rr σ' σ14 hf))
      · obtain ⟨⟨⟩, σ18, h19, hf⟩ := z_bd_inv hf
        obtain ⟨e1, e2⟩ := z_ret hf
        subst e1
        subst e2
        exact gx_end 14 [.inl 1, .inl 0, .inr (some (.int r13), σ14), .inl 0, .inr (none, σ18)] [¬ (a1 = (5 : Int32)), ¬ ¬ (a1 = (1 : Int32)), E0 D 164 [.ref 109, .int (59 : Int32)] σ (some (.int r13)) σ14, ¬ (r13 = 0), E0 D 184 [.ref 109] σ14 (none) σ18] rfl ⟨h1, (fun q => q h12), (ww_Md_isSign D (by omega) (59 : Int32) σ r13 σ14 h15), h16, (ww_Md_clauseIsOver D (by omega) σ14 () σ18 h19), trivial⟩
    · exact gx_go_ 6 [.inl 1, .inl 1] [¬ (a1 = (5 : Int32)), ¬ (a1 = (1 : Int32))] 180 [.ref 109, .int a1, .null] [] σ rfl ⟨h1, h12, trivial⟩ (gx_fgt (ls' := [.ref 109, .null, .null]) ⟨Or.inr rfl, Or.inl rfl, Or.inl rfl, trivial⟩ (vv_Md_goesOn_180 D hD rr σ' σ hf))
set_option maxHeartbeats 16000000 in
set_option maxRecDepth 20000 in
theorem vv_Md_goesOn_110 (D : Nat) (hD : 5 ≤ D + 1) (rr : Unit) (σ' : gx_R) (a1 : Int32) (σ : gx_R) (hf : Md_goesOn_110 a1 σ = some (rr, σ')) : gx_Ev lay0 (E0 D) tt_182 none σ' 110 [.ref 109, .int a1, .null] [] σ := by
  unfold Md_goesOn_110 at hf
  rcases z_if_inv hf with ⟨h1, hf⟩ | ⟨h1, hf⟩
  · rcases z_if_inv hf with ⟨h2, hf⟩ | ⟨h2, hf⟩
    · obtain ⟨r3, σ4, h5, hf⟩ := z_bd_inv hf
      rcases z_if_inv hf with ⟨h6, hf⟩ | ⟨h6, hf⟩
      · exact gx_go_ 11 [.inl 0, .inl 0, .inr (some (.int r3), σ4), .inl 1] [¬ ¬ (a1 = (4 : Int32)), ¬ ¬ ((σ 109 17) = (3 : Int32)), E0 D 180 [.int (σ 109 18)] σ (some (.int r3)) σ4, r3 = 0] 145 [.ref 109, .int a1, .null] [] σ4 rfl ⟨(fun q => q h1), (fun q => q h2), (ww_Md_isAsking D (by omega) (σ 109 18) σ r3 σ4 h5), h6, trivial⟩ (gx_fgt (ls' := [.ref 109, .int a1, .null]) ⟨Or.inr rfl, Or.inr rfl, Or.inl rfl, trivial⟩ (vv_Md_goesOn_145 D hD rr σ' a1 σ4 hf))
      · obtain ⟨⟨⟩, σ8, h9, hf⟩ := z_bd_inv hf
        obtain ⟨h10, hf⟩ := z_ck_inv hf
        obtain ⟨h11, hf⟩ := z_ck_inv hf
        obtain ⟨⟨⟩, σ13, h14, hf⟩ := z_bd_inv hf
        obtain ⟨e1, e2⟩ := z_ret hf
        subst e1
        subst e2
        exact gx_end 36 [.inl 0, .inl 0, .inr (some (.int r3), σ4), .inl 0, .inr (none, σ8), .inr (none, σ13)] [¬ ¬ (a1 = (4 : Int32)), ¬ ¬ ((σ 109 17) = (3 : Int32)), E0 D 180 [.int (σ 109 18)] σ (some (.int r3)) σ4, ¬ (r3 = 0), E0 D 172 [.ref 109, .int (3 : Int32)] σ4 (none) σ8, vp_in (σ8 109 22) 41, vp_in (((gx_up σ8 122 (σ8 109 22).toNatClampNeg (σ8 109 18)) 109 22) - (1 : Int32)) 40, E0 D 163 [.ref 109] (gx_up (gx_up σ8 122 (σ8 109 22).toNatClampNeg (σ8 109 18)) 121 (((gx_up σ8 122 (σ8 109 22).toNatClampNeg (σ8 109 18)) 109 22) - (1 : Int32)).toNatClampNeg (5 : Int32)) (none) σ13] rfl ⟨(fun q => q h1), (fun q => q h2), (ww_Md_isAsking D (by omega) (σ 109 18) σ r3 σ4 h5), h6, (ww_Md_works D (by omega) (3 : Int32) σ4 () σ8 h9), (z_ix_in h10), (z_ix_in h11), (ww_Md_next D (by omega) (gx_up (gx_up σ8 122 (σ8 109 22).toNatClampNeg (σ8 109 18)) 121 (((gx_up σ8 122 (σ8 109 22).toNatClampNeg (σ8 109 18)) 109 22) - (1 : Int32)).toNatClampNeg (5 : Int32)) () σ13 h14), trivial⟩
    · exact gx_go_ 7 [.inl 0, .inl 1] [¬ ¬ (a1 = (4 : Int32)), ¬ ((σ 109 17) = (3 : Int32))] 145 [.ref 109, .int a1, .null] [] σ rfl ⟨(fun q => q h1), h2, trivial⟩ (gx_fgt (ls' := [.ref 109, .int a1, .null]) ⟨Or.inr rfl, Or.inr rfl, Or.inl rfl, trivial⟩ (vv_Md_goesOn_145 D hD rr σ' a1 σ hf))
  · exact gx_go_ 3 [.inl 1] [¬ (a1 = (4 : Int32))] 145 [.ref 109, .int a1, .null] [] σ rfl ⟨h1, trivial⟩ (gx_fgt (ls' := [.ref 109, .int a1, .null]) ⟨Or.inr rfl, Or.inr rfl, Or.inl rfl, trivial⟩ (vv_Md_goesOn_145 D hD rr σ' a1 σ hf))
set_option maxHeartbeats 16000000 in
set_option maxRecDepth 20000 in
theorem vv_Md_goesOn_73 (D : Nat) (hD : 5 ≤ D + 1) (rr : Unit) (σ' : gx_R) (a1 : Int32) (σ : gx_R) (hf : Md_goesOn_73 a1 σ = some (rr, σ')) : gx_Ev lay0 (E0 D) tt_182 none σ' 73 [.ref 109, .int a1, .null] [] σ := by
  unfold Md_goesOn_73 at hf
  rcases z_if_inv hf with ⟨h1, hf⟩ | ⟨h1, hf⟩
  · obtain ⟨r2, σ3, h4, hf⟩ := z_bd_inv hf
    rcases z_if_inv hf with ⟨h5, hf⟩ | ⟨h5, hf⟩
    · exact gx_go_ 7 [.inl 0, .inr (some (.int r2), σ3), .inl 1] [¬ ¬ (a1 = (9 : Int32)), E0 D 165 [.ref 109, .int (20 : Int32)] σ (some (.int r2)) σ3, r2 = 0] 110 [.ref 109, .int a1, .null] [] σ3 rfl ⟨(fun q => q h1), (ww_Md_isWord D (by omega) (20 : Int32) σ r2 σ3 h4), h5, trivial⟩ (gx_fgt (ls' := [.ref 109, .int a1, .null]) ⟨Or.inr rfl, Or.inr rfl, Or.inl rfl, trivial⟩ (vv_Md_goesOn_110 D hD rr σ' a1 σ3 hf))
    · obtain ⟨⟨⟩, σ7, h8, hf⟩ := z_bd_inv hf
      obtain ⟨h9, hf⟩ := z_ck_inv hf
      obtain ⟨h10, hf⟩ := z_ck_inv hf
      obtain ⟨⟨⟩, σ12, h13, hf⟩ := z_bd_inv hf
      obtain ⟨⟨⟩, σ15, h16, hf⟩ := z_bd_inv hf
      obtain ⟨e1, e2⟩ := z_ret hf
      subst e1
      subst e2
      exact gx_end 38 [.inl 0, .inr (some (.int r2), σ3), .inl 0, .inr (none, σ7), .inr (none, σ12), .inr (none, σ15)] [¬ ¬ (a1 = (9 : Int32)), E0 D 165 [.ref 109, .int (20 : Int32)] σ (some (.int r2)) σ3, ¬ (r2 = 0), E0 D 172 [.ref 109, .int (3 : Int32)] σ3 (none) σ7, vp_in (σ7 109 22) 41, vp_in (σ7 125 ((σ7 109 22).toNatClampNeg)) 400, E0 D 163 [.ref 109] (gx_up (gx_up (gx_up σ7 132 (σ7 125 ((σ7 109 22).toNatClampNeg)).toNatClampNeg (σ7 109 37)) 109 22 (((gx_up σ7 132 (σ7 125 ((σ7 109 22).toNatClampNeg)).toNatClampNeg (σ7 109 37)) 109 22) - (1 : Int32))) 109 21 (((gx_up (gx_up σ7 132 (σ7 125 ((σ7 109 22).toNatClampNeg)).toNatClampNeg (σ7 109 37)) 109 22 (((gx_up σ7 132 (σ7 125 ((σ7 109 22).toNatClampNeg)).toNatClampNeg (σ7 109 37)) 109 22) - (1 : Int32))) 109 21) - (1 : Int32))) (none) σ12, E0 D 178 [.ref 109] σ12 (none) σ15] rfl ⟨(fun q => q h1), (ww_Md_isWord D (by omega) (20 : Int32) σ r2 σ3 h4), h5, (ww_Md_works D (by omega) (3 : Int32) σ3 () σ7 h8), (z_ix_in h9), (z_ix_in h10), (ww_Md_next D (by omega) (gx_up (gx_up (gx_up σ7 132 (σ7 125 ((σ7 109 22).toNatClampNeg)).toNatClampNeg (σ7 109 37)) 109 22 (((gx_up σ7 132 (σ7 125 ((σ7 109 22).toNatClampNeg)).toNatClampNeg (σ7 109 37)) 109 22) - (1 : Int32))) 109 21 (((gx_up (gx_up σ7 132 (σ7 125 ((σ7 109 22).toNatClampNeg)).toNatClampNeg (σ7 109 37)) 109 22 (((gx_up σ7 132 (σ7 125 ((σ7 109 22).toNatClampNeg)).toNatClampNeg (σ7 109 37)) 109 22) - (1 : Int32))) 109 21) - (1 : Int32))) () σ12 h13), (ww_Md_oneIsOver D (by omega) σ12 () σ15 h16), trivial⟩
  · exact gx_go_ 3 [.inl 1] [¬ (a1 = (9 : Int32))] 110 [.ref 109, .int a1, .null] [] σ rfl ⟨h1, trivial⟩ (gx_fgt (ls' := [.ref 109, .int a1, .null]) ⟨Or.inr rfl, Or.inr rfl, Or.inl rfl, trivial⟩ (vv_Md_goesOn_110 D hD rr σ' a1 σ hf))
set_option maxHeartbeats 16000000 in
set_option maxRecDepth 20000 in
theorem vv_Md_goesOn_23 (D : Nat) (hD : 5 ≤ D + 1) (rr : Unit) (σ' : gx_R) (σ : gx_R) (hf : Md_goesOn_23  σ = some (rr, σ')) : gx_Ev lay0 (E0 D) tt_182 none σ' 23 [.ref 109, .null, .null] [] σ := by
  unfold Md_goesOn_23 at hf
  obtain ⟨⟨⟩, σ2, h3, hf⟩ := z_bd_inv hf
  obtain ⟨e1, e2⟩ := z_ret hf
  subst e1
  subst e2
  exact gx_end 9 [.inr (none, σ2)] [E0 D 173 [.ref 109, .int (σ 109 18)] σ (none) σ2] rfl ⟨(ww_Md_waitsFor D (by omega) (σ 109 18) σ () σ2 h3), trivial⟩
set_option maxHeartbeats 16000000 in
set_option maxRecDepth 20000 in
theorem vv_Md_goesOn_58 (D : Nat) (hD : 5 ≤ D + 1) (rr : Unit) (σ' : gx_R) (a1 : Int32) (σ : gx_R) (hf : Md_goesOn_58 a1 σ = some (rr, σ')) : gx_Ev lay0 (E0 D) tt_182 none σ' 58 [.ref 109, .int a1, .null] [] σ := by
  unfold Md_goesOn_58 at hf
  rcases z_if_inv hf with ⟨h1, hf⟩ | ⟨h1, hf⟩
  · obtain ⟨r2, σ3, h4, hf⟩ := z_bd_inv hf
    rcases z_if_inv hf with ⟨h5, hf⟩ | ⟨h5, hf⟩
    · exact gx_go_ 7 [.inl 0, .inr (some (.int r2), σ3), .inl 1] [¬ ¬ (a1 = (8 : Int32)), E0 D 165 [.ref 109, .int (19 : Int32)] σ (some (.int r2)) σ3, r2 = 0] 73 [.ref 109, .int a1, .null] [] σ3 rfl ⟨(fun q => q h1), (ww_Md_isWord D (by omega) (19 : Int32) σ r2 σ3 h4), h5, trivial⟩ (gx_fgt (ls' := [.ref 109, .int a1, .null]) ⟨Or.inr rfl, Or.inr rfl, Or.inl rfl, trivial⟩ (vv_Md_goesOn_73 D hD rr σ' a1 σ3 hf))
    · obtain ⟨⟨⟩, σ7, h8, hf⟩ := z_bd_inv hf
      obtain ⟨⟨⟩, σ10, h11, hf⟩ := z_bd_inv hf
      obtain ⟨e1, e2⟩ := z_ret hf
      subst e1
      subst e2
      exact gx_end 16 [.inl 0, .inr (some (.int r2), σ3), .inl 0, .inr (none, σ7), .inr (none, σ10)] [¬ ¬ (a1 = (8 : Int32)), E0 D 165 [.ref 109, .int (19 : Int32)] σ (some (.int r2)) σ3, ¬ (r2 = 0), E0 D 172 [.ref 109, .int (3 : Int32)] σ3 (none) σ7, E0 D 181 [.ref 109, .int (9 : Int32), .int (404 : Int32)] σ7 (none) σ10] rfl ⟨(fun q => q h1), (ww_Md_isWord D (by omega) (19 : Int32) σ r2 σ3 h4), h5, (ww_Md_works D (by omega) (3 : Int32) σ3 () σ7 h8), (ww_Md_turnsTo D (by omega) (9 : Int32) (404 : Int32) σ7 () σ10 h11), trivial⟩
  · exact gx_go_ 3 [.inl 1] [¬ (a1 = (8 : Int32))] 73 [.ref 109, .int a1, .null] [] σ rfl ⟨h1, trivial⟩ (gx_fgt (ls' := [.ref 109, .int a1, .null]) ⟨Or.inr rfl, Or.inr rfl, Or.inl rfl, trivial⟩ (vv_Md_goesOn_73 D hD rr σ' a1 σ hf))
set_option maxHeartbeats 16000000 in
set_option maxRecDepth 20000 in
theorem vv_Md_goesOn_31 (D : Nat) (hD : 5 ≤ D + 1) (rr : Unit) (σ' : gx_R) (a1 : Int32) (σ : gx_R) (hf : Md_goesOn_31 a1 σ = some (rr, σ')) : gx_Ev lay0 (E0 D) tt_182 none σ' 31 [.ref 109, .int a1, .null] [] σ := by
  unfold Md_goesOn_31 at hf
  rcases z_if_inv hf with ⟨h1, hf⟩ | ⟨h1, hf⟩
  · obtain ⟨r2, σ3, h4, hf⟩ := z_bd_inv hf
    rcases z_if_inv hf with ⟨h5, hf⟩ | ⟨h5, hf⟩
    · exact gx_go_ 7 [.inl 0, .inr (some (.int r2), σ3), .inl 1] [¬ ¬ (a1 = (6 : Int32)), E0 D 164 [.ref 109, .int (41 : Int32)] σ (some (.int r2)) σ3, r2 = 0] 58 [.ref 109, .int a1, .null] [] σ3 rfl ⟨(fun q => q h1), (ww_Md_isSign D (by omega) (41 : Int32) σ r2 σ3 h4), h5, trivial⟩ (gx_fgt (ls' := [.ref 109, .int a1, .null]) ⟨Or.inr rfl, Or.inr rfl, Or.inl rfl, trivial⟩ (vv_Md_goesOn_58 D hD rr σ' a1 σ3 hf))
    · obtain ⟨⟨⟩, σ7, h8, hf⟩ := z_bd_inv hf
      obtain ⟨⟨⟩, σ10, h11, hf⟩ := z_bd_inv hf
      obtain ⟨⟨⟩, σ13, h14, hf⟩ := z_bd_inv hf
      obtain ⟨e1, e2⟩ := z_ret hf
      subst e1
      subst e2
      exact gx_end 28 [.inl 0, .inr (some (.int r2), σ3), .inl 0, .inr (none, σ7), .inr (none, σ10), .inr (none, σ13)] [¬ ¬ (a1 = (6 : Int32)), E0 D 164 [.ref 109, .int (41 : Int32)] σ (some (.int r2)) σ3, ¬ (r2 = 0), E0 D 172 [.ref 109, .int (3 : Int32)] σ3 (none) σ7, E0 D 163 [.ref 109] (gx_up (gx_up σ7 109 22 ((σ7 109 22) - (1 : Int32))) 109 21 (((gx_up σ7 109 22 ((σ7 109 22) - (1 : Int32))) 109 21) - (1 : Int32))) (none) σ10, E0 D 178 [.ref 109] σ10 (none) σ13] rfl ⟨(fun q => q h1), (ww_Md_isSign D (by omega) (41 : Int32) σ r2 σ3 h4), h5, (ww_Md_works D (by omega) (3 : Int32) σ3 () σ7 h8), (ww_Md_next D (by omega) (gx_up (gx_up σ7 109 22 ((σ7 109 22) - (1 : Int32))) 109 21 (((gx_up σ7 109 22 ((σ7 109 22) - (1 : Int32))) 109 21) - (1 : Int32))) () σ10 h11), (ww_Md_oneIsOver D (by omega) σ10 () σ13 h14), trivial⟩
  · exact gx_go_ 3 [.inl 1] [¬ (a1 = (6 : Int32))] 58 [.ref 109, .int a1, .null] [] σ rfl ⟨h1, trivial⟩ (gx_fgt (ls' := [.ref 109, .int a1, .null]) ⟨Or.inr rfl, Or.inr rfl, Or.inl rfl, trivial⟩ (vv_Md_goesOn_58 D hD rr σ' a1 σ hf))
set_option maxHeartbeats 16000000 in
set_option maxRecDepth 20000 in
theorem vv_Md_goesOn_E (D : Nat) (hD : 5 ≤ D + 1) (rr : Unit) (σ' : gx_R) (σ : gx_R) (hf : Md_goesOn  σ = some (rr, σ')) : gx_Ev lay0 (E0 D) tt_182 none σ' 0 [.ref 109, .null, .null] [] σ := by
  unfold Md_goesOn at hf
  obtain ⟨r1, σ2, h3, hf⟩ := z_bd_inv hf
  rcases z_if_inv hf with ⟨h4, hf⟩ | ⟨h4, hf⟩
  · rcases z_if_inv hf with ⟨h5, hf⟩ | ⟨h5, hf⟩
    · exact gx_go_ 11 [.inr (some (.int r1), σ2), .inl 0, .inl 1] [E0 D 169 [.ref 109] σ (some (.int r1)) σ2, ¬ ¬ ((σ2 109 17) = (3 : Int32)), (σ2 109 18) = (43 : Int32)] 23 [.ref 109, .int r1, .null] [] σ2 rfl ⟨(ww_Md_top D (by omega) σ r1 σ2 h3), (fun q => q h4), h5, trivial⟩ (gx_fgt (ls' := [.ref 109, .null, .null]) ⟨Or.inr rfl, Or.inl rfl, Or.inl rfl, trivial⟩ (vv_Md_goesOn_23 D hD rr σ' σ2 hf))
    · rcases z_if_inv hf with ⟨h6, hf⟩ | ⟨h6, hf⟩
      · exact gx_go_ 15 [.inr (some (.int r1), σ2), .inl 0, .inl 0, .inl 1] [E0 D 169 [.ref 109] σ (some (.int r1)) σ2, ¬ ¬ ((σ2 109 17) = (3 : Int32)), ¬ ((σ2 109 18) = (43 : Int32)), (σ2 109 18) = (45 : Int32)] 23 [.ref 109, .int r1, .null] [] σ2 rfl ⟨(ww_Md_top D (by omega) σ r1 σ2 h3), (fun q => q h4), h5, h6, trivial⟩ (gx_fgt (ls' := [.ref 109, .null, .null]) ⟨Or.inr rfl, Or.inl rfl, Or.inl rfl, trivial⟩ (vv_Md_goesOn_23 D hD rr σ' σ2 hf))
      · rcases z_if_inv hf with ⟨h7, hf⟩ | ⟨h7, hf⟩
        · exact gx_go_ 19 [.inr (some (.int r1), σ2), .inl 0, .inl 0, .inl 0, .inl 1] [E0 D 169 [.ref 109] σ (some (.int r1)) σ2, ¬ ¬ ((σ2 109 17) = (3 : Int32)), ¬ ((σ2 109 18) = (43 : Int32)), ¬ ((σ2 109 18) = (45 : Int32)), (σ2 109 18) = (42 : Int32)] 23 [.ref 109, .int r1, .null] [] σ2 rfl ⟨(ww_Md_top D (by omega) σ r1 σ2 h3), (fun q => q h4), h5, h6, h7, trivial⟩ (gx_fgt (ls' := [.ref 109, .null, .null]) ⟨Or.inr rfl, Or.inl rfl, Or.inl rfl, trivial⟩ (vv_Md_goesOn_23 D hD rr σ' σ2 hf))
        · rcases z_if_inv hf with ⟨h8, hf⟩ | ⟨h8, hf⟩
          · exact gx_go_ 23 [.inr (some (.int r1), σ2), .inl 0, .inl 0, .inl 0, .inl 0, .inl 0] [E0 D 169 [.ref 109] σ (some (.int r1)) σ2, ¬ ¬ ((σ2 109 17) = (3 : Int32)), ¬ ((σ2 109 18) = (43 : Int32)), ¬ ((σ2 109 18) = (45 : Int32)), ¬ ((σ2 109 18) = (42 : Int32)), ¬ ¬ ((σ2 109 18) = (47 : Int32))] 23 [.ref 109, .int r1, .null] [] σ2 rfl ⟨(ww_Md_top D (by omega) σ r1 σ2 h3), (fun q => q h4), h5, h6, h7, (fun q => q h8), trivial⟩ (gx_fgt (ls' := [.ref 109, .null, .null]) ⟨Or.inr rfl, Or.inl rfl, Or.inl rfl, trivial⟩ (vv_Md_goesOn_23 D hD rr σ' σ2 hf))
          · exact gx_go_ 23 [.inr (some (.int r1), σ2), .inl 0, .inl 0, .inl 0, .inl 0, .inl 1] [E0 D 169 [.ref 109] σ (some (.int r1)) σ2, ¬ ¬ ((σ2 109 17) = (3 : Int32)), ¬ ((σ2 109 18) = (43 : Int32)), ¬ ((σ2 109 18) = (45 : Int32)), ¬ ((σ2 109 18) = (42 : Int32)), ¬ ((σ2 109 18) = (47 : Int32))] 31 [.ref 109, .int r1, .null] [] σ2 rfl ⟨(ww_Md_top D (by omega) σ r1 σ2 h3), (fun q => q h4), h5, h6, h7, h8, trivial⟩ (gx_fgt (ls' := [.ref 109, .int r1, .null]) ⟨Or.inr rfl, Or.inr rfl, Or.inl rfl, trivial⟩ (vv_Md_goesOn_31 D hD rr σ' r1 σ2 hf))
  · exact gx_go_ 7 [.inr (some (.int r1), σ2), .inl 1] [E0 D 169 [.ref 109] σ (some (.int r1)) σ2, ¬ ((σ2 109 17) = (3 : Int32))] 31 [.ref 109, .int r1, .null] [] σ2 rfl ⟨(ww_Md_top D (by omega) σ r1 σ2 h3), h4, trivial⟩ (gx_fgt (ls' := [.ref 109, .int r1, .null]) ⟨Or.inr rfl, Or.inr rfl, Or.inl rfl, trivial⟩ (vv_Md_goesOn_31 D hD rr σ' r1 σ2 hf))
set_option maxHeartbeats 16000000 in
set_option maxRecDepth 20000 in
theorem ww_Md_goesOn (D : Nat) (hD : 5 ≤ D) (σ : gx_R) (rr : Unit) (σ' : gx_R) (hf : Md_goesOn  σ = some (rr, σ')) : E0 D 182 [.ref 109] σ none σ' := by
  cases D with
  | zero => omega
  | succ D => exact Or.inl ⟨Nat.le_of_ble_eq_true rfl, vv_Md_goesOn_E D hD rr σ' σ hf⟩
set_option maxHeartbeats 16000000 in
set_option maxRecDepth 20000 in
theorem vv_Md_asksOn_37 (D : Nat) (hD : 5 ≤ D + 1) (rr : Unit) (σ' : gx_R) (σ : gx_R) (hf : Md_asksOn_37  σ = some (rr, σ')) : gx_Ev lay0 (E0 D) tt_183 none σ' 37 [.ref 109] [] σ := by
  unfold Md_asksOn_37 at hf
  obtain ⟨⟨⟩, σ2, h3, hf⟩ := z_bd_inv hf
  obtain ⟨e1, e2⟩ := z_ret hf
  subst e1
  subst e2
  exact gx_end 4 [.inr (none, σ2)] [E0 D 166 [.ref 109, .int (1 : Int32)] σ (none) σ2] rfl ⟨(ww_Md_errs D (by omega) (1 : Int32) σ () σ2 h3), trivial⟩
set_option maxHeartbeats 16000000 in
set_option maxRecDepth 20000 in
theorem vv_Md_asksOn_16 (D : Nat) (hD : 5 ≤ D + 1) (rr : Unit) (σ' : gx_R) (s1 : Int32) (σ : gx_R) (hf : Md_asksOn_16 s1 σ = some (rr, σ')) : gx_Ev lay0 (E0 D) tt_183 none σ' 16 [.ref 109] [.int s1, .ref 109] σ := by
  unfold Md_asksOn_16 at hf
  obtain ⟨⟨⟩, σ2, h3, hf⟩ := z_bd_inv hf
  obtain ⟨e1, e2⟩ := z_ret hf
  subst e1
  subst e2
  exact gx_end 6 [.inr (none, σ2)] [E0 D 173 [.ref 109, .int s1] σ (none) σ2] rfl ⟨(ww_Md_waitsFor D (by omega) s1 σ () σ2 h3), trivial⟩
set_option maxHeartbeats 16000000 in
set_option maxRecDepth 20000 in
theorem vv_Md_asksOn_8 (D : Nat) (hD : 5 ≤ D + 1) (rr : Unit) (σ' : gx_R) (σ : gx_R) (hf : Md_asksOn_8  σ = some (rr, σ')) : gx_Ev lay0 (E0 D) tt_183 none σ' 8 [.ref 109] [] σ := by
  unfold Md_asksOn_8 at hf
  obtain ⟨r1, σ2, h3, hf⟩ := z_bd_inv hf
  rcases z_if_inv hf with ⟨h4, hf⟩ | ⟨h4, hf⟩
  · exact gx_go_ 6 [.inr (some (.int r1), σ2), .inl 1] [E0 D 165 [.ref 109, .int (14 : Int32)] σ (some (.int r1)) σ2, r1 = 0] 16 [.ref 109] [.int (406 : Int32), .ref 109] σ2 rfl ⟨(ww_Md_isWord D (by omega) (14 : Int32) σ r1 σ2 h3), h4, trivial⟩ (gx_fgt (ls' := [.ref 109]) ⟨Or.inr rfl, trivial⟩ (vv_Md_asksOn_16 D hD rr σ' (406 : Int32) σ2 hf))
  · exact gx_go_ 7 [.inr (some (.int r1), σ2), .inl 0] [E0 D 165 [.ref 109, .int (14 : Int32)] σ (some (.int r1)) σ2, ¬ (r1 = 0)] 16 [.ref 109] [.int (407 : Int32), .ref 109] σ2 rfl ⟨(ww_Md_isWord D (by omega) (14 : Int32) σ r1 σ2 h3), h4, trivial⟩ (gx_fgt (ls' := [.ref 109]) ⟨Or.inr rfl, trivial⟩ (vv_Md_asksOn_16 D hD rr σ' (407 : Int32) σ2 hf))
set_option maxHeartbeats 16000000 in
set_option maxRecDepth 20000 in
theorem vv_Md_asksOn_E (D : Nat) (hD : 5 ≤ D + 1) (rr : Unit) (σ' : gx_R) (σ : gx_R) (hf : Md_asksOn  σ = some (rr, σ')) : gx_Ev lay0 (E0 D) tt_183 none σ' 0 [.ref 109] [] σ := by
  unfold Md_asksOn at hf
  obtain ⟨r1, σ2, h3, hf⟩ := z_bd_inv hf
  rcases z_if_inv hf with ⟨h4, hf⟩ | ⟨h4, hf⟩
  · obtain ⟨r5, σ6, h7, hf⟩ := z_bd_inv hf
    rcases z_if_inv hf with ⟨h8, hf⟩ | ⟨h8, hf⟩
    · obtain ⟨r9, σ10, h11, hf⟩ := z_bd_inv hf
      rcases z_if_inv hf with ⟨h12, hf⟩ | ⟨h12, hf⟩
      · obtain ⟨r13, σ14, h15, hf⟩ := z_bd_inv hf
        rcases z_if_inv hf with ⟨h16, hf⟩ | ⟨h16, hf⟩
        · exact gx_go_ 16 [.inr (some (.int r1), σ2), .inl 0, .inr (some (.int r5), σ6), .inl 1, .inr (some (.int r9), σ10), .inl 0, .inr (some (.int r13), σ14), .inl 1] [E0 D 165 [.ref 109, .int (14 : Int32)] σ (some (.int r1)) σ2, ¬ ¬ (r1 = 0), E0 D 165 [.ref 109, .int (15 : Int32)] σ2 (some (.int r5)) σ6, r5 = 0, E0 D 169 [.ref 109] σ6 (some (.int r9)) σ10, ¬ ¬ (r9 = (2 : Int32)), E0 D 165 [.ref 109, .int (18 : Int32)] σ10 (some (.int r13)) σ14, r13 = 0] 37 [.ref 109] [] σ14 rfl ⟨(ww_Md_isWord D (by omega) (14 : Int32) σ r1 σ2 h3), (fun q => q h4), (ww_Md_isWord D (by omega) (15 : Int32) σ2 r5 σ6 h7), h8, (ww_Md_top D (by omega) σ6 r9 σ10 h11), (fun q => q h12), (ww_Md_isWord D (by omega) (18 : Int32) σ10 r13 σ14 h15), h16, trivial⟩ (gx_fgt (ls' := [.ref 109]) ⟨Or.inr rfl, trivial⟩ (vv_Md_asksOn_37 D hD rr σ' σ14 hf))
        · obtain ⟨⟨⟩, σ18, h19, hf⟩ := z_bd_inv hf
          obtain ⟨⟨⟩, σ21, h22, hf⟩ := z_bd_inv hf
          obtain ⟨e1, e2⟩ := z_ret hf
          subst e1
          subst e2
          exact gx_end 25 [.inr (some (.int r1), σ2), .inl 0, .inr (some (.int r5), σ6), .inl 1, .inr (some (.int r9), σ10), .inl 0, .inr (some (.int r13), σ14), .inl 0, .inr (none, σ18), .inr (none, σ21)] [E0 D 165 [.ref 109, .int (14 : Int32)] σ (some (.int r1)) σ2, ¬ ¬ (r1 = 0), E0 D 165 [.ref 109, .int (15 : Int32)] σ2 (some (.int r5)) σ6, r5 = 0, E0 D 169 [.ref 109] σ6 (some (.int r9)) σ10, ¬ ¬ (r9 = (2 : Int32)), E0 D 165 [.ref 109, .int (18 : Int32)] σ10 (some (.int r13)) σ14, ¬ (r13 = 0), E0 D 172 [.ref 109, .int (1 : Int32)] σ14 (none) σ18, E0 D 181 [.ref 109, .int (8 : Int32), .int (403 : Int32)] σ18 (none) σ21] rfl ⟨(ww_Md_isWord D (by omega) (14 : Int32) σ r1 σ2 h3), (fun q => q h4), (ww_Md_isWord D (by omega) (15 : Int32) σ2 r5 σ6 h7), h8, (ww_Md_top D (by omega) σ6 r9 σ10 h11), (fun q => q h12), (ww_Md_isWord D (by omega) (18 : Int32) σ10 r13 σ14 h15), h16, (ww_Md_works D (by omega) (1 : Int32) σ14 () σ18 h19), (ww_Md_turnsTo D (by omega) (8 : Int32) (403 : Int32) σ18 () σ21 h22), trivial⟩
      · exact gx_go_ 12 [.inr (some (.int r1), σ2), .inl 0, .inr (some (.int r5), σ6), .inl 1, .inr (some (.int r9), σ10), .inl 1] [E0 D 165 [.ref 109, .int (14 : Int32)] σ (some (.int r1)) σ2, ¬ ¬ (r1 = 0), E0 D 165 [.ref 109, .int (15 : Int32)] σ2 (some (.int r5)) σ6, r5 = 0, E0 D 169 [.ref 109] σ6 (some (.int r9)) σ10, ¬ (r9 = (2 : Int32))] 37 [.ref 109] [] σ10 rfl ⟨(ww_Md_isWord D (by omega) (14 : Int32) σ r1 σ2 h3), (fun q => q h4), (ww_Md_isWord D (by omega) (15 : Int32) σ2 r5 σ6 h7), h8, (ww_Md_top D (by omega) σ6 r9 σ10 h11), h12, trivial⟩ (gx_fgt (ls' := [.ref 109]) ⟨Or.inr rfl, trivial⟩ (vv_Md_asksOn_37 D hD rr σ' σ10 hf))
    · exact gx_go_ 8 [.inr (some (.int r1), σ2), .inl 0, .inr (some (.int r5), σ6), .inl 0] [E0 D 165 [.ref 109, .int (14 : Int32)] σ (some (.int r1)) σ2, ¬ ¬ (r1 = 0), E0 D 165 [.ref 109, .int (15 : Int32)] σ2 (some (.int r5)) σ6, ¬ (r5 = 0)] 8 [.ref 109] [] σ6 rfl ⟨(ww_Md_isWord D (by omega) (14 : Int32) σ r1 σ2 h3), (fun q => q h4), (ww_Md_isWord D (by omega) (15 : Int32) σ2 r5 σ6 h7), h8, trivial⟩ (gx_fgt (ls' := [.ref 109]) ⟨Or.inr rfl, trivial⟩ (vv_Md_asksOn_8 D hD rr σ' σ6 hf))
  · exact gx_go_ 4 [.inr (some (.int r1), σ2), .inl 1] [E0 D 165 [.ref 109, .int (14 : Int32)] σ (some (.int r1)) σ2, ¬ (r1 = 0)] 8 [.ref 109] [] σ2 rfl ⟨(ww_Md_isWord D (by omega) (14 : Int32) σ r1 σ2 h3), h4, trivial⟩ (gx_fgt (ls' := [.ref 109]) ⟨Or.inr rfl, trivial⟩ (vv_Md_asksOn_8 D hD rr σ' σ2 hf))
set_option maxHeartbeats 16000000 in
set_option maxRecDepth 20000 in
theorem ww_Md_asksOn (D : Nat) (hD : 5 ≤ D) (σ : gx_R) (rr : Unit) (σ' : gx_R) (hf : Md_asksOn  σ = some (rr, σ')) : E0 D 183 [.ref 109] σ none σ' := by
  cases D with
  | zero => omega
  | succ D => exact Or.inl ⟨Nat.le_of_ble_eq_true rfl, vv_Md_asksOn_E D hD rr σ' σ hf⟩
set_option maxHeartbeats 16000000 in
set_option maxRecDepth 20000 in
theorem vv_Md_number_7 (D : Nat) (hD : 4 ≤ D + 1) (rr : Int32) (σ' : gx_R) (a1 : Int32) (σ : gx_R) (hf : Md_number_7 a1 σ = some (rr, σ')) : gx_Ev lay0 (E0 D) tt_185 (some (.int rr)) σ' 7 [.ref 109, .int a1, .null, .null] [] σ := by
  unfold Md_number_7 at hf
  obtain ⟨⟨⟩, σ2, h3, hf⟩ := z_bd_inv hf
  obtain ⟨e1, e2⟩ := z_ret hf
  subst e1
  subst e2
  exact gx_end 5 [.inr (none, σ2)] [E0 D 166 [.ref 109, .int (1 : Int32)] σ (none) σ2] rfl ⟨(ww_Md_errs D (by omega) (1 : Int32) σ () σ2 h3), trivial⟩
set_option maxHeartbeats 16000000 in
set_option maxRecDepth 20000 in
theorem vv_Md_number_E (D : Nat) (hD : 4 ≤ D + 1) (rr : Int32) (σ' : gx_R) (a1 : Int32) (a2 : Int32) (σ : gx_R) (hf : Md_number a1 a2 σ = some (rr, σ')) : gx_Ev lay0 (E0 D) tt_185 (some (.int rr)) σ' 0 [.ref 109, .int a1, .int a2, .null] [] σ := by
  unfold Md_number at hf
  rcases z_if_inv hf with ⟨h1, hf⟩ | ⟨h1, hf⟩
  · exact gx_go_ 3 [.inl 1] [0 < (σ 109 19)] 7 [.ref 109, .int a1, .int a2, .null] [] σ rfl ⟨h1, trivial⟩ (gx_fgt (ls' := [.ref 109, .int a1, .null, .null]) ⟨Or.inr rfl, Or.inr rfl, Or.inl rfl, Or.inl rfl, trivial⟩ (vv_Md_number_7 D hD rr σ' a1 σ hf))
  · rcases z_if_inv hf with ⟨h2, hf⟩ | ⟨h2, hf⟩
    · obtain ⟨r3, σ4, h5, hf⟩ := z_bd_inv hf
      rcases z_if_inv hf with ⟨h6, hf⟩ | ⟨h6, hf⟩
      · obtain ⟨⟨⟩, σ8, h9, hf⟩ := z_bd_inv hf
        obtain ⟨e1, e2⟩ := z_ret hf
        subst e1
        subst e2
        exact gx_end 18 [.inl 0, .inl 1, .inr (some (.int r3), σ4), .inl 0, .inr (none, σ8)] [¬ (0 < (σ 109 19)), (σ 109 17) = (2 : Int32), E0 D 145 [.int (σ 109 18), .int a1, .int a2] σ (some (.int r3)) σ4, ¬ ¬ (r3 = 0), E0 D 166 [.ref 109, .int (2 : Int32)] σ4 (none) σ8] rfl ⟨h1, h2, (ww_Md_in D (by omega) (σ 109 18) a1 a2 σ r3 σ4 h5), (fun q => q h6), (ww_Md_errs D (by omega) (2 : Int32) σ4 () σ8 h9), trivial⟩
      · obtain ⟨⟨⟩, σ11, h12, hf⟩ := z_bd_inv hf
        obtain ⟨e1, e2⟩ := z_ret hf
        subst e1
        subst e2
        exact gx_end 20 [.inl 0, .inl 1, .inr (some (.int r3), σ4), .inl 1, .inr (none, σ11)] [¬ (0 < (σ 109 19)), (σ 109 17) = (2 : Int32), E0 D 145 [.int (σ 109 18), .int a1, .int a2] σ (some (.int r3)) σ4, ¬ (r3 = 0), E0 D 163 [.ref 109] σ4 (none) σ11] rfl ⟨h1, h2, (ww_Md_in D (by omega) (σ 109 18) a1 a2 σ r3 σ4 h5), h6, (ww_Md_next D (by omega) σ4 () σ11 h12), trivial⟩
    · exact gx_go_ 7 [.inl 0, .inl 0] [¬ (0 < (σ 109 19)), ¬ ((σ 109 17) = (2 : Int32))] 7 [.ref 109, .int a1, .int a2, .null] [] σ rfl ⟨h1, h2, trivial⟩ (gx_fgt (ls' := [.ref 109, .int a1, .null, .null]) ⟨Or.inr rfl, Or.inr rfl, Or.inl rfl, Or.inl rfl, trivial⟩ (vv_Md_number_7 D hD rr σ' a1 σ hf))
set_option maxHeartbeats 16000000 in
set_option maxRecDepth 20000 in
theorem ww_Md_number (D : Nat) (hD : 4 ≤ D) (a1 : Int32) (a2 : Int32) (σ : gx_R) (rr : Int32) (σ' : gx_R) (hf : Md_number a1 a2 σ = some (rr, σ')) : E0 D 185 [.ref 109, .int a1, .int a2] σ (some (.int rr)) σ' := by
  cases D with
  | zero => omega
  | succ D => exact Or.inl ⟨Nat.le_of_ble_eq_true rfl, vv_Md_number_E D hD rr σ' a1 a2 σ hf⟩
set_option maxHeartbeats 16000000 in
set_option maxRecDepth 20000 in
theorem vv_Md_wasTold_16 (D : Nat) (hD : 1 ≤ D + 1) (rr : Int32) (σ' : gx_R) (K19 : Int32 → Int32 → Int32 → gx_R → Option (Int32 × gx_R)) (hK19 : ∀ (a1 : Int32) (a3 : Int32) (s0 : Int32) (σ : gx_R), K19 a1 a3 s0 σ = some (rr, σ') → gx_Ev lay0 (E0 D) tt_186 (some (.int rr)) σ' 19 [.ref 109, .int a1, .null, .int a3] [.int s0] σ) (a1 : Int32) (a3 : Int32) (σ : gx_R) (hf : Md_wasTold_16 K19 a1 a3 σ = some (rr, σ')) : gx_Ev lay0 (E0 D) tt_186 (some (.int rr)) σ' 16 [.ref 109, .int a1, .null, .int a3] [] σ := by
  unfold Md_wasTold_16 at hf
  exact gx_go_ 2 [] [] 19 [.ref 109, .int a1, .null, .int a3] [.int (1 : Int32)] σ rfl trivial (gx_fgt (ls' := [.ref 109, .int a1, .null, .int a3]) ⟨Or.inr rfl, Or.inr rfl, Or.inl rfl, Or.inr rfl, trivial⟩ (hK19 a1 a3 (1 : Int32) σ hf))
set_option maxHeartbeats 16000000 in
set_option maxRecDepth 20000 in
theorem vv_Md_wasTold_19 (D : Nat) (hD : 1 ≤ D + 1) (rr : Int32) (σ' : gx_R) (K4 : Int32 → Int32 → Int32 → gx_R → Option (Int32 × gx_R)) (hK4 : ∀ (a1 : Int32) (a2 : Int32) (a3 : Int32) (σ : gx_R), K4 a1 a2 a3 σ = some (rr, σ') → gx_Ev lay0 (E0 D) tt_186 (some (.int rr)) σ' 4 [.ref 109, .int a1, .int a2, .int a3] [] σ) (a1 : Int32) (a3 : Int32) (s0 : Int32) (σ : gx_R) (hf : Md_wasTold_19 K4 a1 a3 s0 σ = some (rr, σ')) : gx_Ev lay0 (E0 D) tt_186 (some (.int rr)) σ' 19 [.ref 109, .int a1, .null, .int a3] [.int s0] σ := by
  unfold Md_wasTold_19 at hf
  exact gx_go_ 3 [] [] 4 [.ref 109, .int a1, .int s0, .int (a3 + 1)] [] σ rfl trivial (gx_fgt (ls' := [.ref 109, .int a1, .int s0, .int (a3 + 1)]) ⟨Or.inr rfl, Or.inr rfl, Or.inr rfl, Or.inr rfl, trivial⟩ (hK4 a1 s0 (a3 + 1) σ hf))
set_option maxHeartbeats 16000000 in
set_option maxRecDepth 20000 in
theorem vv_Md_wasTold_4_B (D : Nat) (hD : 1 ≤ D + 1) (rr : Int32) (σ' : gx_R) (K4 : Int32 → Int32 → Int32 → gx_R → Option (Int32 × gx_R)) (hK4 : ∀ (a1 : Int32) (a2 : Int32) (a3 : Int32) (σ : gx_R), K4 a1 a2 a3 σ = some (rr, σ') → gx_Ev lay0 (E0 D) tt_186 (some (.int rr)) σ' 4 [.ref 109, .int a1, .int a2, .int a3] [] σ) (a1 : Int32) (a2 : Int32) (a3 : Int32) (σ : gx_R) (hf : Md_wasTold_4_B K4 a1 a2 a3 σ = some (rr, σ')) : gx_Ev lay0 (E0 D) tt_186 (some (.int rr)) σ' 4 [.ref 109, .int a1, .int a2, .int a3] [] σ := by
  unfold Md_wasTold_4_B at hf
  rcases z_if_inv hf with ⟨h1, hf⟩ | ⟨h1, hf⟩
  · obtain ⟨h2, hf⟩ := z_ck_inv hf
    obtain ⟨e1, e2⟩ := z_ret hf
    subst e1
    subst e2
    exact gx_end 6 [.inl 1] [(σ 109 30) ≤ a3, a2 &&& 1 = a2] rfl ⟨h1, (z_bo_in h2), trivial⟩
  · rcases z_if_inv hf with ⟨h3, hf⟩ | ⟨h3, hf⟩
    · obtain ⟨h4, hf⟩ := z_ck_inv hf
      rcases z_if_inv hf with ⟨h5, hf⟩ | ⟨h5, hf⟩
      · exact gx_go_ 12 [.inl 0, .inl 0, .inl 0] [¬ ((σ 109 30) ≤ a3), ¬ ¬ (a2 = 0), vp_in a3 24, ¬ ¬ ((σ 126 a3.toNatClampNeg) = a1)] 16 [.ref 109, .int a1, .int a2, .int a3] [] σ rfl ⟨h1, (fun q => q h3), (z_ix_in h4), (fun q => q h5), trivial⟩ (gx_fgt (ls' := [.ref 109, .int a1, .null, .int a3]) ⟨Or.inr rfl, Or.inr rfl, Or.inl rfl, Or.inr rfl, trivial⟩ (vv_Md_wasTold_16 D hD rr σ' (Md_wasTold_19 K4) (vv_Md_wasTold_19 D hD rr σ' K4 hK4) a1 a3 σ hf))
      · exact gx_go_ 13 [.inl 0, .inl 0, .inl 1] [¬ ((σ 109 30) ≤ a3), ¬ ¬ (a2 = 0), vp_in a3 24, ¬ ((σ 126 a3.toNatClampNeg) = a1)] 19 [.ref 109, .int a1, .int a2, .int a3] [.int (0 : Int32)] σ rfl ⟨h1, (fun q => q h3), (z_ix_in h4), h5, trivial⟩ (gx_fgt (ls' := [.ref 109, .int a1, .null, .int a3]) ⟨Or.inr rfl, Or.inr rfl, Or.inl rfl, Or.inr rfl, trivial⟩ (vv_Md_wasTold_19 D hD rr σ' K4 hK4 a1 a3 (0 : Int32) σ hf))
    · exact gx_go_ 6 [.inl 0, .inl 1] [¬ ((σ 109 30) ≤ a3), ¬ (a2 = 0)] 16 [.ref 109, .int a1, .int a2, .int a3] [] σ rfl ⟨h1, h3, trivial⟩ (gx_fgt (ls' := [.ref 109, .int a1, .null, .int a3]) ⟨Or.inr rfl, Or.inr rfl, Or.inl rfl, Or.inr rfl, trivial⟩ (vv_Md_wasTold_16 D hD rr σ' (Md_wasTold_19 K4) (vv_Md_wasTold_19 D hD rr σ' K4 hK4) a1 a3 σ hf))
set_option maxHeartbeats 16000000 in
set_option maxRecDepth 20000 in
theorem vv_Md_wasTold_4 (D : Nat) (hD : 1 ≤ D + 1) (rr : Int32) (σ' : gx_R) : ∀ (n : Nat) (a1 : Int32) (a2 : Int32) (a3 : Int32) (σ : gx_R), Md_wasTold_4 n a1 a2 a3 σ = some (rr, σ') → gx_Ev lay0 (E0 D) tt_186 (some (.int rr)) σ' 4 [.ref 109, .int a1, .int a2, .int a3] [] σ := by
  intro n
  induction n with
  | zero => intro a1 a2 a3 σ  hf; cases hf
  | succ n ih => intro a1 a2 a3 σ  hf; exact vv_Md_wasTold_4_B D hD rr σ'  (Md_wasTold_4 n) ih a1 a2 a3 σ  hf
set_option maxHeartbeats 16000000 in
set_option maxRecDepth 20000 in
theorem vv_Md_wasTold_E (D : Nat) (hD : 1 ≤ D + 1) (rr : Int32) (σ' : gx_R) (a1 : Int32) (σ : gx_R) (hf : Md_wasTold a1 σ = some (rr, σ')) : gx_Ev lay0 (E0 D) tt_186 (some (.int rr)) σ' 0 [.ref 109, .int a1, .null, .null] [] σ := by
  unfold Md_wasTold at hf
  exact gx_go_ 4 [] [] 4 [.ref 109, .int a1, .int (0 : Int32), .int (0 : Int32)] [] σ rfl trivial (gx_fgt (ls' := [.ref 109, .int a1, .int (0 : Int32), .int (0 : Int32)]) ⟨Or.inr rfl, Or.inr rfl, Or.inr rfl, Or.inr rfl, trivial⟩ (vv_Md_wasTold_4 D hD rr σ' z_FU a1 (0 : Int32) (0 : Int32) σ hf))
set_option maxHeartbeats 16000000 in
set_option maxRecDepth 20000 in
theorem ww_Md_wasTold (D : Nat) (hD : 1 ≤ D) (a1 : Int32) (σ : gx_R) (rr : Int32) (σ' : gx_R) (hf : Md_wasTold a1 σ = some (rr, σ')) : E0 D 186 [.ref 109, .int a1] σ (some (.int rr)) σ' := by
  cases D with
  | zero => omega
  | succ D => exact Or.inl ⟨Nat.le_of_ble_eq_true rfl, vv_Md_wasTold_E D hD rr σ' a1 σ hf⟩
set_option maxHeartbeats 16000000 in
set_option maxRecDepth 20000 in
theorem vv_Md_numberBehind_15 (D : Nat) (hD : 5 ≤ D + 1) (rr : Int32) (σ' : gx_R) (a2 : Int32) (a3 : Int32) (σ : gx_R) (hf : Md_numberBehind_15 a2 a3 σ = some (rr, σ')) : gx_Ev lay0 (E0 D) tt_187 (some (.int rr)) σ' 15 [.ref 109, .null, .int a2, .int a3] [] σ := by
  unfold Md_numberBehind_15 at hf
  obtain ⟨r1, σ2, h3, hf⟩ := z_bd_inv hf
  obtain ⟨e1, e2⟩ := z_ret hf
  subst e1
  subst e2
  exact gx_end 5 [.inr (some (.int r1), σ2)] [E0 D 185 [.ref 109, .int a2, .int a3] σ (some (.int r1)) σ2] rfl ⟨(ww_Md_number D (by omega) a2 a3 σ r1 σ2 h3), trivial⟩
set_option maxHeartbeats 16000000 in
set_option maxRecDepth 20000 in
theorem vv_Md_numberBehind_10 (D : Nat) (hD : 5 ≤ D + 1) (rr : Int32) (σ' : gx_R) (a2 : Int32) (a3 : Int32) (σ : gx_R) (hf : Md_numberBehind_10 a2 a3 σ = some (rr, σ')) : gx_Ev lay0 (E0 D) tt_187 (some (.int rr)) σ' 10 [.ref 109, .null, .int a2, .int a3] [] σ := by
  unfold Md_numberBehind_10 at hf
  rcases z_if_inv hf with ⟨h1, hf⟩ | ⟨h1, hf⟩
  · obtain ⟨⟨⟩, σ3, h4, hf⟩ := z_bd_inv hf
    exact gx_go_ 5 [.inl 0, .inr (none, σ3)] [¬ ¬ ((σ 109 19) = 0), E0 D 163 [.ref 109] σ (none) σ3] 15 [.ref 109, .null, .int a2, .int a3] [] σ3 rfl ⟨(fun q => q h1), (ww_Md_next D (by omega) σ () σ3 h4), trivial⟩ (gx_fgt (ls' := [.ref 109, .null, .int a2, .int a3]) ⟨Or.inr rfl, Or.inl rfl, Or.inr rfl, Or.inr rfl, trivial⟩ (vv_Md_numberBehind_15 D hD rr σ' a2 a3 σ3 hf))
  · exact gx_go_ 3 [.inl 1] [¬ ((σ 109 19) = 0)] 15 [.ref 109, .null, .int a2, .int a3] [] σ rfl ⟨h1, trivial⟩ (gx_fgt (ls' := [.ref 109, .null, .int a2, .int a3]) ⟨Or.inr rfl, Or.inl rfl, Or.inr rfl, Or.inr rfl, trivial⟩ (vv_Md_numberBehind_15 D hD rr σ' a2 a3 σ hf))
set_option maxHeartbeats 16000000 in
set_option maxRecDepth 20000 in
theorem vv_Md_numberBehind_E (D : Nat) (hD : 5 ≤ D + 1) (rr : Int32) (σ' : gx_R) (a1 : Int32) (a2 : Int32) (a3 : Int32) (σ : gx_R) (hf : Md_numberBehind a1 a2 a3 σ = some (rr, σ')) : gx_Ev lay0 (E0 D) tt_187 (some (.int rr)) σ' 0 [.ref 109, .int a1, .int a2, .int a3] [] σ := by
  unfold Md_numberBehind at hf
  rcases z_if_inv hf with ⟨h1, hf⟩ | ⟨h1, hf⟩
  · obtain ⟨r2, σ3, h4, hf⟩ := z_bd_inv hf
    rcases z_if_inv hf with ⟨h5, hf⟩ | ⟨h5, hf⟩
    · obtain ⟨⟨⟩, σ7, h8, hf⟩ := z_bd_inv hf
      exact gx_go_ 10 [.inl 0, .inr (some (.int r2), σ3), .inl 0, .inr (none, σ7)] [¬ ¬ ((σ 109 19) = 0), E0 D 165 [.ref 109, .int a1] σ (some (.int r2)) σ3, ¬ ¬ (r2 = 0), E0 D 166 [.ref 109, .int (1 : Int32)] σ3 (none) σ7] 10 [.ref 109, .int a1, .int a2, .int a3] [] σ7 rfl ⟨(fun q => q h1), (ww_Md_isWord D (by omega) a1 σ r2 σ3 h4), (fun q => q h5), (ww_Md_errs D (by omega) (1 : Int32) σ3 () σ7 h8), trivial⟩ (gx_fgt (ls' := [.ref 109, .null, .int a2, .int a3]) ⟨Or.inr rfl, Or.inl rfl, Or.inr rfl, Or.inr rfl, trivial⟩ (vv_Md_numberBehind_10 D hD rr σ' a2 a3 σ7 hf))
    · exact gx_go_ 7 [.inl 0, .inr (some (.int r2), σ3), .inl 1] [¬ ¬ ((σ 109 19) = 0), E0 D 165 [.ref 109, .int a1] σ (some (.int r2)) σ3, ¬ (r2 = 0)] 10 [.ref 109, .int a1, .int a2, .int a3] [] σ3 rfl ⟨(fun q => q h1), (ww_Md_isWord D (by omega) a1 σ r2 σ3 h4), h5, trivial⟩ (gx_fgt (ls' := [.ref 109, .null, .int a2, .int a3]) ⟨Or.inr rfl, Or.inl rfl, Or.inr rfl, Or.inr rfl, trivial⟩ (vv_Md_numberBehind_10 D hD rr σ' a2 a3 σ3 hf))
  · exact gx_go_ 3 [.inl 1] [¬ ((σ 109 19) = 0)] 10 [.ref 109, .int a1, .int a2, .int a3] [] σ rfl ⟨h1, trivial⟩ (gx_fgt (ls' := [.ref 109, .null, .int a2, .int a3]) ⟨Or.inr rfl, Or.inl rfl, Or.inr rfl, Or.inr rfl, trivial⟩ (vv_Md_numberBehind_10 D hD rr σ' a2 a3 σ hf))
set_option maxHeartbeats 16000000 in
set_option maxRecDepth 20000 in
theorem ww_Md_numberBehind (D : Nat) (hD : 5 ≤ D) (a1 : Int32) (a2 : Int32) (a3 : Int32) (σ : gx_R) (rr : Int32) (σ' : gx_R) (hf : Md_numberBehind a1 a2 a3 σ = some (rr, σ')) : E0 D 187 [.ref 109, .int a1, .int a2, .int a3] σ (some (.int rr)) σ' := by
  cases D with
  | zero => omega
  | succ D => exact Or.inl ⟨Nat.le_of_ble_eq_true rfl, vv_Md_numberBehind_E D hD rr σ' a1 a2 a3 σ hf⟩
set_option maxHeartbeats 16000000 in
set_option maxRecDepth 20000 in
theorem vv_Md_doing_62 (D : Nat) (hD : 6 ≤ D + 1) (rr : Unit) (σ' : gx_R) (a1 : Int32) (a2 : Int32) (a3 : Int32) (σ : gx_R) (hf : Md_doing_62 a1 a2 a3 σ = some (rr, σ')) : gx_Ev lay0 (E0 D) tt_188 none σ' 62 [.ref 109, .int a1, .int a2, .int a3] [] σ := by
  unfold Md_doing_62 at hf
  obtain ⟨h1, hf⟩ := z_ck_inv hf
  obtain ⟨h2, hf⟩ := z_ck_inv hf
  obtain ⟨h3, hf⟩ := z_ck_inv hf
  obtain ⟨e1, e2⟩ := z_ret hf
  subst e1
  subst e2
  exact gx_end 19 [] [vp_in (σ 109 30) 24, vp_in ((gx_up σ 128 (σ 109 30).toNatClampNeg a1) 109 30) 24, vp_in ((gx_up (gx_up σ 128 (σ 109 30).toNatClampNeg a1) 129 ((gx_up σ 128 (σ 109 30).toNatClampNeg a1) 109 30).toNatClampNeg a2) 109 30) 24] rfl ⟨(z_ix_in h1), (z_ix_in h2), (z_ix_in h3), trivial⟩
set_option maxHeartbeats 16000000 in
set_option maxRecDepth 20000 in
theorem vv_Md_doing_E (D : Nat) (hD : 6 ≤ D + 1) (rr : Unit) (σ' : gx_R) (σ : gx_R) (hf : Md_doing  σ = some (rr, σ')) : gx_Ev lay0 (E0 D) tt_188 none σ' 0 [.ref 109, .null, .null, .null] [] σ := by
  unfold Md_doing at hf
  rcases z_if_inv hf with ⟨h1, hf⟩ | ⟨h1, hf⟩
  · obtain ⟨r2, σ3, h4, hf⟩ := z_bd_inv hf
    obtain ⟨r5, σ6, h7, hf⟩ := z_bd_inv hf
    exact gx_go_ 21 [.inl 1, .inr (some (.int r2), σ3), .inr (some (.int r5), σ6)] [(σ 109 31).toInt = 4 + (0 : Nat), E0 D 185 [.ref 109, .int (0 : Int32), .int (7 : Int32)] σ (some (.int r2)) σ3, E0 D 187 [.ref 109, .int (10 : Int32), .int (0 : Int32), .int (5 : Int32)] σ3 (some (.int r5)) σ6] 62 [.ref 109, .int r2, .int r5, .int (-1 : Int32)] [] σ6 rfl ⟨(z_sw_in h1 (by decide)), (ww_Md_number D (by omega) (0 : Int32) (7 : Int32) σ r2 σ3 h4), (ww_Md_numberBehind D (by omega) (10 : Int32) (0 : Int32) (5 : Int32) σ3 r5 σ6 h7), trivial⟩ (gx_fgt (ls' := [.ref 109, .int r2, .int r5, .int (-1 : Int32)]) ⟨Or.inr rfl, Or.inr rfl, Or.inr rfl, Or.inr rfl, trivial⟩ (vv_Md_doing_62 D hD rr σ' r2 r5 (-1 : Int32) σ6 hf))
  · skip
    rcases z_if_inv hf with ⟨h8, hf⟩ | ⟨h8, hf⟩
    · obtain ⟨r9, σ10, h11, hf⟩ := z_bd_inv hf
      obtain ⟨r12, σ13, h14, hf⟩ := z_bd_inv hf
      exact gx_go_ 21 [.inl 2, .inr (some (.int r9), σ10), .inr (some (.int r12), σ13)] [(σ 109 31).toInt = 4 + (1 : Nat), E0 D 185 [.ref 109, .int (0 : Int32), .int (7 : Int32)] σ (some (.int r9)) σ10, E0 D 187 [.ref 109, .int (11 : Int32), .int (0 : Int32), .int (7 : Int32)] σ10 (some (.int r12)) σ13] 62 [.ref 109, .int r9, .int r12, .int (-1 : Int32)] [] σ13 rfl ⟨(z_sw_in h8 (by decide)), (ww_Md_number D (by omega) (0 : Int32) (7 : Int32) σ r9 σ10 h11), (ww_Md_numberBehind D (by omega) (11 : Int32) (0 : Int32) (7 : Int32) σ10 r12 σ13 h14), trivial⟩ (gx_fgt (ls' := [.ref 109, .int r9, .int r12, .int (-1 : Int32)]) ⟨Or.inr rfl, Or.inr rfl, Or.inr rfl, Or.inr rfl, trivial⟩ (vv_Md_doing_62 D hD rr σ' r9 r12 (-1 : Int32) σ13 hf))
    · skip
      rcases z_if_inv hf with ⟨h15, hf⟩ | ⟨h15, hf⟩
      · obtain ⟨r16, σ17, h18, hf⟩ := z_bd_inv hf
        obtain ⟨r19, σ20, h21, hf⟩ := z_bd_inv hf
        obtain ⟨r22, σ23, h24, hf⟩ := z_bd_inv hf
        exact gx_go_ 27 [.inl 5, .inr (some (.int r16), σ17), .inr (some (.int r19), σ20), .inr (some (.int r22), σ23)] [(σ 109 31).toInt = 4 + (4 : Nat), E0 D 185 [.ref 109, .int (0 : Int32), .int (7 : Int32)] σ (some (.int r16)) σ17, E0 D 187 [.ref 109, .int (12 : Int32), .int (0 : Int32), .int (7 : Int32)] σ17 (some (.int r19)) σ20, E0 D 187 [.ref 109, .int (13 : Int32), .int (1 : Int32), .int (99 : Int32)] σ20 (some (.int r22)) σ23] 62 [.ref 109, .int r16, .int r19, .int r22] [] σ23 rfl ⟨(z_sw_in h15 (by decide)), (ww_Md_number D (by omega) (0 : Int32) (7 : Int32) σ r16 σ17 h18), (ww_Md_numberBehind D (by omega) (12 : Int32) (0 : Int32) (7 : Int32) σ17 r19 σ20 h21), (ww_Md_numberBehind D (by omega) (13 : Int32) (1 : Int32) (99 : Int32) σ20 r22 σ23 h24), trivial⟩ (gx_fgt (ls' := [.ref 109, .int r16, .int r19, .int r22]) ⟨Or.inr rfl, Or.inr rfl, Or.inr rfl, Or.inr rfl, trivial⟩ (vv_Md_doing_62 D hD rr σ' r16 r19 r22 σ23 hf))
      · skip
        rcases z_if_inv hf with ⟨h25, hf⟩ | ⟨h25, hf⟩
        · obtain ⟨r26, σ27, h28, hf⟩ := z_bd_inv hf
          exact gx_go_ 15 [.inl 6, .inr (some (.int r26), σ27)] [(σ 109 31).toInt = 4 + (5 : Nat), E0 D 185 [.ref 109, .int (1 : Int32), .int (60 : Int32)] σ (some (.int r26)) σ27] 62 [.ref 109, .int r26, .int (-1 : Int32), .int (-1 : Int32)] [] σ27 rfl ⟨(z_sw_in h25 (by decide)), (ww_Md_number D (by omega) (1 : Int32) (60 : Int32) σ r26 σ27 h28), trivial⟩ (gx_fgt (ls' := [.ref 109, .int r26, .int (-1 : Int32), .int (-1 : Int32)]) ⟨Or.inr rfl, Or.inr rfl, Or.inr rfl, Or.inr rfl, trivial⟩ (vv_Md_doing_62 D hD rr σ' r26 (-1 : Int32) (-1 : Int32) σ27 hf))
        · skip
          refine gx_go_ 8 [] [] 8 [.ref 109, .int (0 : Int32), .int (-1 : Int32), .int (-1 : Int32)] [.int (σ 109 31)] σ rfl trivial ?_
          refine gx_sw (td := 57) (tt := [9, 21, 57, 57, 33, 51]) (lo := 4) rfl rfl ?_
          rw [gx_swt_df (td := 57) (tt := [9, 21, 57, 57, 33, 51]) (lo := 4) ⟨Or.inr (z_sw_ne h1 (by decide)), Or.inr (z_sw_ne h8 (by decide)), Or.inl rfl, Or.inl rfl, Or.inr (z_sw_ne h15 (by decide)), Or.inr (z_sw_ne h25 (by decide)), trivial⟩]
          obtain ⟨r30, σ31, h32, hf⟩ := z_bd_inv hf
          exact gx_go_ 5 [.inr (some (.int r30), σ31)] [E0 D 185 [.ref 109, .int (0 : Int32), .int (7 : Int32)] σ (some (.int r30)) σ31] 62 [.ref 109, .int r30, .int (-1 : Int32), .int (-1 : Int32)] [] σ31 rfl ⟨(ww_Md_number D (by omega) (0 : Int32) (7 : Int32) σ r30 σ31 h32), trivial⟩ (gx_fgt (ls' := [.ref 109, .int r30, .int (-1 : Int32), .int (-1 : Int32)]) ⟨Or.inr rfl, Or.inr rfl, Or.inr rfl, Or.inr rfl, trivial⟩ (vv_Md_doing_62 D hD rr σ' r30 (-1 : Int32) (-1 : Int32) σ31 hf))
set_option maxHeartbeats 16000000 in
set_option maxRecDepth 20000 in
theorem ww_Md_doing (D : Nat) (hD : 6 ≤ D) (σ : gx_R) (rr : Unit) (σ' : gx_R) (hf : Md_doing  σ = some (rr, σ')) : E0 D 188 [.ref 109] σ none σ' := by
  cases D with
  | zero => omega
  | succ D => exact Or.inl ⟨Nat.le_of_ble_eq_true rfl, vv_Md_doing_E D hD rr σ' σ hf⟩
