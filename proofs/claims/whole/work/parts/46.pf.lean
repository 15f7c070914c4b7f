set_option maxHeartbeats 16000000 in
set_option maxRecDepth 20000 in
theorem vv_Md_hourDone_E (D : Nat) (hD : 7 ≤ D + 1) (rr : Int32) (σ' : gx_R) (σ : gx_R) (hf : Md_hourDone  σ = some (rr, σ')) : gx_Ev lay0 (E0 D) tt_214 (some (.int rr)) σ' 0 [.ref 109, .null] [] σ := by
  unfold Md_hourDone at hf
  obtain ⟨⟨⟩, σ2, h3, hf⟩ := z_bd_inv hf
  obtain ⟨r4, σ5, h6, hf⟩ := z_bd_inv hf
  obtain ⟨⟨⟩, σ8, h9, hf⟩ := z_bd_inv hf
  obtain ⟨⟨⟩, σ11, h12, hf⟩ := z_bd_inv hf
  obtain ⟨e1, e2⟩ := z_ret hf
  subst e1
  subst e2
  exact gx_end 11 [.inr (none, σ2), .inr (some (.int r4), σ5), .inr (none, σ8), .inr (none, σ11)] [E0 D 198 [.ref 109] σ (none) σ2, E0 D 212 [.ref 109] σ2 (some (.int r4)) σ5, E0 D 213 [.ref 109] σ5 (none) σ8, E0 D 199 [.ref 109] σ8 (none) σ11] rfl ⟨(ww_Md_laysNow D (by omega) σ () σ2 h3), (ww_Md_hourGoes D (by omega) σ2 r4 σ5 h6), (ww_Md_keepsHour D (by omega) σ5 () σ8 h9), (ww_Md_keepsNow D (by omega) σ8 () σ11 h12), trivial⟩
set_option maxHeartbeats 16000000 in
set_option maxRecDepth 20000 in
theorem ww_Md_hourDone (D : Nat) (hD : 7 ≤ D) (σ : gx_R) (rr : Int32) (σ' : gx_R) (hf : Md_hourDone  σ = some (rr, σ')) : E0 D 214 [.ref 109] σ (some (.int rr)) σ' := by
  cases D with
  | zero => omega
  | succ D => exact Or.inl ⟨Nat.le_of_ble_eq_true rfl, vv_Md_hourDone_E D hD rr σ' σ hf⟩
set_option maxHeartbeats 16000000 in
set_option maxRecDepth 20000 in
theorem vv_Md_hour_19_B (D : Nat) (hD : 8 ≤ D + 1) (rr : Int32) (σ' : gx_R) (K19 : Int32 → Int32 → Int32 → gx_R → Option (Int32 × gx_R)) (hK19 : ∀ (a1 : Int32) (a2 : Int32) (a3 : Int32) (σ : gx_R), K19 a1 a2 a3 σ = some (rr, σ') → gx_Ev lay0 (E0 D) tt_215 (some (.int rr)) σ' 19 [.ref 109, .int a1, .int a2, .int a3] [] σ) (a1 : Int32) (a2 : Int32) (a3 : Int32) (σ : gx_R) (hf : Md_hour_19_B K19 a1 a2 a3 σ = some (rr, σ')) : gx_Ev lay0 (E0 D) tt_215 (some (.int rr)) σ' 19 [.ref 109, .int a1, .int a2, .int a3] [] σ := by
  unfold Md_hour_19_B at hf
  rcases z_if_inv hf with ⟨h1, hf⟩ | ⟨h1, hf⟩
  · obtain ⟨e1, e2⟩ := z_ret hf
    subst e1
    subst e2
    exact gx_end 5 [.inl 1] [a1 ≤ a3] rfl ⟨h1, trivial⟩
  · obtain ⟨⟨⟩, σ3, h4, hf⟩ := z_bd_inv hf
    obtain ⟨r5, σ6, h7, hf⟩ := z_bd_inv hf
    exact gx_go_ 12 [.inl 0, .inr (none, σ3), .inr (some (.int r5), σ6)] [¬ (a1 ≤ a3), E0 D 156 [.ref 109] σ (none) σ3, E0 D 214 [.ref 109] σ3 (some (.int r5)) σ6] 19 [.ref 109, .int a1, .int (a2 + r5), .int (a3 + 1)] [] σ6 rfl ⟨h1, (ww_Md_keepsStep D (by omega) σ () σ3 h4), (ww_Md_hourDone D (by omega) σ3 r5 σ6 h7), trivial⟩ (gx_fgt (ls' := [.ref 109, .int a1, .int (a2 + r5), .int (a3 + 1)]) ⟨Or.inr rfl, Or.inr rfl, Or.inr rfl, Or.inr rfl, trivial⟩ (hK19 a1 (a2 + r5) (a3 + 1) σ6 hf))
set_option maxHeartbeats 16000000 in
set_option maxRecDepth 20000 in
theorem vv_Md_hour_19 (D : Nat) (hD : 8 ≤ D + 1) (rr : Int32) (σ' : gx_R) : ∀ (n : Nat) (a1 : Int32) (a2 : Int32) (a3 : Int32) (σ : gx_R), Md_hour_19 n a1 a2 a3 σ = some (rr, σ') → gx_Ev lay0 (E0 D) tt_215 (some (.int rr)) σ' 19 [.ref 109, .int a1, .int a2, .int a3] [] σ := by
  intro n
  induction n with
  | zero => intro a1 a2 a3 σ  hf; cases hf
  | succ n ih => intro a1 a2 a3 σ  hf; exact vv_Md_hour_19_B D hD rr σ'  (Md_hour_19 n) ih a1 a2 a3 σ  hf
set_option maxHeartbeats 16000000 in
set_option maxRecDepth 20000 in
theorem vv_Md_hour_E (D : Nat) (hD : 8 ≤ D + 1) (rr : Int32) (σ' : gx_R) (a1 : Int32) (σ : gx_R) (hf : Md_hour a1 σ = some (rr, σ')) : gx_Ev lay0 (E0 D) tt_215 (some (.int rr)) σ' 0 [.ref 109, .int a1, .null, .null] [] σ := by
  unfold Md_hour at hf
  obtain ⟨r1, σ2, h3, hf⟩ := z_bd_inv hf
  rcases z_if_inv hf with ⟨h4, hf⟩ | ⟨h4, hf⟩
  · obtain ⟨e1, e2⟩ := z_ret hf
    subst e1
    subst e2
    exact gx_end 7 [.inr (some (.int r1), σ2), .inl 1] [E0 D 145 [.int a1, .int (1 : Int32), .int (60 : Int32)] σ (some (.int r1)) σ2, r1 = 0] rfl ⟨(ww_Md_in D (by omega) a1 (1 : Int32) (60 : Int32) σ r1 σ2 h3), h4, trivial⟩
  · rcases z_if_inv hf with ⟨h5, hf⟩ | ⟨h5, hf⟩
    · exact gx_go_ 17 [.inr (some (.int r1), σ2), .inl 0, .inl 1] [E0 D 145 [.int a1, .int (1 : Int32), .int (60 : Int32)] σ (some (.int r1)) σ2, ¬ (r1 = 0), vp_in (162 : Int32) 8880, ((σ2 110 ((162 : Int32).toNatClampNeg)) + a1) ≤ (999 : Int32)] 19 [.ref 109, .int a1, .int (0 : Int32), .int (0 : Int32)] [] σ2 rfl ⟨(ww_Md_in D (by omega) a1 (1 : Int32) (60 : Int32) σ r1 σ2 h3), h4, (z_ix_in rfl), h5, trivial⟩ (gx_fgt (ls' := [.ref 109, .int a1, .int (0 : Int32), .int (0 : Int32)]) ⟨Or.inr rfl, Or.inr rfl, Or.inr rfl, Or.inr rfl, trivial⟩ (vv_Md_hour_19 D hD rr σ' z_FU a1 (0 : Int32) (0 : Int32) σ2 hf))
    · obtain ⟨e1, e2⟩ := z_ret hf
      subst e1
      subst e2
      exact gx_end 15 [.inr (some (.int r1), σ2), .inl 0, .inl 0] [E0 D 145 [.int a1, .int (1 : Int32), .int (60 : Int32)] σ (some (.int r1)) σ2, ¬ (r1 = 0), vp_in (162 : Int32) 8880, ¬ (((σ2 110 ((162 : Int32).toNatClampNeg)) + a1) ≤ (999 : Int32))] rfl ⟨(ww_Md_in D (by omega) a1 (1 : Int32) (60 : Int32) σ r1 σ2 h3), h4, (z_ix_in rfl), h5, trivial⟩
set_option maxHeartbeats 16000000 in
set_option maxRecDepth 20000 in
theorem ww_Md_hour (D : Nat) (hD : 8 ≤ D) (a1 : Int32) (σ : gx_R) (rr : Int32) (σ' : gx_R) (hf : Md_hour a1 σ = some (rr, σ')) : E0 D 215 [.ref 109, .int a1] σ (some (.int rr)) σ' := by
  cases D with
  | zero => omega
  | succ D => exact Or.inl ⟨Nat.le_of_ble_eq_true rfl, vv_Md_hour_E D hD rr σ' a1 σ hf⟩
set_option maxHeartbeats 16000000 in
set_option maxRecDepth 20000 in
theorem vv_Md_isAt_E (D : Nat) (hD : 3 ≤ D + 1) (rr : Int32) (σ' : gx_R) (a1 : Int32) (a2 : Int32) (σ : gx_R) (hf : Md_isAt a1 a2 σ = some (rr, σ')) : gx_Ev lay0 (E0 D) tt_216 (some (.int rr)) σ' 0 [.ref 109, .int a1, .int a2] [] σ := by
  unfold Md_isAt at hf
  obtain ⟨r1, σ2, h3, hf⟩ := z_bd_inv hf
  rcases z_if_inv hf with ⟨h4, hf⟩ | ⟨h4, hf⟩
  · obtain ⟨e1, e2⟩ := z_ret hf
    subst e1
    subst e2
    exact gx_end 6 [.inr (some (.int r1), σ2), .inl 1] [E0 D 149 [.ref 109, .int a1] σ (some (.int r1)) σ2, r1 = 0, (0 : Int32) &&& 1 = (0 : Int32)] rfl ⟨(ww_Md_isPerson D (by omega) a1 σ r1 σ2 h3), h4, rfl, trivial⟩
  · obtain ⟨h5, hf⟩ := z_ck_inv hf
    rcases z_if_inv hf with ⟨h6, hf⟩ | ⟨h6, hf⟩
    · obtain ⟨e1, e2⟩ := z_ret hf
      subst e1
      subst e2
      exact gx_end 15 [.inr (some (.int r1), σ2), .inl 0, .inl 0] [E0 D 149 [.ref 109, .int a1] σ (some (.int r1)) σ2, ¬ (r1 = 0), vp_in ((60 : Int32) + a1) 8880, ¬ ¬ ((σ2 110 (((60 : Int32) + a1).toNatClampNeg)) = a2), (1 : Int32) &&& 1 = (1 : Int32)] rfl ⟨(ww_Md_isPerson D (by omega) a1 σ r1 σ2 h3), h4, (z_ix_in h5), (fun q => q h6), rfl, trivial⟩
    · obtain ⟨e1, e2⟩ := z_ret hf
      subst e1
      subst e2
      exact gx_end 14 [.inr (some (.int r1), σ2), .inl 0, .inl 1] [E0 D 149 [.ref 109, .int a1] σ (some (.int r1)) σ2, ¬ (r1 = 0), vp_in ((60 : Int32) + a1) 8880, ¬ ((σ2 110 (((60 : Int32) + a1).toNatClampNeg)) = a2), (0 : Int32) &&& 1 = (0 : Int32)] rfl ⟨(ww_Md_isPerson D (by omega) a1 σ r1 σ2 h3), h4, (z_ix_in h5), h6, rfl, trivial⟩
set_option maxHeartbeats 16000000 in
set_option maxRecDepth 20000 in
theorem ww_Md_isAt (D : Nat) (hD : 3 ≤ D) (a1 : Int32) (a2 : Int32) (σ : gx_R) (rr : Int32) (σ' : gx_R) (hf : Md_isAt a1 a2 σ = some (rr, σ')) : E0 D 216 [.ref 109, .int a1, .int a2] σ (some (.int rr)) σ' := by
  cases D with
  | zero => omega
  | succ D => exact Or.inl ⟨Nat.le_of_ble_eq_true rfl, vv_Md_isAt_E D hD rr σ' a1 a2 σ hf⟩
set_option maxHeartbeats 16000000 in
set_option maxRecDepth 20000 in
theorem vv_Md_beginsTo_E (D : Nat) (hD : 1 ≤ D + 1) (rr : Unit) (σ' : gx_R) (a1 : Int32) (a2 : Int32) (a3 : Int32) (σ : gx_R) (hf : Md_beginsTo a1 a2 a3 σ = some (rr, σ')) : gx_Ev lay0 (E0 D) tt_217 none σ' 0 [.ref 109, .int a1, .int a2, .int a3] [] σ := by
  unfold Md_beginsTo at hf
  obtain ⟨h1, hf⟩ := z_ck_inv hf
  obtain ⟨h2, hf⟩ := z_ck_inv hf
  obtain ⟨h3, hf⟩ := z_ck_inv hf
  obtain ⟨e1, e2⟩ := z_ret hf
  subst e1
  subst e2
  exact gx_end 22 [] [vp_in ((60 : Int32) + a1) 8880, vp_in ((68 : Int32) + a1) 8880, vp_in ((76 : Int32) + a1) 8880] rfl ⟨(z_ix_in h1), (z_ix_in h2), (z_ix_in h3), trivial⟩
set_option maxHeartbeats 16000000 in
set_option maxRecDepth 20000 in
theorem ww_Md_beginsTo (D : Nat) (hD : 1 ≤ D) (a1 : Int32) (a2 : Int32) (a3 : Int32) (σ : gx_R) (rr : Unit) (σ' : gx_R) (hf : Md_beginsTo a1 a2 a3 σ = some (rr, σ')) : E0 D 217 [.ref 109, .int a1, .int a2, .int a3] σ none σ' := by
  cases D with
  | zero => omega
  | succ D => exact Or.inl ⟨Nat.le_of_ble_eq_true rfl, vv_Md_beginsTo_E D hD rr σ' a1 a2 a3 σ hf⟩
set_option maxHeartbeats 16000000 in
set_option maxRecDepth 20000 in
theorem vv_Md_wake_E (D : Nat) (hD : 4 ≤ D + 1) (rr : Int32) (σ' : gx_R) (a1 : Int32) (a2 : Int32) (σ : gx_R) (hf : Md_wake a1 a2 σ = some (rr, σ')) : gx_Ev lay0 (E0 D) tt_218 (some (.int rr)) σ' 0 [.ref 109, .int a1, .int a2] [] σ := by
  unfold Md_wake at hf
  obtain ⟨r1, σ2, h3, hf⟩ := z_bd_inv hf
  rcases z_if_inv hf with ⟨h4, hf⟩ | ⟨h4, hf⟩
  · obtain ⟨e1, e2⟩ := z_ret hf
    subst e1
    subst e2
    exact gx_end 7 [.inr (some (.int r1), σ2), .inl 1] [E0 D 216 [.ref 109, .int a1, .int (0 : Int32)] σ (some (.int r1)) σ2, r1 = 0, (0 : Int32) &&& 1 = (0 : Int32)] rfl ⟨(ww_Md_isAt D (by omega) a1 (0 : Int32) σ r1 σ2 h3), h4, rfl, trivial⟩
  · obtain ⟨r5, σ6, h7, hf⟩ := z_bd_inv hf
    rcases z_if_inv hf with ⟨h8, hf⟩ | ⟨h8, hf⟩
    · obtain ⟨e1, e2⟩ := z_ret hf
      subst e1
      subst e2
      exact gx_end 11 [.inr (some (.int r1), σ2), .inl 0, .inr (some (.int r5), σ6), .inl 0] [E0 D 216 [.ref 109, .int a1, .int (0 : Int32)] σ (some (.int r1)) σ2, ¬ (r1 = 0), E0 D 150 [.ref 109, .int a2] σ2 (some (.int r5)) σ6, ¬ ¬ (r5 = 0), (0 : Int32) &&& 1 = (0 : Int32)] rfl ⟨(ww_Md_isAt D (by omega) a1 (0 : Int32) σ r1 σ2 h3), h4, (ww_Md_isWork D (by omega) a2 σ2 r5 σ6 h7), (fun q => q h8), rfl, trivial⟩
    · obtain ⟨⟨⟩, σ10, h11, hf⟩ := z_bd_inv hf
      obtain ⟨⟨⟩, σ13, h14, hf⟩ := z_bd_inv hf
      obtain ⟨e1, e2⟩ := z_ret hf
      subst e1
      subst e2
      exact gx_end 18 [.inr (some (.int r1), σ2), .inl 0, .inr (some (.int r5), σ6), .inl 1, .inr (none, σ10), .inr (none, σ13)] [E0 D 216 [.ref 109, .int a1, .int (0 : Int32)] σ (some (.int r1)) σ2, ¬ (r1 = 0), E0 D 150 [.ref 109, .int a2] σ2 (some (.int r5)) σ6, ¬ (r5 = 0), E0 D 156 [.ref 109] σ6 (none) σ10, E0 D 217 [.ref 109, .int a1, .int (1 : Int32), .int a2] σ10 (none) σ13, (1 : Int32) &&& 1 = (1 : Int32)] rfl ⟨(ww_Md_isAt D (by omega) a1 (0 : Int32) σ r1 σ2 h3), h4, (ww_Md_isWork D (by omega) a2 σ2 r5 σ6 h7), h8, (ww_Md_keepsStep D (by omega) σ6 () σ10 h11), (ww_Md_beginsTo D (by omega) a1 (1 : Int32) a2 σ10 () σ13 h14), rfl, trivial⟩
set_option maxHeartbeats 16000000 in
set_option maxRecDepth 20000 in
theorem ww_Md_wake (D : Nat) (hD : 4 ≤ D) (a1 : Int32) (a2 : Int32) (σ : gx_R) (rr : Int32) (σ' : gx_R) (hf : Md_wake a1 a2 σ = some (rr, σ')) : E0 D 218 [.ref 109, .int a1, .int a2] σ (some (.int rr)) σ' := by
  cases D with
  | zero => omega
  | succ D => exact Or.inl ⟨Nat.le_of_ble_eq_true rfl, vv_Md_wake_E D hD rr σ' a1 a2 σ hf⟩
set_option maxHeartbeats 16000000 in
set_option maxRecDepth 20000 in
theorem vv_Md_sleep_E (D : Nat) (hD : 4 ≤ D + 1) (rr : Int32) (σ' : gx_R) (a1 : Int32) (a2 : Int32) (σ : gx_R) (hf : Md_sleep a1 a2 σ = some (rr, σ')) : gx_Ev lay0 (E0 D) tt_219 (some (.int rr)) σ' 0 [.ref 109, .int a1, .int a2] [] σ := by
  unfold Md_sleep at hf
  obtain ⟨r1, σ2, h3, hf⟩ := z_bd_inv hf
  rcases z_if_inv hf with ⟨h4, hf⟩ | ⟨h4, hf⟩
  · obtain ⟨e1, e2⟩ := z_ret hf
    subst e1
    subst e2
    exact gx_end 7 [.inr (some (.int r1), σ2), .inl 1] [E0 D 216 [.ref 109, .int a1, .int (0 : Int32)] σ (some (.int r1)) σ2, r1 = 0, (0 : Int32) &&& 1 = (0 : Int32)] rfl ⟨(ww_Md_isAt D (by omega) a1 (0 : Int32) σ r1 σ2 h3), h4, rfl, trivial⟩
  · obtain ⟨r5, σ6, h7, hf⟩ := z_bd_inv hf
    rcases z_if_inv hf with ⟨h8, hf⟩ | ⟨h8, hf⟩
    · obtain ⟨e1, e2⟩ := z_ret hf
      subst e1
      subst e2
      exact gx_end 11 [.inr (some (.int r1), σ2), .inl 0, .inr (some (.int r5), σ6), .inl 1] [E0 D 216 [.ref 109, .int a1, .int (0 : Int32)] σ (some (.int r1)) σ2, ¬ (r1 = 0), E0 D 149 [.ref 109, .int a2] σ2 (some (.int r5)) σ6, r5 = 0, (0 : Int32) &&& 1 = (0 : Int32)] rfl ⟨(ww_Md_isAt D (by omega) a1 (0 : Int32) σ r1 σ2 h3), h4, (ww_Md_isPerson D (by omega) a2 σ2 r5 σ6 h7), h8, rfl, trivial⟩
    · obtain ⟨h9, hf⟩ := z_ck_inv hf
      obtain ⟨r10, σ11, h12, hf⟩ := z_bd_inv hf
      rcases z_if_inv hf with ⟨h13, hf⟩ | ⟨h13, hf⟩
      · obtain ⟨e1, e2⟩ := z_ret hf
        subst e1
        subst e2
        exact gx_end 20 [.inr (some (.int r1), σ2), .inl 0, .inr (some (.int r5), σ6), .inl 0, .inr (some (.int r10), σ11), .inl 0] [E0 D 216 [.ref 109, .int a1, .int (0 : Int32)] σ (some (.int r1)) σ2, ¬ (r1 = 0), E0 D 149 [.ref 109, .int a2] σ2 (some (.int r5)) σ6, ¬ (r5 = 0), vp_in ((26 : Int32) + a1) 8880, E0 D 146 [.int (σ6 110 (((26 : Int32) + a1).toNatClampNeg)), .int a2] σ6 (some (.int r10)) σ11, ¬ ¬ (r10 = 0), (0 : Int32) &&& 1 = (0 : Int32)] rfl ⟨(ww_Md_isAt D (by omega) a1 (0 : Int32) σ r1 σ2 h3), h4, (ww_Md_isPerson D (by omega) a2 σ2 r5 σ6 h7), h8, (z_ix_in h9), (ww_Md_has D (by omega) (σ6 110 (((26 : Int32) + a1).toNatClampNeg)) a2 σ6 r10 σ11 h12), (fun q => q h13), rfl, trivial⟩
      · obtain ⟨⟨⟩, σ15, h16, hf⟩ := z_bd_inv hf
        obtain ⟨⟨⟩, σ18, h19, hf⟩ := z_bd_inv hf
        obtain ⟨e1, e2⟩ := z_ret hf
        subst e1
        subst e2
        exact gx_end 27 [.inr (some (.int r1), σ2), .inl 0, .inr (some (.int r5), σ6), .inl 0, .inr (some (.int r10), σ11), .inl 1, .inr (none, σ15), .inr (none, σ18)] [E0 D 216 [.ref 109, .int a1, .int (0 : Int32)] σ (some (.int r1)) σ2, ¬ (r1 = 0), E0 D 149 [.ref 109, .int a2] σ2 (some (.int r5)) σ6, ¬ (r5 = 0), vp_in ((26 : Int32) + a1) 8880, E0 D 146 [.int (σ6 110 (((26 : Int32) + a1).toNatClampNeg)), .int a2] σ6 (some (.int r10)) σ11, ¬ (r10 = 0), E0 D 156 [.ref 109] σ11 (none) σ15, E0 D 217 [.ref 109, .int a1, .int (2 : Int32), .int a2] σ15 (none) σ18, (1 : Int32) &&& 1 = (1 : Int32)] rfl ⟨(ww_Md_isAt D (by omega) a1 (0 : Int32) σ r1 σ2 h3), h4, (ww_Md_isPerson D (by omega) a2 σ2 r5 σ6 h7), h8, (z_ix_in h9), (ww_Md_has D (by omega) (σ6 110 (((26 : Int32) + a1).toNatClampNeg)) a2 σ6 r10 σ11 h12), h13, (ww_Md_keepsStep D (by omega) σ11 () σ15 h16), (ww_Md_beginsTo D (by omega) a1 (2 : Int32) a2 σ15 () σ18 h19), rfl, trivial⟩
set_option maxHeartbeats 16000000 in
set_option maxRecDepth 20000 in
theorem ww_Md_sleep (D : Nat) (hD : 4 ≤ D) (a1 : Int32) (a2 : Int32) (σ : gx_R) (rr : Int32) (σ' : gx_R) (hf : Md_sleep a1 a2 σ = some (rr, σ')) : E0 D 219 [.ref 109, .int a1, .int a2] σ (some (.int rr)) σ' := by
  cases D with
  | zero => omega
  | succ D => exact Or.inl ⟨Nat.le_of_ble_eq_true rfl, vv_Md_sleep_E D hD rr σ' a1 a2 σ hf⟩
set_option maxHeartbeats 16000000 in
set_option maxRecDepth 20000 in
theorem vv_Md_idle_E (D : Nat) (hD : 3 ≤ D + 1) (rr : Int32) (σ' : gx_R) (a1 : Int32) (σ : gx_R) (hf : Md_idle a1 σ = some (rr, σ')) : gx_Ev lay0 (E0 D) tt_220 (some (.int rr)) σ' 0 [.ref 109, .int a1] [] σ := by
  unfold Md_idle at hf
  obtain ⟨r1, σ2, h3, hf⟩ := z_bd_inv hf
  rcases z_if_inv hf with ⟨h4, hf⟩ | ⟨h4, hf⟩
  · obtain ⟨e1, e2⟩ := z_ret hf
    subst e1
    subst e2
    exact gx_end 6 [.inr (some (.int r1), σ2), .inl 1] [E0 D 149 [.ref 109, .int a1] σ (some (.int r1)) σ2, r1 = 0, (0 : Int32) &&& 1 = (0 : Int32)] rfl ⟨(ww_Md_isPerson D (by omega) a1 σ r1 σ2 h3), h4, rfl, trivial⟩
  · obtain ⟨h5, hf⟩ := z_ck_inv hf
    rcases z_if_inv hf with ⟨h6, hf⟩ | ⟨h6, hf⟩
    · obtain ⟨e1, e2⟩ := z_ret hf
      subst e1
      subst e2
      exact gx_end 13 [.inr (some (.int r1), σ2), .inl 0, .inl 0] [E0 D 149 [.ref 109, .int a1] σ (some (.int r1)) σ2, ¬ (r1 = 0), vp_in ((60 : Int32) + a1) 8880, ¬ ¬ ((σ2 110 (((60 : Int32) + a1).toNatClampNeg)) = 0), (0 : Int32) &&& 1 = (0 : Int32)] rfl ⟨(ww_Md_isPerson D (by omega) a1 σ r1 σ2 h3), h4, (z_ix_in h5), (fun q => q h6), rfl, trivial⟩
    · obtain ⟨⟨⟩, σ8, h9, hf⟩ := z_bd_inv hf
      obtain ⟨⟨⟩, σ11, h12, hf⟩ := z_bd_inv hf
      obtain ⟨e1, e2⟩ := z_ret hf
      subst e1
      subst e2
      exact gx_end 20 [.inr (some (.int r1), σ2), .inl 0, .inl 1, .inr (none, σ8), .inr (none, σ11)] [E0 D 149 [.ref 109, .int a1] σ (some (.int r1)) σ2, ¬ (r1 = 0), vp_in ((60 : Int32) + a1) 8880, ¬ ((σ2 110 (((60 : Int32) + a1).toNatClampNeg)) = 0), E0 D 156 [.ref 109] σ2 (none) σ8, E0 D 217 [.ref 109, .int a1, .int (0 : Int32), .int (-1 : Int32)] σ8 (none) σ11, (1 : Int32) &&& 1 = (1 : Int32)] rfl ⟨(ww_Md_isPerson D (by omega) a1 σ r1 σ2 h3), h4, (z_ix_in h5), h6, (ww_Md_keepsStep D (by omega) σ2 () σ8 h9), (ww_Md_beginsTo D (by omega) a1 (0 : Int32) (-1 : Int32) σ8 () σ11 h12), rfl, trivial⟩
set_option maxHeartbeats 16000000 in
set_option maxRecDepth 20000 in
theorem ww_Md_idle (D : Nat) (hD : 3 ≤ D) (a1 : Int32) (σ : gx_R) (rr : Int32) (σ' : gx_R) (hf : Md_idle a1 σ = some (rr, σ')) : E0 D 220 [.ref 109, .int a1] σ (some (.int rr)) σ' := by
  cases D with
  | zero => omega
  | succ D => exact Or.inl ⟨Nat.le_of_ble_eq_true rfl, vv_Md_idle_E D hD rr σ' a1 σ hf⟩
set_option maxHeartbeats 16000000 in
set_option maxRecDepth 20000 in
theorem vv_Md_calls_E (D : Nat) (hD : 6 ≤ D + 1) (rr : Int32) (σ' : gx_R) (a1 : Int32) (σ : gx_R) (hf : Md_calls a1 σ = some (rr, σ')) : gx_Ev lay0 (E0 D) tt_221 (some (.int rr)) σ' 0 [.ref 109, .int a1, .null] [] σ := by
  unfold Md_calls at hf
  obtain ⟨⟨⟩, σ2, h3, hf⟩ := z_bd_inv hf
  obtain ⟨r4, σ5, h6, hf⟩ := z_bd_inv hf
  obtain ⟨⟨⟩, σ8, h9, hf⟩ := z_bd_inv hf
  obtain ⟨⟨⟩, σ11, h12, hf⟩ := z_bd_inv hf
  obtain ⟨r13, σ14, h15, hf⟩ := z_bd_inv hf
  obtain ⟨e1, e2⟩ := z_ret hf
  subst e1
  subst e2
  exact gx_end 17 [.inr (none, σ2), .inr (some (.int r4), σ5), .inr (none, σ8), .inr (none, σ11), .inr (some (.int r13), σ14)] [E0 D 198 [.ref 109] σ (none) σ2, E0 D 209 [.ref 109, .int ((1 : Int32) <<< (a1 &&& 31)), .int (0 : Int32)] σ2 (some (.int r4)) σ5, E0 D 211 [.ref 109, .int r4] σ5 (none) σ8, E0 D 199 [.ref 109] σ8 (none) σ11, E0 D 147 [.int r4] σ11 (some (.int r13)) σ14] rfl ⟨(ww_Md_laysNow D (by omega) σ () σ2 h3), (ww_Md_wakesOn D (by omega) ((1 : Int32) <<< (a1 &&& 31)) (0 : Int32) σ2 r4 σ5 h6), (ww_Md_idles D (by omega) r4 σ5 () σ8 h9), (ww_Md_keepsNow D (by omega) σ8 () σ11 h12), (ww_Md_many D (by omega) r4 σ11 r13 σ14 h15), trivial⟩
set_option maxHeartbeats 16000000 in
set_option maxRecDepth 20000 in
theorem ww_Md_calls (D : Nat) (hD : 6 ≤ D) (a1 : Int32) (σ : gx_R) (rr : Int32) (σ' : gx_R) (hf : Md_calls a1 σ = some (rr, σ')) : E0 D 221 [.ref 109, .int a1] σ (some (.int rr)) σ' := by
  cases D with
  | zero => omega
  | succ D => exact Or.inl ⟨Nat.le_of_ble_eq_true rfl, vv_Md_calls_E D hD rr σ' a1 σ hf⟩
set_option maxHeartbeats 16000000 in
set_option maxRecDepth 20000 in
theorem vv_Md_call_E (D : Nat) (hD : 7 ≤ D + 1) (rr : Int32) (σ' : gx_R) (a1 : Int32) (σ : gx_R) (hf : Md_call a1 σ = some (rr, σ')) : gx_Ev lay0 (E0 D) tt_222 (some (.int rr)) σ' 0 [.ref 109, .int a1] [] σ := by
  unfold Md_call at hf
  obtain ⟨r1, σ2, h3, hf⟩ := z_bd_inv hf
  rcases z_if_inv hf with ⟨h4, hf⟩ | ⟨h4, hf⟩
  · obtain ⟨e1, e2⟩ := z_ret hf
    subst e1
    subst e2
    exact gx_end 7 [.inr (some (.int r1), σ2), .inl 0] [E0 D 216 [.ref 109, .int a1, .int (2 : Int32)] σ (some (.int r1)) σ2, ¬ ¬ (r1 = 0)] rfl ⟨(ww_Md_isAt D (by omega) a1 (2 : Int32) σ r1 σ2 h3), (fun q => q h4), trivial⟩
  · obtain ⟨⟨⟩, σ6, h7, hf⟩ := z_bd_inv hf
    obtain ⟨r8, σ9, h10, hf⟩ := z_bd_inv hf
    obtain ⟨e1, e2⟩ := z_ret hf
    subst e1
    subst e2
    exact gx_end 11 [.inr (some (.int r1), σ2), .inl 1, .inr (none, σ6), .inr (some (.int r8), σ9)] [E0 D 216 [.ref 109, .int a1, .int (2 : Int32)] σ (some (.int r1)) σ2, ¬ (r1 = 0), E0 D 156 [.ref 109] σ2 (none) σ6, E0 D 221 [.ref 109, .int a1] σ6 (some (.int r8)) σ9] rfl ⟨(ww_Md_isAt D (by omega) a1 (2 : Int32) σ r1 σ2 h3), h4, (ww_Md_keepsStep D (by omega) σ2 () σ6 h7), (ww_Md_calls D (by omega) a1 σ6 r8 σ9 h10), trivial⟩
set_option maxHeartbeats 16000000 in
set_option maxRecDepth 20000 in
theorem ww_Md_call (D : Nat) (hD : 7 ≤ D) (a1 : Int32) (σ : gx_R) (rr : Int32) (σ' : gx_R) (hf : Md_call a1 σ = some (rr, σ')) : E0 D 222 [.ref 109, .int a1] σ (some (.int rr)) σ' := by
  cases D with
  | zero => omega
  | succ D => exact Or.inl ⟨Nat.le_of_ble_eq_true rfl, vv_Md_call_E D hD rr σ' a1 σ hf⟩
set_option maxHeartbeats 16000000 in
set_option maxRecDepth 20000 in
theorem vv_Md_repay_E (D : Nat) (hD : 3 ≤ D + 1) (rr : Int32) (σ' : gx_R) (a1 : Int32) (a2 : Int32) (a3 : Int32) (σ : gx_R) (hf : Md_repay a1 a2 a3 σ = some (rr, σ')) : gx_Ev lay0 (E0 D) tt_223 (some (.int rr)) σ' 0 [.ref 109, .int a1, .int a2, .int a3] [] σ := by
  unfold Md_repay at hf
  obtain ⟨r1, σ2, h3, hf⟩ := z_bd_inv hf
  rcases z_if_inv hf with ⟨h4, hf⟩ | ⟨h4, hf⟩
  · obtain ⟨e1, e2⟩ := z_ret hf
    subst e1
    subst e2
    exact gx_end 6 [.inr (some (.int r1), σ2), .inl 1] [E0 D 149 [.ref 109, .int a1] σ (some (.int r1)) σ2, r1 = 0] rfl ⟨(ww_Md_isPerson D (by omega) a1 σ r1 σ2 h3), h4, trivial⟩
  · obtain ⟨r5, σ6, h7, hf⟩ := z_bd_inv hf
    rcases z_if_inv hf with ⟨h8, hf⟩ | ⟨h8, hf⟩
    · obtain ⟨e1, e2⟩ := z_ret hf
      subst e1
      subst e2
      exact gx_end 10 [.inr (some (.int r1), σ2), .inl 0, .inr (some (.int r5), σ6), .inl 1] [E0 D 149 [.ref 109, .int a1] σ (some (.int r1)) σ2, ¬ (r1 = 0), E0 D 149 [.ref 109, .int a2] σ2 (some (.int r5)) σ6, r5 = 0] rfl ⟨(ww_Md_isPerson D (by omega) a1 σ r1 σ2 h3), h4, (ww_Md_isPerson D (by omega) a2 σ2 r5 σ6 h7), h8, trivial⟩
    · rcases z_if_inv hf with ⟨h9, hf⟩ | ⟨h9, hf⟩
      · obtain ⟨e1, e2⟩ := z_ret hf
        subst e1
        subst e2
        exact gx_end 13 [.inr (some (.int r1), σ2), .inl 0, .inr (some (.int r5), σ6), .inl 0, .inl 1] [E0 D 149 [.ref 109, .int a1] σ (some (.int r1)) σ2, ¬ (r1 = 0), E0 D 149 [.ref 109, .int a2] σ2 (some (.int r5)) σ6, ¬ (r5 = 0), a1 = a2] rfl ⟨(ww_Md_isPerson D (by omega) a1 σ r1 σ2 h3), h4, (ww_Md_isPerson D (by omega) a2 σ2 r5 σ6 h7), h8, h9, trivial⟩
      · obtain ⟨h10, hf⟩ := z_ck_inv hf
        obtain ⟨r11, σ12, h13, hf⟩ := z_bd_inv hf
        rcases z_if_inv hf with ⟨h14, hf⟩ | ⟨h14, hf⟩
        · obtain ⟨e1, e2⟩ := z_ret hf
          subst e1
          subst e2
          exact gx_end 27 [.inr (some (.int r1), σ2), .inl 0, .inr (some (.int r5), σ6), .inl 0, .inl 0, .inr (some (.int r11), σ12), .inl 0] [E0 D 149 [.ref 109, .int a1] σ (some (.int r1)) σ2, ¬ (r1 = 0), E0 D 149 [.ref 109, .int a2] σ2 (some (.int r5)) σ6, ¬ (r5 = 0), ¬ (a1 = a2), vp_in (((98 : Int32) + ((8 : Int32) * a1)) + a2) 8880, E0 D 145 [.int a3, .int (1 : Int32), .int (σ6 110 ((((98 : Int32) + ((8 : Int32) * a1)) + a2).toNatClampNeg))] σ6 (some (.int r11)) σ12, ¬ ¬ (r11 = 0)] rfl ⟨(ww_Md_isPerson D (by omega) a1 σ r1 σ2 h3), h4, (ww_Md_isPerson D (by omega) a2 σ2 r5 σ6 h7), h8, h9, (z_ix_in h10), (ww_Md_in D (by omega) a3 (1 : Int32) (σ6 110 ((((98 : Int32) + ((8 : Int32) * a1)) + a2).toNatClampNeg)) σ6 r11 σ12 h13), (fun q => q h14), trivial⟩
        · obtain ⟨⟨⟩, σ16, h17, hf⟩ := z_bd_inv hf
          obtain ⟨h18, hf⟩ := z_ck_inv hf
          obtain ⟨h19, hf⟩ := z_ck_inv hf
          obtain ⟨h20, hf⟩ := z_ck_inv hf
          obtain ⟨e1, e2⟩ := z_ret hf
          subst e1
          subst e2
          exact gx_end 52 [.inr (some (.int r1), σ2), .inl 0, .inr (some (.int r5), σ6), .inl 0, .inl 0, .inr (some (.int r11), σ12), .inl 1, .inr (none, σ16)] [E0 D 149 [.ref 109, .int a1] σ (some (.int r1)) σ2, ¬ (r1 = 0), E0 D 149 [.ref 109, .int a2] σ2 (some (.int r5)) σ6, ¬ (r5 = 0), ¬ (a1 = a2), vp_in (((98 : Int32) + ((8 : Int32) * a1)) + a2) 8880, E0 D 145 [.int a3, .int (1 : Int32), .int (σ6 110 ((((98 : Int32) + ((8 : Int32) * a1)) + a2).toNatClampNeg))] σ6 (some (.int r11)) σ12, ¬ (r11 = 0), E0 D 156 [.ref 109] σ12 (none) σ16, vp_in (((98 : Int32) + ((8 : Int32) * a1)) + a2) 8880, vp_in (((98 : Int32) + ((8 : Int32) * a1)) + a2) 8880, vp_in (((98 : Int32) + ((8 : Int32) * a1)) + a2) 8880] rfl ⟨(ww_Md_isPerson D (by omega) a1 σ r1 σ2 h3), h4, (ww_Md_isPerson D (by omega) a2 σ2 r5 σ6 h7), h8, h9, (z_ix_in h10), (ww_Md_in D (by omega) a3 (1 : Int32) (σ6 110 ((((98 : Int32) + ((8 : Int32) * a1)) + a2).toNatClampNeg)) σ6 r11 σ12 h13), h14, (ww_Md_keepsStep D (by omega) σ12 () σ16 h17), (z_ix_in h18), (z_ix_in h19), (z_ix_in h20), trivial⟩
set_option maxHeartbeats 16000000 in
set_option maxRecDepth 20000 in
theorem ww_Md_repay (D : Nat) (hD : 3 ≤ D) (a1 : Int32) (a2 : Int32) (a3 : Int32) (σ : gx_R) (rr : Int32) (σ' : gx_R) (hf : Md_repay a1 a2 a3 σ = some (rr, σ')) : E0 D 223 [.ref 109, .int a1, .int a2, .int a3] σ (some (.int rr)) σ' := by
  cases D with
  | zero => omega
  | succ D => exact Or.inl ⟨Nat.le_of_ble_eq_true rfl, vv_Md_repay_E D hD rr σ' a1 a2 a3 σ hf⟩
set_option maxHeartbeats 16000000 in
set_option maxRecDepth 20000 in
theorem vv_Md_draw_E (D : Nat) (hD : 1 ≤ D + 1) (rr : Int32) (σ' : gx_R) (a1 : Int32) (σ : gx_R) (hf : Md_draw a1 σ = some (rr, σ')) : gx_Ev lay0 (E0 D) tt_224 (some (.int rr)) σ' 0 [.ref 109, .int a1, .null] [] σ := by
  unfold Md_draw at hf
  obtain ⟨h1, hf⟩ := z_ck_inv hf
  obtain ⟨e1, e2⟩ := z_ret hf
  subst e1
  subst e2
  exact gx_end 23 [] [vp_in (163 : Int32) 8880, ¬ a1 = 0, vp_in (163 : Int32) 8880, ¬ (30211 : Int32) = 0, vp_in (163 : Int32) 8880] rfl ⟨(z_ix_in rfl), (z_nzi_in h1), (z_ix_in rfl), (by decide), (z_ix_in rfl), trivial⟩
set_option maxHeartbeats 16000000 in
set_option maxRecDepth 20000 in
theorem ww_Md_draw (D : Nat) (hD : 1 ≤ D) (a1 : Int32) (σ : gx_R) (rr : Int32) (σ' : gx_R) (hf : Md_draw a1 σ = some (rr, σ')) : E0 D 224 [.ref 109, .int a1] σ (some (.int rr)) σ' := by
  cases D with
  | zero => omega
  | succ D => exact Or.inl ⟨Nat.le_of_ble_eq_true rfl, vv_Md_draw_E D hD rr σ' a1 σ hf⟩
set_option maxHeartbeats 16000000 in
set_option maxRecDepth 20000 in
theorem vv_Md_lowestFor_30 (D : Nat) (hD : 2 ≤ D + 1) (rr : Int32) (σ' : gx_R) (K31 : Int32 → Int32 → Int32 → gx_R → Option (Int32 × gx_R)) (hK31 : ∀ (a1 : Int32) (a3 : Int32) (s0 : Int32) (σ : gx_R), K31 a1 a3 s0 σ = some (rr, σ') → gx_Ev lay0 (E0 D) tt_225 (some (.int rr)) σ' 31 [.ref 109, .int a1, .null, .int a3] [.int s0] σ) (a1 : Int32) (a2 : Int32) (a3 : Int32) (σ : gx_R) (hf : Md_lowestFor_30 K31 a1 a2 a3 σ = some (rr, σ')) : gx_Ev lay0 (E0 D) tt_225 (some (.int rr)) σ' 30 [.ref 109, .int a1, .int a2, .int a3] [] σ := by
  unfold Md_lowestFor_30 at hf
  exact gx_go_ 1 [] [] 31 [.ref 109, .int a1, .int a2, .int a3] [.int a2] σ rfl trivial (gx_fgt (ls' := [.ref 109, .int a1, .null, .int a3]) ⟨Or.inr rfl, Or.inr rfl, Or.inl rfl, Or.inr rfl, trivial⟩ (hK31 a1 a3 a2 σ hf))
set_option maxHeartbeats 16000000 in
set_option maxRecDepth 20000 in
theorem vv_Md_lowestFor_31 (D : Nat) (hD : 2 ≤ D + 1) (rr : Int32) (σ' : gx_R) (K9 : Int32 → Int32 → Int32 → gx_R → Option (Int32 × gx_R)) (hK9 : ∀ (a1 : Int32) (a2 : Int32) (a3 : Int32) (σ : gx_R), K9 a1 a2 a3 σ = some (rr, σ') → gx_Ev lay0 (E0 D) tt_225 (some (.int rr)) σ' 9 [.ref 109, .int a1, .int a2, .int a3] [] σ) (a1 : Int32) (a3 : Int32) (s0 : Int32) (σ : gx_R) (hf : Md_lowestFor_31 K9 a1 a3 s0 σ = some (rr, σ')) : gx_Ev lay0 (E0 D) tt_225 (some (.int rr)) σ' 31 [.ref 109, .int a1, .null, .int a3] [.int s0] σ := by
  unfold Md_lowestFor_31 at hf
  exact gx_go_ 3 [] [] 9 [.ref 109, .int a1, .int s0, .int (a3 + (-1))] [] σ rfl trivial (gx_fgt (ls' := [.ref 109, .int a1, .int s0, .int (a3 + (-1))]) ⟨Or.inr rfl, Or.inr rfl, Or.inr rfl, Or.inr rfl, trivial⟩ (hK9 a1 s0 (a3 + (-1)) σ hf))
set_option maxHeartbeats 16000000 in
set_option maxRecDepth 20000 in
theorem vv_Md_lowestFor_9_B (D : Nat) (hD : 2 ≤ D + 1) (rr : Int32) (σ' : gx_R) (K9 : Int32 → Int32 → Int32 → gx_R → Option (Int32 × gx_R)) (hK9 : ∀ (a1 : Int32) (a2 : Int32) (a3 : Int32) (σ : gx_R), K9 a1 a2 a3 σ = some (rr, σ') → gx_Ev lay0 (E0 D) tt_225 (some (.int rr)) σ' 9 [.ref 109, .int a1, .int a2, .int a3] [] σ) (a1 : Int32) (a2 : Int32) (a3 : Int32) (σ : gx_R) (hf : Md_lowestFor_9_B K9 a1 a2 a3 σ = some (rr, σ')) : gx_Ev lay0 (E0 D) tt_225 (some (.int rr)) σ' 9 [.ref 109, .int a1, .int a2, .int a3] [] σ := by
  unfold Md_lowestFor_9_B at hf
  rcases z_if_inv hf with ⟨h1, hf⟩ | ⟨h1, hf⟩
  · obtain ⟨e1, e2⟩ := z_ret hf
    subst e1
    subst e2
    exact gx_end 4 [.inl 1] [a3 < 0] rfl ⟨h1, trivial⟩
  · obtain ⟨h2, hf⟩ := z_ck_inv hf
    obtain ⟨r3, σ4, h5, hf⟩ := z_bd_inv hf
    rcases z_if_inv hf with ⟨h6, hf⟩ | ⟨h6, hf⟩
    · exact gx_go_ 11 [.inl 0, .inr (some (.int r3), σ4), .inl 1] [¬ (a3 < 0), vp_in ((26 : Int32) + a1) 8880, E0 D 146 [.int (σ 110 (((26 : Int32) + a1).toNatClampNeg)), .int a3] σ (some (.int r3)) σ4, r3 = 0] 30 [.ref 109, .int a1, .int a2, .int a3] [] σ4 rfl ⟨h1, (z_ix_in h2), (ww_Md_has D (by omega) (σ 110 (((26 : Int32) + a1).toNatClampNeg)) a3 σ r3 σ4 h5), h6, trivial⟩ (gx_fgt (ls' := [.ref 109, .int a1, .int a2, .int a3]) ⟨Or.inr rfl, Or.inr rfl, Or.inr rfl, Or.inr rfl, trivial⟩ (vv_Md_lowestFor_30 D hD rr σ' (Md_lowestFor_31 K9) (vv_Md_lowestFor_31 D hD rr σ' K9 hK9) a1 a2 a3 σ4 hf))
    · obtain ⟨h7, hf⟩ := z_ck_inv hf
      rcases z_if_inv hf with ⟨h8, hf⟩ | ⟨h8, hf⟩
      · exact gx_go_ 21 [.inl 0, .inr (some (.int r3), σ4), .inl 0, .inl 0] [¬ (a3 < 0), vp_in ((26 : Int32) + a1) 8880, E0 D 146 [.int (σ 110 (((26 : Int32) + a1).toNatClampNeg)), .int a3] σ (some (.int r3)) σ4, ¬ (r3 = 0), vp_in ((60 : Int32) + a3) 8880, ¬ ¬ ((σ4 110 (((60 : Int32) + a3).toNatClampNeg)) = (1 : Int32))] 31 [.ref 109, .int a1, .int a2, .int a3] [.int a3] σ4 rfl ⟨h1, (z_ix_in h2), (ww_Md_has D (by omega) (σ 110 (((26 : Int32) + a1).toNatClampNeg)) a3 σ r3 σ4 h5), h6, (z_ix_in h7), (fun q => q h8), trivial⟩ (gx_fgt (ls' := [.ref 109, .int a1, .null, .int a3]) ⟨Or.inr rfl, Or.inr rfl, Or.inl rfl, Or.inr rfl, trivial⟩ (vv_Md_lowestFor_31 D hD rr σ' K9 hK9 a1 a3 a3 σ4 hf))
      · exact gx_go_ 19 [.inl 0, .inr (some (.int r3), σ4), .inl 0, .inl 1] [¬ (a3 < 0), vp_in ((26 : Int32) + a1) 8880, E0 D 146 [.int (σ 110 (((26 : Int32) + a1).toNatClampNeg)), .int a3] σ (some (.int r3)) σ4, ¬ (r3 = 0), vp_in ((60 : Int32) + a3) 8880, ¬ ((σ4 110 (((60 : Int32) + a3).toNatClampNeg)) = (1 : Int32))] 30 [.ref 109, .int a1, .int a2, .int a3] [] σ4 rfl ⟨h1, (z_ix_in h2), (ww_Md_has D (by omega) (σ 110 (((26 : Int32) + a1).toNatClampNeg)) a3 σ r3 σ4 h5), h6, (z_ix_in h7), h8, trivial⟩ (gx_fgt (ls' := [.ref 109, .int a1, .int a2, .int a3]) ⟨Or.inr rfl, Or.inr rfl, Or.inr rfl, Or.inr rfl, trivial⟩ (vv_Md_lowestFor_30 D hD rr σ' (Md_lowestFor_31 K9) (vv_Md_lowestFor_31 D hD rr σ' K9 hK9) a1 a2 a3 σ4 hf))
set_option maxHeartbeats 16000000 in
set_option maxRecDepth 20000 in
theorem vv_Md_lowestFor_9 (D : Nat) (hD : 2 ≤ D + 1) (rr : Int32) (σ' : gx_R) : ∀ (n : Nat) (a1 : Int32) (a2 : Int32) (a3 : Int32) (σ : gx_R), Md_lowestFor_9 n a1 a2 a3 σ = some (rr, σ') → gx_Ev lay0 (E0 D) tt_225 (some (.int rr)) σ' 9 [.ref 109, .int a1, .int a2, .int a3] [] σ := by
  intro n
  induction n with
  | zero => intro a1 a2 a3 σ  hf; cases hf
  | succ n ih => intro a1 a2 a3 σ  hf; exact vv_Md_lowestFor_9_B D hD rr σ'  (Md_lowestFor_9 n) ih a1 a2 a3 σ  hf
set_option maxHeartbeats 16000000 in
set_option maxRecDepth 20000 in
theorem vv_Md_lowestFor_E (D : Nat) (hD : 2 ≤ D + 1) (rr : Int32) (σ' : gx_R) (a1 : Int32) (σ : gx_R) (hf : Md_lowestFor a1 σ = some (rr, σ')) : gx_Ev lay0 (E0 D) tt_225 (some (.int rr)) σ' 0 [.ref 109, .int a1, .null, .null] [] σ := by
  unfold Md_lowestFor at hf
  exact gx_go_ 9 [] [vp_in (0 : Int32) 8880] 9 [.ref 109, .int a1, .int (-1 : Int32), .int ((σ 110 ((0 : Int32).toNatClampNeg)) - (1 : Int32))] [] σ rfl ⟨(z_ix_in rfl), trivial⟩ (gx_fgt (ls' := [.ref 109, .int a1, .int (-1 : Int32), .int ((σ 110 ((0 : Int32).toNatClampNeg)) - (1 : Int32))]) ⟨Or.inr rfl, Or.inr rfl, Or.inr rfl, Or.inr rfl, trivial⟩ (vv_Md_lowestFor_9 D hD rr σ' z_FU a1 (-1 : Int32) ((σ 110 ((0 : Int32).toNatClampNeg)) - (1 : Int32)) σ hf))
set_option maxHeartbeats 16000000 in
set_option maxRecDepth 20000 in
theorem ww_Md_lowestFor (D : Nat) (hD : 2 ≤ D) (a1 : Int32) (σ : gx_R) (rr : Int32) (σ' : gx_R) (hf : Md_lowestFor a1 σ = some (rr, σ')) : E0 D 225 [.ref 109, .int a1] σ (some (.int rr)) σ' := by
  cases D with
  | zero => omega
  | succ D => exact Or.inl ⟨Nat.le_of_ble_eq_true rfl, vv_Md_lowestFor_E D hD rr σ' a1 σ hf⟩
set_option maxHeartbeats 16000000 in
set_option maxRecDepth 20000 in
theorem vv_Md_happens_70 (D : Nat) (hD : 8 ≤ D + 1) (rr : Int32) (σ' : gx_R) (σ : gx_R) (hf : Md_happens_70  σ = some (rr, σ')) : gx_Ev lay0 (E0 D) tt_226 (some (.int rr)) σ' 70 [.null, .null, .null, .null] [] σ := by
  unfold Md_happens_70 at hf
  obtain ⟨e1, e2⟩ := z_ret hf
  subst e1
  subst e2
  exact gx_end 3 [] [] rfl trivial
set_option maxHeartbeats 16000000 in
set_option maxRecDepth 20000 in
theorem vv_Md_happens_93 (D : Nat) (hD : 8 ≤ D + 1) (rr : Int32) (σ' : gx_R) (σ : gx_R) (hf : Md_happens_93  σ = some (rr, σ')) : gx_Ev lay0 (E0 D) tt_226 (some (.int rr)) σ' 93 [.null, .null, .null, .null] [] σ := by
  unfold Md_happens_93 at hf
  obtain ⟨e1, e2⟩ := z_ret hf
  subst e1
  subst e2
  exact gx_end 3 [] [] rfl trivial
set_option maxHeartbeats 16000000 in
set_option maxRecDepth 20000 in
theorem vv_Md_happens_35 (D : Nat) (hD : 8 ≤ D + 1) (rr : Int32) (σ' : gx_R) (σ : gx_R) (hf : Md_happens_35  σ = some (rr, σ')) : gx_Ev lay0 (E0 D) tt_226 (some (.int rr)) σ' 35 [.null, .null, .null, .null] [] σ := by
  unfold Md_happens_35 at hf
  obtain ⟨e1, e2⟩ := z_ret hf
  subst e1
  subst e2
  exact gx_end 3 [] [] rfl trivial
set_option maxHeartbeats 16000000 in
set_option maxRecDepth 20000 in
theorem vv_Md_happens_26 (D : Nat) (hD : 8 ≤ D + 1) (rr : Int32) (σ' : gx_R) (a2 : Int32) (s0 : Int32) (σ : gx_R) (hf : Md_happens_26 a2 s0 σ = some (rr, σ')) : gx_Ev lay0 (E0 D) tt_226 (some (.int rr)) σ' 26 [.ref 109, .null, .int a2, .null] [.int s0] σ := by
  unfold Md_happens_26 at hf
  rcases z_if_inv hf with ⟨h1, hf⟩ | ⟨h1, hf⟩
  · exact gx_go_ 4 [.inl 1] [s0 = (-1 : Int32)] 35 [.ref 109, .null, .int a2, .int s0] [] σ rfl ⟨h1, trivial⟩ (gx_fgt (ls' := [.null, .null, .null, .null]) ⟨Or.inl rfl, Or.inl rfl, Or.inl rfl, Or.inl rfl, trivial⟩ (vv_Md_happens_35 D hD rr σ' σ hf))
  · obtain ⟨⟨⟩, σ3, h4, hf⟩ := z_bd_inv hf
    exact gx_go_ 9 [.inl 0, .inr (none, σ3)] [¬ (s0 = (-1 : Int32)), E0 D 217 [.ref 109, .int a2, .int (2 : Int32), .int s0] σ (none) σ3] 35 [.ref 109, .null, .int a2, .int s0] [] σ3 rfl ⟨h1, (ww_Md_beginsTo D (by omega) a2 (2 : Int32) s0 σ () σ3 h4), trivial⟩ (gx_fgt (ls' := [.null, .null, .null, .null]) ⟨Or.inl rfl, Or.inl rfl, Or.inl rfl, Or.inl rfl, trivial⟩ (vv_Md_happens_35 D hD rr σ' σ3 hf))
set_option maxHeartbeats 16000000 in
set_option maxRecDepth 20000 in
theorem vv_Md_happens_E (D : Nat) (hD : 8 ≤ D + 1) (rr : Int32) (σ' : gx_R) (σ : gx_R) (hf : Md_happens  σ = some (rr, σ')) : gx_Ev lay0 (E0 D) tt_226 (some (.int rr)) σ' 0 [.ref 109, .null, .null, .null] [] σ := by
  unfold Md_happens at hf
  obtain ⟨r1, σ2, h3, hf⟩ := z_bd_inv hf
  rcases z_if_inv hf with ⟨h4, hf⟩ | ⟨h4, hf⟩
  · rcases z_if_inv hf with ⟨h5, hf⟩ | ⟨h5, hf⟩
    · rcases z_if_inv hf with ⟨h6, hf⟩ | ⟨h6, hf⟩
      · obtain ⟨e1, e2⟩ := z_ret hf
        subst e1
        subst e2
        exact gx_end 17 [.inr (some (.int r1), σ2), .inl 1, .inl 0, .inl 1] [E0 D 224 [.ref 109, .int (8 : Int32)] σ (some (.int r1)) σ2, (3 : Int32) ≤ r1, ¬ ¬ (r1 = (3 : Int32)), vp_in (1 : Int32) 8880, (σ2 110 ((1 : Int32).toNatClampNeg)) ≤ 0] rfl ⟨(ww_Md_draw D (by omega) (8 : Int32) σ r1 σ2 h3), h4, (fun q => q h5), (z_ix_in rfl), h6, trivial⟩
      · obtain ⟨r7, σ8, h9, hf⟩ := z_bd_inv hf
        obtain ⟨r10, σ11, h12, hf⟩ := z_bd_inv hf
        obtain ⟨h13, hf⟩ := z_ck_inv hf
        rcases z_if_inv hf with ⟨h14, hf⟩ | ⟨h14, hf⟩
        · obtain ⟨⟨⟩, σ16, h17, hf⟩ := z_bd_inv hf
          exact gx_go_ 41 [.inr (some (.int r1), σ2), .inl 1, .inl 0, .inl 0, .inr (some (.int r7), σ8), .inr (some (.int r10), σ11), .inl 0, .inr (none, σ16)] [E0 D 224 [.ref 109, .int (8 : Int32)] σ (some (.int r1)) σ2, (3 : Int32) ≤ r1, ¬ ¬ (r1 = (3 : Int32)), vp_in (1 : Int32) 8880, ¬ ((σ2 110 ((1 : Int32).toNatClampNeg)) ≤ 0), vp_in (0 : Int32) 8880, E0 D 224 [.ref 109, .int (σ2 110 ((0 : Int32).toNatClampNeg))] σ2 (some (.int r7)) σ8, vp_in (1 : Int32) 8880, E0 D 224 [.ref 109, .int (σ8 110 ((1 : Int32).toNatClampNeg))] σ8 (some (.int r10)) σ11, vp_in ((60 : Int32) + r7) 8880, ¬ ¬ ((σ11 110 (((60 : Int32) + r7).toNatClampNeg)) = 0), E0 D 217 [.ref 109, .int r7, .int (1 : Int32), .int r10] σ11 (none) σ16] 70 [.ref 109, .int r1, .int r7, .int r10] [] σ16 rfl ⟨(ww_Md_draw D (by omega) (8 : Int32) σ r1 σ2 h3), h4, (fun q => q h5), (z_ix_in rfl), h6, (z_ix_in rfl), (ww_Md_draw D (by omega) (σ2 110 ((0 : Int32).toNatClampNeg)) σ2 r7 σ8 h9), (z_ix_in rfl), (ww_Md_draw D (by omega) (σ8 110 ((1 : Int32).toNatClampNeg)) σ8 r10 σ11 h12), (z_ix_in h13), (fun q => q h14), (ww_Md_beginsTo D (by omega) r7 (1 : Int32) r10 σ11 () σ16 h17), trivial⟩ (gx_fgt (ls' := [.null, .null, .null, .null]) ⟨Or.inl rfl, Or.inl rfl, Or.inl rfl, Or.inl rfl, trivial⟩ (vv_Md_happens_70 D hD rr σ' σ16 hf))
        · exact gx_go_ 36 [.inr (some (.int r1), σ2), .inl 1, .inl 0, .inl 0, .inr (some (.int r7), σ8), .inr (some (.int r10), σ11), .inl 1] [E0 D 224 [.ref 109, .int (8 : Int32)] σ (some (.int r1)) σ2, (3 : Int32) ≤ r1, ¬ ¬ (r1 = (3 : Int32)), vp_in (1 : Int32) 8880, ¬ ((σ2 110 ((1 : Int32).toNatClampNeg)) ≤ 0), vp_in (0 : Int32) 8880, E0 D 224 [.ref 109, .int (σ2 110 ((0 : Int32).toNatClampNeg))] σ2 (some (.int r7)) σ8, vp_in (1 : Int32) 8880, E0 D 224 [.ref 109, .int (σ8 110 ((1 : Int32).toNatClampNeg))] σ8 (some (.int r10)) σ11, vp_in ((60 : Int32) + r7) 8880, ¬ ((σ11 110 (((60 : Int32) + r7).toNatClampNeg)) = 0)] 70 [.ref 109, .int r1, .int r7, .int r10] [] σ11 rfl ⟨(ww_Md_draw D (by omega) (8 : Int32) σ r1 σ2 h3), h4, (fun q => q h5), (z_ix_in rfl), h6, (z_ix_in rfl), (ww_Md_draw D (by omega) (σ2 110 ((0 : Int32).toNatClampNeg)) σ2 r7 σ8 h9), (z_ix_in rfl), (ww_Md_draw D (by omega) (σ8 110 ((1 : Int32).toNatClampNeg)) σ8 r10 σ11 h12), (z_ix_in h13), h14, trivial⟩ (gx_fgt (ls' := [.null, .null, .null, .null]) ⟨Or.inl rfl, Or.inl rfl, Or.inl rfl, Or.inl rfl, trivial⟩ (vv_Md_happens_70 D hD rr σ' σ11 hf))
    · rcases z_if_inv hf with ⟨h18, hf⟩ | ⟨h18, hf⟩
      · obtain ⟨r19, σ20, h21, hf⟩ := z_bd_inv hf
        obtain ⟨h22, hf⟩ := z_ck_inv hf
        rcases z_if_inv hf with ⟨h23, hf⟩ | ⟨h23, hf⟩
        · obtain ⟨r24, σ25, h26, hf⟩ := z_bd_inv hf
          exact gx_go_ 32 [.inr (some (.int r1), σ2), .inl 1, .inl 1, .inl 0, .inr (some (.int r19), σ20), .inl 0, .inr (some (.int r24), σ25)] [E0 D 224 [.ref 109, .int (8 : Int32)] σ (some (.int r1)) σ2, (3 : Int32) ≤ r1, ¬ (r1 = (3 : Int32)), ¬ ¬ (r1 = (4 : Int32)), vp_in (0 : Int32) 8880, E0 D 224 [.ref 109, .int (σ2 110 ((0 : Int32).toNatClampNeg))] σ2 (some (.int r19)) σ20, vp_in ((60 : Int32) + r19) 8880, ¬ ¬ ((σ20 110 (((60 : Int32) + r19).toNatClampNeg)) = (2 : Int32)), E0 D 221 [.ref 109, .int r19] σ20 (some (.int r24)) σ25] 93 [.ref 109, .int r1, .int r19, .int r24] [] σ25 rfl ⟨(ww_Md_draw D (by omega) (8 : Int32) σ r1 σ2 h3), h4, h5, (fun q => q h18), (z_ix_in rfl), (ww_Md_draw D (by omega) (σ2 110 ((0 : Int32).toNatClampNeg)) σ2 r19 σ20 h21), (z_ix_in h22), (fun q => q h23), (ww_Md_calls D (by omega) r19 σ20 r24 σ25 h26), trivial⟩ (gx_fgt (ls' := [.null, .null, .null, .null]) ⟨Or.inl rfl, Or.inl rfl, Or.inl rfl, Or.inl rfl, trivial⟩ (vv_Md_happens_93 D hD rr σ' σ25 hf))
        · exact gx_go_ 28 [.inr (some (.int r1), σ2), .inl 1, .inl 1, .inl 0, .inr (some (.int r19), σ20), .inl 1] [E0 D 224 [.ref 109, .int (8 : Int32)] σ (some (.int r1)) σ2, (3 : Int32) ≤ r1, ¬ (r1 = (3 : Int32)), ¬ ¬ (r1 = (4 : Int32)), vp_in (0 : Int32) 8880, E0 D 224 [.ref 109, .int (σ2 110 ((0 : Int32).toNatClampNeg))] σ2 (some (.int r19)) σ20, vp_in ((60 : Int32) + r19) 8880, ¬ ((σ20 110 (((60 : Int32) + r19).toNatClampNeg)) = (2 : Int32))] 93 [.ref 109, .int r1, .int r19, .null] [] σ20 rfl ⟨(ww_Md_draw D (by omega) (8 : Int32) σ r1 σ2 h3), h4, h5, (fun q => q h18), (z_ix_in rfl), (ww_Md_draw D (by omega) (σ2 110 ((0 : Int32).toNatClampNeg)) σ2 r19 σ20 h21), (z_ix_in h22), h23, trivial⟩ (gx_fgt (ls' := [.null, .null, .null, .null]) ⟨Or.inl rfl, Or.inl rfl, Or.inl rfl, Or.inl rfl, trivial⟩ (vv_Md_happens_93 D hD rr σ' σ20 hf))
      · rcases z_if_inv hf with ⟨h27, hf⟩ | ⟨h27, hf⟩
        · obtain ⟨e1, e2⟩ := z_ret hf
          subst e1
          subst e2
          exact gx_end 21 [.inr (some (.int r1), σ2), .inl 1, .inl 1, .inl 1, .inl 1] [E0 D 224 [.ref 109, .int (8 : Int32)] σ (some (.int r1)) σ2, (3 : Int32) ≤ r1, ¬ (r1 = (3 : Int32)), ¬ (r1 = (4 : Int32)), vp_in (162 : Int32) 8880, (999 : Int32) ≤ (σ2 110 ((162 : Int32).toNatClampNeg))] rfl ⟨(ww_Md_draw D (by omega) (8 : Int32) σ r1 σ2 h3), h4, h5, h18, (z_ix_in rfl), h27, trivial⟩
        · obtain ⟨r28, σ29, h30, hf⟩ := z_bd_inv hf
          obtain ⟨e1, e2⟩ := z_ret hf
          subst e1
          subst e2
          exact gx_end 22 [.inr (some (.int r1), σ2), .inl 1, .inl 1, .inl 1, .inl 0, .inr (some (.int r28), σ29)] [E0 D 224 [.ref 109, .int (8 : Int32)] σ (some (.int r1)) σ2, (3 : Int32) ≤ r1, ¬ (r1 = (3 : Int32)), ¬ (r1 = (4 : Int32)), vp_in (162 : Int32) 8880, ¬ ((999 : Int32) ≤ (σ2 110 ((162 : Int32).toNatClampNeg))), E0 D 214 [.ref 109] σ2 (some (.int r28)) σ29] rfl ⟨(ww_Md_draw D (by omega) (8 : Int32) σ r1 σ2 h3), h4, h5, h18, (z_ix_in rfl), h27, (ww_Md_hourDone D (by omega) σ2 r28 σ29 h30), trivial⟩
  · obtain ⟨r31, σ32, h33, hf⟩ := z_bd_inv hf
    obtain ⟨h34, hf⟩ := z_ck_inv hf
    rcases z_if_inv hf with ⟨h35, hf⟩ | ⟨h35, hf⟩
    · obtain ⟨r36, σ37, h38, hf⟩ := z_bd_inv hf
      exact gx_go_ 25 [.inr (some (.int r1), σ2), .inl 0, .inr (some (.int r31), σ32), .inl 0, .inr (some (.int r36), σ37)] [E0 D 224 [.ref 109, .int (8 : Int32)] σ (some (.int r1)) σ2, ¬ ((3 : Int32) ≤ r1), vp_in (0 : Int32) 8880, E0 D 224 [.ref 109, .int (σ2 110 ((0 : Int32).toNatClampNeg))] σ2 (some (.int r31)) σ32, vp_in ((60 : Int32) + r31) 8880, ¬ ¬ ((σ32 110 (((60 : Int32) + r31).toNatClampNeg)) = 0), E0 D 225 [.ref 109, .int r31] σ32 (some (.int r36)) σ37] 26 [.ref 109, .int r1, .int r31, .null] [.int r36] σ37 rfl ⟨(ww_Md_draw D (by omega) (8 : Int32) σ r1 σ2 h3), h4, (z_ix_in rfl), (ww_Md_draw D (by omega) (σ2 110 ((0 : Int32).toNatClampNeg)) σ2 r31 σ32 h33), (z_ix_in h34), (fun q => q h35), (ww_Md_lowestFor D (by omega) r31 σ32 r36 σ37 h38), trivial⟩ (gx_fgt (ls' := [.ref 109, .null, .int r31, .null]) ⟨Or.inr rfl, Or.inl rfl, Or.inr rfl, Or.inl rfl, trivial⟩ (vv_Md_happens_26 D hD rr σ' r31 r36 σ37 hf))
    · exact gx_go_ 22 [.inr (some (.int r1), σ2), .inl 0, .inr (some (.int r31), σ32), .inl 1] [E0 D 224 [.ref 109, .int (8 : Int32)] σ (some (.int r1)) σ2, ¬ ((3 : Int32) ≤ r1), vp_in (0 : Int32) 8880, E0 D 224 [.ref 109, .int (σ2 110 ((0 : Int32).toNatClampNeg))] σ2 (some (.int r31)) σ32, vp_in ((60 : Int32) + r31) 8880, ¬ ((σ32 110 (((60 : Int32) + r31).toNatClampNeg)) = 0)] 26 [.ref 109, .int r1, .int r31, .null] [.int (-1 : Int32)] σ32 rfl ⟨(ww_Md_draw D (by omega) (8 : Int32) σ r1 σ2 h3), h4, (z_ix_in rfl), (ww_Md_draw D (by omega) (σ2 110 ((0 : Int32).toNatClampNeg)) σ2 r31 σ32 h33), (z_ix_in h34), h35, trivial⟩ (gx_fgt (ls' := [.ref 109, .null, .int r31, .null]) ⟨Or.inr rfl, Or.inl rfl, Or.inr rfl, Or.inl rfl, trivial⟩ (vv_Md_happens_26 D hD rr σ' r31 (-1 : Int32) σ32 hf))
set_option maxHeartbeats 16000000 in
set_option maxRecDepth 20000 in
theorem ww_Md_happens (D : Nat) (hD : 8 ≤ D) (σ : gx_R) (rr : Int32) (σ' : gx_R) (hf : Md_happens  σ = some (rr, σ')) : E0 D 226 [.ref 109] σ (some (.int rr)) σ' := by
  cases D with
  | zero => omega
  | succ D => exact Or.inl ⟨Nat.le_of_ble_eq_true rfl, vv_Md_happens_E D hD rr σ' σ hf⟩
set_option maxHeartbeats 16000000 in
set_option maxRecDepth 20000 in
theorem vv_Md_year_32_B (D : Nat) (hD : 9 ≤ D + 1) (rr : Int32) (σ' : gx_R) (K32 : Int32 → Int32 → Int32 → gx_R → Option (Int32 × gx_R)) (hK32 : ∀ (a2 : Int32) (a3 : Int32) (a4 : Int32) (σ : gx_R), K32 a2 a3 a4 σ = some (rr, σ') → gx_Ev lay0 (E0 D) tt_227 (some (.int rr)) σ' 32 [.ref 109, .null, .int a2, .int a3, .int a4] [] σ) (a2 : Int32) (a3 : Int32) (a4 : Int32) (σ : gx_R) (hf : Md_year_32_B K32 a2 a3 a4 σ = some (rr, σ')) : gx_Ev lay0 (E0 D) tt_227 (some (.int rr)) σ' 32 [.ref 109, .null, .int a2, .int a3, .int a4] [] σ := by
  unfold Md_year_32_B at hf
  rcases z_if_inv hf with ⟨h1, hf⟩ | ⟨h1, hf⟩
  · obtain ⟨e1, e2⟩ := z_ret hf
    subst e1
    subst e2
    exact gx_end 5 [.inl 1] [a2 ≤ a4] rfl ⟨h1, trivial⟩
  · obtain ⟨r2, σ3, h4, hf⟩ := z_bd_inv hf
    exact gx_go_ 10 [.inl 0, .inr (some (.int r2), σ3)] [¬ (a2 ≤ a4), E0 D 226 [.ref 109] σ (some (.int r2)) σ3] 32 [.ref 109, .null, .int a2, .int (a3 + r2), .int (a4 + 1)] [] σ3 rfl ⟨h1, (ww_Md_happens D (by omega) σ r2 σ3 h4), trivial⟩ (gx_fgt (ls' := [.ref 109, .null, .int a2, .int (a3 + r2), .int (a4 + 1)]) ⟨Or.inr rfl, Or.inl rfl, Or.inr rfl, Or.inr rfl, Or.inr rfl, trivial⟩ (hK32 a2 (a3 + r2) (a4 + 1) σ3 hf))
set_option maxHeartbeats 16000000 in
set_option maxRecDepth 20000 in
theorem vv_Md_year_32 (D : Nat) (hD : 9 ≤ D + 1) (rr : Int32) (σ' : gx_R) : ∀ (n : Nat) (a2 : Int32) (a3 : Int32) (a4 : Int32) (σ : gx_R), Md_year_32 n a2 a3 a4 σ = some (rr, σ') → gx_Ev lay0 (E0 D) tt_227 (some (.int rr)) σ' 32 [.ref 109, .null, .int a2, .int a3, .int a4] [] σ := by
  intro n
  induction n with
  | zero => intro a2 a3 a4 σ  hf; cases hf
  | succ n ih => intro a2 a3 a4 σ  hf; exact vv_Md_year_32_B D hD rr σ'  (Md_year_32 n) ih a2 a3 a4 σ  hf
set_option maxHeartbeats 16000000 in
set_option maxRecDepth 20000 in
theorem vv_Md_year_E (D : Nat) (hD : 9 ≤ D + 1) (rr : Int32) (σ' : gx_R) (a1 : Int32) (a2 : Int32) (σ : gx_R) (hf : Md_year a1 a2 σ = some (rr, σ')) : gx_Ev lay0 (E0 D) tt_227 (some (.int rr)) σ' 0 [.ref 109, .int a1, .int a2, .null, .null] [] σ := by
  unfold Md_year at hf
  obtain ⟨r1, σ2, h3, hf⟩ := z_bd_inv hf
  rcases z_if_inv hf with ⟨h4, hf⟩ | ⟨h4, hf⟩
  · obtain ⟨e1, e2⟩ := z_ret hf
    subst e1
    subst e2
    exact gx_end 7 [.inr (some (.int r1), σ2), .inl 1] [E0 D 145 [.int a1, .int (0 : Int32), .int (9999 : Int32)] σ (some (.int r1)) σ2, r1 = 0] rfl ⟨(ww_Md_in D (by omega) a1 (0 : Int32) (9999 : Int32) σ r1 σ2 h3), h4, trivial⟩
  · obtain ⟨r5, σ6, h7, hf⟩ := z_bd_inv hf
    rcases z_if_inv hf with ⟨h8, hf⟩ | ⟨h8, hf⟩
    · obtain ⟨e1, e2⟩ := z_ret hf
      subst e1
      subst e2
      exact gx_end 12 [.inr (some (.int r1), σ2), .inl 0, .inr (some (.int r5), σ6), .inl 1] [E0 D 145 [.int a1, .int (0 : Int32), .int (9999 : Int32)] σ (some (.int r1)) σ2, ¬ (r1 = 0), E0 D 145 [.int a2, .int (1 : Int32), .int (30 : Int32)] σ2 (some (.int r5)) σ6, r5 = 0] rfl ⟨(ww_Md_in D (by omega) a1 (0 : Int32) (9999 : Int32) σ r1 σ2 h3), h4, (ww_Md_in D (by omega) a2 (1 : Int32) (30 : Int32) σ2 r5 σ6 h7), h8, trivial⟩
    · rcases z_if_inv hf with ⟨h9, hf⟩ | ⟨h9, hf⟩
      · obtain ⟨e1, e2⟩ := z_ret hf
        subst e1
        subst e2
        exact gx_end 17 [.inr (some (.int r1), σ2), .inl 0, .inr (some (.int r5), σ6), .inl 0, .inl 0] [E0 D 145 [.int a1, .int (0 : Int32), .int (9999 : Int32)] σ (some (.int r1)) σ2, ¬ (r1 = 0), E0 D 145 [.int a2, .int (1 : Int32), .int (30 : Int32)] σ2 (some (.int r5)) σ6, ¬ (r5 = 0), vp_in (0 : Int32) 8880, ¬ ¬ ((σ6 110 ((0 : Int32).toNatClampNeg)) = 0)] rfl ⟨(ww_Md_in D (by omega) a1 (0 : Int32) (9999 : Int32) σ r1 σ2 h3), h4, (ww_Md_in D (by omega) a2 (1 : Int32) (30 : Int32) σ2 r5 σ6 h7), h8, (z_ix_in rfl), (fun q => q h9), trivial⟩
      · obtain ⟨⟨⟩, σ11, h12, hf⟩ := z_bd_inv hf
        exact gx_go_ 30 [.inr (some (.int r1), σ2), .inl 0, .inr (some (.int r5), σ6), .inl 0, .inl 1, .inr (none, σ11)] [E0 D 145 [.int a1, .int (0 : Int32), .int (9999 : Int32)] σ (some (.int r1)) σ2, ¬ (r1 = 0), E0 D 145 [.int a2, .int (1 : Int32), .int (30 : Int32)] σ2 (some (.int r5)) σ6, ¬ (r5 = 0), vp_in (0 : Int32) 8880, ¬ ((σ6 110 ((0 : Int32).toNatClampNeg)) = 0), E0 D 156 [.ref 109] σ6 (none) σ11, vp_in (163 : Int32) 8880] 32 [.ref 109, .int a1, .int a2, .int (0 : Int32), .int (0 : Int32)] [] (gx_up σ11 110 (163 : Int32).toNatClampNeg ((a1 * (2 : Int32)) + (43 : Int32))) rfl ⟨(ww_Md_in D (by omega) a1 (0 : Int32) (9999 : Int32) σ r1 σ2 h3), h4, (ww_Md_in D (by omega) a2 (1 : Int32) (30 : Int32) σ2 r5 σ6 h7), h8, (z_ix_in rfl), h9, (ww_Md_keepsStep D (by omega) σ6 () σ11 h12), (z_ix_in rfl), trivial⟩ (gx_fgt (ls' := [.ref 109, .null, .int a2, .int (0 : Int32), .int (0 : Int32)]) ⟨Or.inr rfl, Or.inl rfl, Or.inr rfl, Or.inr rfl, Or.inr rfl, trivial⟩ (vv_Md_year_32 D hD rr σ' z_FU a2 (0 : Int32) (0 : Int32) (gx_up σ11 110 (163 : Int32).toNatClampNeg ((a1 * (2 : Int32)) + (43 : Int32))) hf))
set_option maxHeartbeats 16000000 in
set_option maxRecDepth 20000 in
theorem ww_Md_year (D : Nat) (hD : 9 ≤ D) (a1 : Int32) (a2 : Int32) (σ : gx_R) (rr : Int32) (σ' : gx_R) (hf : Md_year a1 a2 σ = some (rr, σ')) : E0 D 227 [.ref 109, .int a1, .int a2] σ (some (.int rr)) σ' := by
  cases D with
  | zero => omega
  | succ D => exact Or.inl ⟨Nat.le_of_ble_eq_true rfl, vv_Md_year_E D hD rr σ' a1 a2 σ hf⟩
set_option maxHeartbeats 16000000 in
set_option maxRecDepth 20000 in
theorem vv_Md_hours_2_B (D : Nat) (hD : 9 ≤ D + 1) (rr : Int32) (σ' : gx_R) (K2 : Int32 → Int32 → gx_R → Option (Int32 × gx_R)) (hK2 : ∀ (a1 : Int32) (a2 : Int32) (σ : gx_R), K2 a1 a2 σ = some (rr, σ') → gx_Ev lay0 (E0 D) tt_228 (some (.int rr)) σ' 2 [.ref 109, .int a1, .int a2] [] σ) (a1 : Int32) (a2 : Int32) (σ : gx_R) (hf : Md_hours_2_B K2 a1 a2 σ = some (rr, σ')) : gx_Ev lay0 (E0 D) tt_228 (some (.int rr)) σ' 2 [.ref 109, .int a1, .int a2] [] σ := by
  unfold Md_hours_2_B at hf
  rcases z_if_inv hf with ⟨h1, hf⟩ | ⟨h1, hf⟩
  · obtain ⟨e1, e2⟩ := z_ret hf
    subst e1
    subst e2
    exact gx_end 5 [.inl 1] [a1 ≤ a2, (1 : Int32) &&& 1 = (1 : Int32)] rfl ⟨h1, rfl, trivial⟩
  · obtain ⟨r2, σ3, h4, hf⟩ := z_bd_inv hf
    rcases z_if_inv hf with ⟨h5, hf⟩ | ⟨h5, hf⟩
    · obtain ⟨e1, e2⟩ := z_ret hf
      subst e1
      subst e2
      exact gx_end 10 [.inl 0, .inr (some (.int r2), σ3), .inl 0] [¬ (a1 ≤ a2), E0 D 215 [.ref 109, .int (1 : Int32)] σ (some (.int r2)) σ3, ¬ ¬ (r2 = (-1 : Int32)), (0 : Int32) &&& 1 = (0 : Int32)] rfl ⟨h1, (ww_Md_hour D (by omega) (1 : Int32) σ r2 σ3 h4), (fun q => q h5), rfl, trivial⟩
    · exact gx_go_ 10 [.inl 0, .inr (some (.int r2), σ3), .inl 1] [¬ (a1 ≤ a2), E0 D 215 [.ref 109, .int (1 : Int32)] σ (some (.int r2)) σ3, ¬ (r2 = (-1 : Int32))] 2 [.ref 109, .int a1, .int (a2 + 1)] [] σ3 rfl ⟨h1, (ww_Md_hour D (by omega) (1 : Int32) σ r2 σ3 h4), h5, trivial⟩ (gx_fgt (ls' := [.ref 109, .int a1, .int (a2 + 1)]) ⟨Or.inr rfl, Or.inr rfl, Or.inr rfl, trivial⟩ (hK2 a1 (a2 + 1) σ3 hf))
set_option maxHeartbeats 16000000 in
set_option maxRecDepth 20000 in
theorem vv_Md_hours_2 (D : Nat) (hD : 9 ≤ D + 1) (rr : Int32) (σ' : gx_R) : ∀ (n : Nat) (a1 : Int32) (a2 : Int32) (σ : gx_R), Md_hours_2 n a1 a2 σ = some (rr, σ') → gx_Ev lay0 (E0 D) tt_228 (some (.int rr)) σ' 2 [.ref 109, .int a1, .int a2] [] σ := by
  intro n
  induction n with
  | zero => intro a1 a2 σ  hf; cases hf
  | succ n ih => intro a1 a2 σ  hf; exact vv_Md_hours_2_B D hD rr σ'  (Md_hours_2 n) ih a1 a2 σ  hf
set_option maxHeartbeats 16000000 in
set_option maxRecDepth 20000 in
theorem vv_Md_hours_E (D : Nat) (hD : 9 ≤ D + 1) (rr : Int32) (σ' : gx_R) (a1 : Int32) (σ : gx_R) (hf : Md_hours a1 σ = some (rr, σ')) : gx_Ev lay0 (E0 D) tt_228 (some (.int rr)) σ' 0 [.ref 109, .int a1, .null] [] σ := by
  unfold Md_hours at hf
  exact gx_go_ 2 [] [] 2 [.ref 109, .int a1, .int (0 : Int32)] [] σ rfl trivial (gx_fgt (ls' := [.ref 109, .int a1, .int (0 : Int32)]) ⟨Or.inr rfl, Or.inr rfl, Or.inr rfl, trivial⟩ (vv_Md_hours_2 D hD rr σ' z_FU a1 (0 : Int32) σ hf))
set_option maxHeartbeats 16000000 in
set_option maxRecDepth 20000 in
theorem ww_Md_hours (D : Nat) (hD : 9 ≤ D) (a1 : Int32) (σ : gx_R) (rr : Int32) (σ' : gx_R) (hf : Md_hours a1 σ = some (rr, σ')) : E0 D 228 [.ref 109, .int a1] σ (some (.int rr)) σ' := by
  cases D with
  | zero => omega
  | succ D => exact Or.inl ⟨Nat.le_of_ble_eq_true rfl, vv_Md_hours_E D hD rr σ' a1 σ hf⟩
set_option maxHeartbeats 16000000 in
set_option maxRecDepth 20000 in
theorem vv_Md_played_97 (D : Nat) (hD : 10 ≤ D + 1) (rr : Int32) (σ' : gx_R) (K107 : Int32 → Int32 → Int32 → gx_R → Option (Int32 × gx_R)) (hK107 : ∀ (a1 : Int32) (a2 : Int32) (a4 : Int32) (σ : gx_R), K107 a1 a2 a4 σ = some (rr, σ') → gx_Ev lay0 (E0 D) tt_229 (some (.int rr)) σ' 107 [.ref 109, .int a1, .int a2, .null, .int a4] [] σ) (a1 : Int32) (a2 : Int32) (s0 : Int32) (σ : gx_R) (hf : Md_played_97 K107 a1 a2 s0 σ = some (rr, σ')) : gx_Ev lay0 (E0 D) tt_229 (some (.int rr)) σ' 97 [.ref 109, .int a1, .int a2, .null, .null] [.int s0] σ := by
  unfold Md_played_97 at hf
  exact gx_go_ 2 [] [] 107 [.ref 109, .int a1, .int a2, .null, .int s0] [] σ rfl trivial (gx_fgt (ls' := [.ref 109, .int a1, .int a2, .null, .int s0]) ⟨Or.inr rfl, Or.inr rfl, Or.inr rfl, Or.inl rfl, Or.inr rfl, trivial⟩ (hK107 a1 a2 s0 σ hf))
set_option maxHeartbeats 16000000 in
set_option maxRecDepth 20000 in
theorem vv_Md_played_76 (D : Nat) (hD : 10 ≤ D + 1) (rr : Int32) (σ' : gx_R) (K107 : Int32 → Int32 → Int32 → gx_R → Option (Int32 × gx_R)) (hK107 : ∀ (a1 : Int32) (a2 : Int32) (a4 : Int32) (σ : gx_R), K107 a1 a2 a4 σ = some (rr, σ') → gx_Ev lay0 (E0 D) tt_229 (some (.int rr)) σ' 107 [.ref 109, .int a1, .int a2, .null, .int a4] [] σ) (a1 : Int32) (a2 : Int32) (s0 : Int32) (σ : gx_R) (hf : Md_played_76 K107 a1 a2 s0 σ = some (rr, σ')) : gx_Ev lay0 (E0 D) tt_229 (some (.int rr)) σ' 76 [.ref 109, .int a1, .int a2, .null, .null] [.int s0] σ := by
  unfold Md_played_76 at hf
  exact gx_go_ 2 [] [] 107 [.ref 109, .int a1, .int a2, .null, .int s0] [] σ rfl trivial (gx_fgt (ls' := [.ref 109, .int a1, .int a2, .null, .int s0]) ⟨Or.inr rfl, Or.inr rfl, Or.inr rfl, Or.inl rfl, Or.inr rfl, trivial⟩ (hK107 a1 a2 s0 σ hf))
set_option maxHeartbeats 16000000 in
set_option maxRecDepth 20000 in
theorem vv_Md_played_107 (D : Nat) (hD : 10 ≤ D + 1) (rr : Int32) (σ' : gx_R) (K14 : Int32 → Int32 → gx_R → Option (Int32 × gx_R)) (hK14 : ∀ (a1 : Int32) (a2 : Int32) (σ : gx_R), K14 a1 a2 σ = some (rr, σ') → gx_Ev lay0 (E0 D) tt_229 (some (.int rr)) σ' 14 [.ref 109, .int a1, .int a2, .null, .null] [] σ) (a1 : Int32) (a2 : Int32) (a4 : Int32) (σ : gx_R) (hf : Md_played_107 K14 a1 a2 a4 σ = some (rr, σ')) : gx_Ev lay0 (E0 D) tt_229 (some (.int rr)) σ' 107 [.ref 109, .int a1, .int a2, .null, .int a4] [] σ := by
  unfold Md_played_107 at hf
  rcases z_if_inv hf with ⟨h1, hf⟩ | ⟨h1, hf⟩
  · obtain ⟨e1, e2⟩ := z_ret hf
    subst e1
    subst e2
    exact gx_end 4 [.inl 0] [¬ ¬ (a4 = 0)] rfl ⟨(fun q => q h1), trivial⟩
  · exact gx_go_ 4 [.inl 1] [¬ (a4 = 0)] 14 [.ref 109, .int a1, .int (a2 + 1), .null, .int a4] [] σ rfl ⟨h1, trivial⟩ (gx_fgt (ls' := [.ref 109, .int a1, .int (a2 + 1), .null, .null]) ⟨Or.inr rfl, Or.inr rfl, Or.inr rfl, Or.inl rfl, Or.inl rfl, trivial⟩ (hK14 a1 (a2 + 1) σ hf))
set_option maxHeartbeats 16000000 in
set_option maxRecDepth 20000 in
theorem vv_Md_played_14_B (D : Nat) (hD : 10 ≤ D + 1) (rr : Int32) (σ' : gx_R) (K14 : Int32 → Int32 → gx_R → Option (Int32 × gx_R)) (hK14 : ∀ (a1 : Int32) (a2 : Int32) (σ : gx_R), K14 a1 a2 σ = some (rr, σ') → gx_Ev lay0 (E0 D) tt_229 (some (.int rr)) σ' 14 [.ref 109, .int a1, .int a2, .null, .null] [] σ) (a1 : Int32) (a2 : Int32) (σ : gx_R) (hf : Md_played_14_B K14 a1 a2 σ = some (rr, σ')) : gx_Ev lay0 (E0 D) tt_229 (some (.int rr)) σ' 14 [.ref 109, .int a1, .int a2, .null, .null] [] σ := by
  unfold Md_played_14_B at hf
  obtain ⟨h1, hf⟩ := z_ck_inv hf
  rcases z_if_inv hf with ⟨h2, hf⟩ | ⟨h2, hf⟩
  · obtain ⟨e1, e2⟩ := z_ret hf
    subst e1
    subst e2
    exact gx_end 8 [.inl 1] [vp_in a1 4, (σ 113 a1.toNatClampNeg) ≤ a2] rfl ⟨(z_ix_in h1), h2, trivial⟩
  · obtain ⟨h3, hf⟩ := z_ck_inv hf
    rcases z_if_inv hf with ⟨h4, hf⟩ | ⟨h4, hf⟩
    · obtain ⟨h5, hf⟩ := z_ck_inv hf
      obtain ⟨h6, hf⟩ := z_ck_inv hf
      obtain ⟨r7, σ8, h9, hf⟩ := z_bd_inv hf
      exact gx_go_ 31 [.inl 0, .inl 1, .inr (some (.int r7), σ8)] [vp_in a1 4, ¬ ((σ 113 a1.toNatClampNeg) ≤ a2), vp_in (((24 : Int32) * a1) + a2) 96, (σ 114 ((((24 : Int32) * a1) + a2).toNatClampNeg)).toInt = 4 + (0 : Nat), vp_in (((24 : Int32) * a1) + a2) 96, vp_in (((24 : Int32) * a1) + a2) 96, E0 D 218 [.ref 109, .int (σ 116 ((((24 : Int32) * a1) + a2).toNatClampNeg)), .int (σ 117 ((((24 : Int32) * a1) + a2).toNatClampNeg))] σ (some (.int r7)) σ8] 107 [.ref 109, .int a1, .int a2, .int (((24 : Int32) * a1) + a2), .int r7] [] σ8 rfl ⟨(z_ix_in h1), h2, (z_ix_in h3), (z_sw_in h4 (by decide)), (z_ix_in h5), (z_ix_in h6), (ww_Md_wake D (by omega) (σ 116 ((((24 : Int32) * a1) + a2).toNatClampNeg)) (σ 117 ((((24 : Int32) * a1) + a2).toNatClampNeg)) σ r7 σ8 h9), trivial⟩ (gx_fgt (ls' := [.ref 109, .int a1, .int a2, .null, .int r7]) ⟨Or.inr rfl, Or.inr rfl, Or.inr rfl, Or.inl rfl, Or.inr rfl, trivial⟩ (vv_Md_played_107 D hD rr σ' K14 hK14 a1 a2 r7 σ8 hf))
    · skip
      rcases z_if_inv hf with ⟨h10, hf⟩ | ⟨h10, hf⟩
      · obtain ⟨h11, hf⟩ := z_ck_inv hf
        obtain ⟨h12, hf⟩ := z_ck_inv hf
        obtain ⟨r13, σ14, h15, hf⟩ := z_bd_inv hf
        exact gx_go_ 31 [.inl 0, .inl 2, .inr (some (.int r13), σ14)] [vp_in a1 4, ¬ ((σ 113 a1.toNatClampNeg) ≤ a2), vp_in (((24 : Int32) * a1) + a2) 96, (σ 114 ((((24 : Int32) * a1) + a2).toNatClampNeg)).toInt = 4 + (1 : Nat), vp_in (((24 : Int32) * a1) + a2) 96, vp_in (((24 : Int32) * a1) + a2) 96, E0 D 219 [.ref 109, .int (σ 116 ((((24 : Int32) * a1) + a2).toNatClampNeg)), .int (σ 117 ((((24 : Int32) * a1) + a2).toNatClampNeg))] σ (some (.int r13)) σ14] 107 [.ref 109, .int a1, .int a2, .int (((24 : Int32) * a1) + a2), .int r13] [] σ14 rfl ⟨(z_ix_in h1), h2, (z_ix_in h3), (z_sw_in h10 (by decide)), (z_ix_in h11), (z_ix_in h12), (ww_Md_sleep D (by omega) (σ 116 ((((24 : Int32) * a1) + a2).toNatClampNeg)) (σ 117 ((((24 : Int32) * a1) + a2).toNatClampNeg)) σ r13 σ14 h15), trivial⟩ (gx_fgt (ls' := [.ref 109, .int a1, .int a2, .null, .int r13]) ⟨Or.inr rfl, Or.inr rfl, Or.inr rfl, Or.inl rfl, Or.inr rfl, trivial⟩ (vv_Md_played_107 D hD rr σ' K14 hK14 a1 a2 r13 σ14 hf))
      · skip
        rcases z_if_inv hf with ⟨h16, hf⟩ | ⟨h16, hf⟩
        · obtain ⟨h17, hf⟩ := z_ck_inv hf
          obtain ⟨r18, σ19, h20, hf⟩ := z_bd_inv hf
          exact gx_go_ 27 [.inl 0, .inl 3, .inr (some (.int r18), σ19)] [vp_in a1 4, ¬ ((σ 113 a1.toNatClampNeg) ≤ a2), vp_in (((24 : Int32) * a1) + a2) 96, (σ 114 ((((24 : Int32) * a1) + a2).toNatClampNeg)).toInt = 4 + (2 : Nat), vp_in (((24 : Int32) * a1) + a2) 96, E0 D 220 [.ref 109, .int (σ 116 ((((24 : Int32) * a1) + a2).toNatClampNeg))] σ (some (.int r18)) σ19] 107 [.ref 109, .int a1, .int a2, .int (((24 : Int32) * a1) + a2), .int r18] [] σ19 rfl ⟨(z_ix_in h1), h2, (z_ix_in h3), (z_sw_in h16 (by decide)), (z_ix_in h17), (ww_Md_idle D (by omega) (σ 116 ((((24 : Int32) * a1) + a2).toNatClampNeg)) σ r18 σ19 h20), trivial⟩ (gx_fgt (ls' := [.ref 109, .int a1, .int a2, .null, .int r18]) ⟨Or.inr rfl, Or.inr rfl, Or.inr rfl, Or.inl rfl, Or.inr rfl, trivial⟩ (vv_Md_played_107 D hD rr σ' K14 hK14 a1 a2 r18 σ19 hf))
        · skip
          rcases z_if_inv hf with ⟨h21, hf⟩ | ⟨h21, hf⟩
          · obtain ⟨h22, hf⟩ := z_ck_inv hf
            obtain ⟨r23, σ24, h25, hf⟩ := z_bd_inv hf
            rcases z_if_inv hf with ⟨h26, hf⟩ | ⟨h26, hf⟩
            · exact gx_go_ 28 [.inl 0, .inl 4, .inr (some (.int r23), σ24), .inl 1] [vp_in a1 4, ¬ ((σ 113 a1.toNatClampNeg) ≤ a2), vp_in (((24 : Int32) * a1) + a2) 96, (σ 114 ((((24 : Int32) * a1) + a2).toNatClampNeg)).toInt = 4 + (3 : Nat), vp_in (((24 : Int32) * a1) + a2) 96, E0 D 222 [.ref 109, .int (σ 116 ((((24 : Int32) * a1) + a2).toNatClampNeg))] σ (some (.int r23)) σ24, r23 = (-1 : Int32)] 76 [.ref 109, .int a1, .int a2, .int (((24 : Int32) * a1) + a2), .int (1 : Int32)] [.int (0 : Int32)] σ24 rfl ⟨(z_ix_in h1), h2, (z_ix_in h3), (z_sw_in h21 (by decide)), (z_ix_in h22), (ww_Md_call D (by omega) (σ 116 ((((24 : Int32) * a1) + a2).toNatClampNeg)) σ r23 σ24 h25), h26, trivial⟩ (gx_fgt (ls' := [.ref 109, .int a1, .int a2, .null, .null]) ⟨Or.inr rfl, Or.inr rfl, Or.inr rfl, Or.inl rfl, Or.inl rfl, trivial⟩ (vv_Md_played_76 D hD rr σ' (Md_played_107 K14) (vv_Md_played_107 D hD rr σ' K14 hK14) a1 a2 (0 : Int32) σ24 hf))
            · exact gx_go_ 29 [.inl 0, .inl 4, .inr (some (.int r23), σ24), .inl 0] [vp_in a1 4, ¬ ((σ 113 a1.toNatClampNeg) ≤ a2), vp_in (((24 : Int32) * a1) + a2) 96, (σ 114 ((((24 : Int32) * a1) + a2).toNatClampNeg)).toInt = 4 + (3 : Nat), vp_in (((24 : Int32) * a1) + a2) 96, E0 D 222 [.ref 109, .int (σ 116 ((((24 : Int32) * a1) + a2).toNatClampNeg))] σ (some (.int r23)) σ24, ¬ (r23 = (-1 : Int32))] 76 [.ref 109, .int a1, .int a2, .int (((24 : Int32) * a1) + a2), .int (1 : Int32)] [.int (1 : Int32)] σ24 rfl ⟨(z_ix_in h1), h2, (z_ix_in h3), (z_sw_in h21 (by decide)), (z_ix_in h22), (ww_Md_call D (by omega) (σ 116 ((((24 : Int32) * a1) + a2).toNatClampNeg)) σ r23 σ24 h25), h26, trivial⟩ (gx_fgt (ls' := [.ref 109, .int a1, .int a2, .null, .null]) ⟨Or.inr rfl, Or.inr rfl, Or.inr rfl, Or.inl rfl, Or.inl rfl, trivial⟩ (vv_Md_played_76 D hD rr σ' (Md_played_107 K14) (vv_Md_played_107 D hD rr σ' K14 hK14) a1 a2 (1 : Int32) σ24 hf))
          · skip
            rcases z_if_inv hf with ⟨h27, hf⟩ | ⟨h27, hf⟩
            · obtain ⟨h28, hf⟩ := z_ck_inv hf
              obtain ⟨h29, hf⟩ := z_ck_inv hf
              obtain ⟨h30, hf⟩ := z_ck_inv hf
              obtain ⟨r31, σ32, h33, hf⟩ := z_bd_inv hf
              rcases z_if_inv hf with ⟨h34, hf⟩ | ⟨h34, hf⟩
              · exact gx_go_ 36 [.inl 0, .inl 5, .inr (some (.int r31), σ32), .inl 1] [vp_in a1 4, ¬ ((σ 113 a1.toNatClampNeg) ≤ a2), vp_in (((24 : Int32) * a1) + a2) 96, (σ 114 ((((24 : Int32) * a1) + a2).toNatClampNeg)).toInt = 4 + (4 : Nat), vp_in (((24 : Int32) * a1) + a2) 96, vp_in (((24 : Int32) * a1) + a2) 96, vp_in (((24 : Int32) * a1) + a2) 96, E0 D 223 [.ref 109, .int (σ 116 ((((24 : Int32) * a1) + a2).toNatClampNeg)), .int (σ 117 ((((24 : Int32) * a1) + a2).toNatClampNeg)), .int (σ 118 ((((24 : Int32) * a1) + a2).toNatClampNeg))] σ (some (.int r31)) σ32, r31 = (-1 : Int32)] 97 [.ref 109, .int a1, .int a2, .int (((24 : Int32) * a1) + a2), .int (1 : Int32)] [.int (0 : Int32)] σ32 rfl ⟨(z_ix_in h1), h2, (z_ix_in h3), (z_sw_in h27 (by decide)), (z_ix_in h28), (z_ix_in h29), (z_ix_in h30), (ww_Md_repay D (by omega) (σ 116 ((((24 : Int32) * a1) + a2).toNatClampNeg)) (σ 117 ((((24 : Int32) * a1) + a2).toNatClampNeg)) (σ 118 ((((24 : Int32) * a1) + a2).toNatClampNeg)) σ r31 σ32 h33), h34, trivial⟩ (gx_fgt (ls' := [.ref 109, .int a1, .int a2, .null, .null]) ⟨Or.inr rfl, Or.inr rfl, Or.inr rfl, Or.inl rfl, Or.inl rfl, trivial⟩ (vv_Md_played_97 D hD rr σ' (Md_played_107 K14) (vv_Md_played_107 D hD rr σ' K14 hK14) a1 a2 (0 : Int32) σ32 hf))
              · exact gx_go_ 37 [.inl 0, .inl 5, .inr (some (.int r31), σ32), .inl 0] [vp_in a1 4, ¬ ((σ 113 a1.toNatClampNeg) ≤ a2), vp_in (((24 : Int32) * a1) + a2) 96, (σ 114 ((((24 : Int32) * a1) + a2).toNatClampNeg)).toInt = 4 + (4 : Nat), vp_in (((24 : Int32) * a1) + a2) 96, vp_in (((24 : Int32) * a1) + a2) 96, vp_in (((24 : Int32) * a1) + a2) 96, E0 D 223 [.ref 109, .int (σ 116 ((((24 : Int32) * a1) + a2).toNatClampNeg)), .int (σ 117 ((((24 : Int32) * a1) + a2).toNatClampNeg)), .int (σ 118 ((((24 : Int32) * a1) + a2).toNatClampNeg))] σ (some (.int r31)) σ32, ¬ (r31 = (-1 : Int32))] 97 [.ref 109, .int a1, .int a2, .int (((24 : Int32) * a1) + a2), .int (1 : Int32)] [.int (1 : Int32)] σ32 rfl ⟨(z_ix_in h1), h2, (z_ix_in h3), (z_sw_in h27 (by decide)), (z_ix_in h28), (z_ix_in h29), (z_ix_in h30), (ww_Md_repay D (by omega) (σ 116 ((((24 : Int32) * a1) + a2).toNatClampNeg)) (σ 117 ((((24 : Int32) * a1) + a2).toNatClampNeg)) (σ 118 ((((24 : Int32) * a1) + a2).toNatClampNeg)) σ r31 σ32 h33), h34, trivial⟩ (gx_fgt (ls' := [.ref 109, .int a1, .int a2, .null, .null]) ⟨Or.inr rfl, Or.inr rfl, Or.inr rfl, Or.inl rfl, Or.inl rfl, trivial⟩ (vv_Md_played_97 D hD rr σ' (Md_played_107 K14) (vv_Md_played_107 D hD rr σ' K14 hK14) a1 a2 (1 : Int32) σ32 hf))
            · skip
              rcases z_if_inv hf with ⟨h35, hf⟩ | ⟨h35, hf⟩
              · obtain ⟨h36, hf⟩ := z_ck_inv hf
                obtain ⟨r37, σ38, h39, hf⟩ := z_bd_inv hf
                exact gx_go_ 27 [.inl 0, .inl 6, .inr (some (.int r37), σ38)] [vp_in a1 4, ¬ ((σ 113 a1.toNatClampNeg) ≤ a2), vp_in (((24 : Int32) * a1) + a2) 96, (σ 114 ((((24 : Int32) * a1) + a2).toNatClampNeg)).toInt = 4 + (5 : Nat), vp_in (((24 : Int32) * a1) + a2) 96, E0 D 228 [.ref 109, .int (σ 116 ((((24 : Int32) * a1) + a2).toNatClampNeg))] σ (some (.int r37)) σ38] 107 [.ref 109, .int a1, .int a2, .int (((24 : Int32) * a1) + a2), .int r37] [] σ38 rfl ⟨(z_ix_in h1), h2, (z_ix_in h3), (z_sw_in h35 (by decide)), (z_ix_in h36), (ww_Md_hours D (by omega) (σ 116 ((((24 : Int32) * a1) + a2).toNatClampNeg)) σ r37 σ38 h39), trivial⟩ (gx_fgt (ls' := [.ref 109, .int a1, .int a2, .null, .int r37]) ⟨Or.inr rfl, Or.inr rfl, Or.inr rfl, Or.inl rfl, Or.inr rfl, trivial⟩ (vv_Md_played_107 D hD rr σ' K14 hK14 a1 a2 r37 σ38 hf))
              · skip
                refine gx_go_ 18 [.inl 0] [vp_in a1 4, ¬ ((σ 113 a1.toNatClampNeg) ≤ a2), vp_in (((24 : Int32) * a1) + a2) 96] 32 [.ref 109, .int a1, .int a2, .int (((24 : Int32) * a1) + a2), .int (1 : Int32)] [.int (σ 114 ((((24 : Int32) * a1) + a2).toNatClampNeg))] σ rfl ⟨(z_ix_in h1), h2, (z_ix_in h3), trivial⟩ ?_
                refine gx_sw (td := 107) (tt := [33, 45, 57, 65, 78, 99]) (lo := 4) rfl rfl ?_
                rw [gx_swt_df (td := 107) (tt := [33, 45, 57, 65, 78, 99]) (lo := 4) ⟨Or.inr (z_sw_ne h4 (by decide)), Or.inr (z_sw_ne h10 (by decide)), Or.inr (z_sw_ne h16 (by decide)), Or.inr (z_sw_ne h21 (by decide)), Or.inr (z_sw_ne h27 (by decide)), Or.inr (z_sw_ne h35 (by decide)), trivial⟩]
                exact gx_fgt (ls' := [.ref 109, .int a1, .int a2, .null, .int (1 : Int32)]) ⟨Or.inr rfl, Or.inr rfl, Or.inr rfl, Or.inl rfl, Or.inr rfl, trivial⟩ (vv_Md_played_107 D hD rr σ' K14 hK14 a1 a2 (1 : Int32) σ hf)
set_option maxHeartbeats 16000000 in
set_option maxRecDepth 20000 in
theorem vv_Md_played_14 (D : Nat) (hD : 10 ≤ D + 1) (rr : Int32) (σ' : gx_R) : ∀ (n : Nat) (a1 : Int32) (a2 : Int32) (σ : gx_R), Md_played_14 n a1 a2 σ = some (rr, σ') → gx_Ev lay0 (E0 D) tt_229 (some (.int rr)) σ' 14 [.ref 109, .int a1, .int a2, .null, .null] [] σ := by
  intro n
  induction n with
  | zero => intro a1 a2 σ  hf; cases hf
  | succ n ih => intro a1 a2 σ  hf; exact vv_Md_played_14_B D hD rr σ'  (Md_played_14 n) ih a1 a2 σ  hf
set_option maxHeartbeats 16000000 in
set_option maxRecDepth 20000 in
theorem vv_Md_played_E (D : Nat) (hD : 10 ≤ D + 1) (rr : Int32) (σ' : gx_R) (a1 : Int32) (σ : gx_R) (hf : Md_played a1 σ = some (rr, σ')) : gx_Ev lay0 (E0 D) tt_229 (some (.int rr)) σ' 0 [.ref 109, .int a1, .null, .null, .null] [] σ := by
  unfold Md_played at hf
  obtain ⟨r1, σ2, h3, hf⟩ := z_bd_inv hf
  rcases z_if_inv hf with ⟨h4, hf⟩ | ⟨h4, hf⟩
  · obtain ⟨e1, e2⟩ := z_ret hf
    subst e1
    subst e2
    exact gx_end 12 [.inr (some (.int r1), σ2), .inl 0] [vp_in (2 : Int32) 8880, E0 D 145 [.int a1, .int (0 : Int32), .int ((σ 110 ((2 : Int32).toNatClampNeg)) - (1 : Int32))] σ (some (.int r1)) σ2, ¬ ¬ (r1 = 0)] rfl ⟨(z_ix_in rfl), (ww_Md_in D (by omega) a1 (0 : Int32) ((σ 110 ((2 : Int32).toNatClampNeg)) - (1 : Int32)) σ r1 σ2 h3), (fun q => q h4), trivial⟩
  · exact gx_go_ 12 [.inr (some (.int r1), σ2), .inl 1] [vp_in (2 : Int32) 8880, E0 D 145 [.int a1, .int (0 : Int32), .int ((σ 110 ((2 : Int32).toNatClampNeg)) - (1 : Int32))] σ (some (.int r1)) σ2, ¬ (r1 = 0)] 14 [.ref 109, .int a1, .int (0 : Int32), .null, .null] [] σ2 rfl ⟨(z_ix_in rfl), (ww_Md_in D (by omega) a1 (0 : Int32) ((σ 110 ((2 : Int32).toNatClampNeg)) - (1 : Int32)) σ r1 σ2 h3), h4, trivial⟩ (gx_fgt (ls' := [.ref 109, .int a1, .int (0 : Int32), .null, .null]) ⟨Or.inr rfl, Or.inr rfl, Or.inr rfl, Or.inl rfl, Or.inl rfl, trivial⟩ (vv_Md_played_14 D hD rr σ' z_FU a1 (0 : Int32) σ2 hf))
set_option maxHeartbeats 16000000 in
set_option maxRecDepth 20000 in
theorem ww_Md_played (D : Nat) (hD : 10 ≤ D) (a1 : Int32) (σ : gx_R) (rr : Int32) (σ' : gx_R) (hf : Md_played a1 σ = some (rr, σ')) : E0 D 229 [.ref 109, .int a1] σ (some (.int rr)) σ' := by
  cases D with
  | zero => omega
  | succ D => exact Or.inl ⟨Nat.le_of_ble_eq_true rfl, vv_Md_played_E D hD rr σ' a1 σ hf⟩
set_option maxHeartbeats 16000000 in
set_option maxRecDepth 20000 in
theorem vv_Md_of_17 (D : Nat) (hD : 6 ≤ D + 1) (rr : Int32) (σ' : gx_R) (a1 : Int32) (a2 : Int32) (s0 : Int32) (σ : gx_R) (hf : Md_of_17 a1 a2 s0 σ = some (rr, σ')) : gx_Ev lay0 (E0 D) tt_230 (some (.int rr)) σ' 17 [.ref 109, .int a1, .int a2, .null] [.int s0] σ := by
  unfold Md_of_17 at hf
  rcases z_if_inv hf with ⟨h1, hf⟩ | ⟨h1, hf⟩
  · obtain ⟨h2, hf⟩ := z_ck_inv hf
    obtain ⟨e1, e2⟩ := z_ret hf
    subst e1
    subst e2
    exact gx_end 10 [.inl 1] [a2.toInt = 0 + (0 : Nat), vp_in ((10 : Int32) + a1) 8880] rfl ⟨(z_sw_in h1 (by decide)), (z_ix_in h2), trivial⟩
  · skip
    rcases z_if_inv hf with ⟨h3, hf⟩ | ⟨h3, hf⟩
    · obtain ⟨h4, hf⟩ := z_ck_inv hf
      obtain ⟨e1, e2⟩ := z_ret hf
      subst e1
      subst e2
      exact gx_end 10 [.inl 2] [a2.toInt = 0 + (1 : Nat), vp_in ((18 : Int32) + a1) 8880] rfl ⟨(z_sw_in h3 (by decide)), (z_ix_in h4), trivial⟩
    · skip
      rcases z_if_inv hf with ⟨h5, hf⟩ | ⟨h5, hf⟩
      · obtain ⟨h6, hf⟩ := z_ck_inv hf
        obtain ⟨e1, e2⟩ := z_ret hf
        subst e1
        subst e2
        exact gx_end 8 [.inl 3] [a2.toInt = 0 + (2 : Nat), vp_in a1 8] rfl ⟨(z_sw_in h5 (by decide)), (z_ix_in h6), trivial⟩
      · skip
        rcases z_if_inv hf with ⟨h7, hf⟩ | ⟨h7, hf⟩
        · obtain ⟨h8, hf⟩ := z_ck_inv hf
          obtain ⟨e1, e2⟩ := z_ret hf
          subst e1
          subst e2
          exact gx_end 8 [.inl 4] [a2.toInt = 0 + (3 : Nat), vp_in a1 8] rfl ⟨(z_sw_in h7 (by decide)), (z_ix_in h8), trivial⟩
        · skip
          rcases z_if_inv hf with ⟨h9, hf⟩ | ⟨h9, hf⟩
          · obtain ⟨h10, hf⟩ := z_ck_inv hf
            obtain ⟨e1, e2⟩ := z_ret hf
            subst e1
            subst e2
            exact gx_end 8 [.inl 5] [a2.toInt = 0 + (4 : Nat), vp_in a1 8] rfl ⟨(z_sw_in h9 (by decide)), (z_ix_in h10), trivial⟩
          · skip
            rcases z_if_inv hf with ⟨h11, hf⟩ | ⟨h11, hf⟩
            · obtain ⟨h12, hf⟩ := z_ck_inv hf
              obtain ⟨e1, e2⟩ := z_ret hf
              subst e1
              subst e2
              exact gx_end 8 [.inl 6] [a2.toInt = 0 + (5 : Nat), vp_in a1 8] rfl ⟨(z_sw_in h11 (by decide)), (z_ix_in h12), trivial⟩
            · skip
              rcases z_if_inv hf with ⟨h13, hf⟩ | ⟨h13, hf⟩
              · obtain ⟨h14, hf⟩ := z_ck_inv hf
                obtain ⟨e1, e2⟩ := z_ret hf
                subst e1
                subst e2
                exact gx_end 10 [.inl 7] [a2.toInt = 0 + (6 : Nat), vp_in ((26 : Int32) + a1) 8880] rfl ⟨(z_sw_in h13 (by decide)), (z_ix_in h14), trivial⟩
              · skip
                rcases z_if_inv hf with ⟨h15, hf⟩ | ⟨h15, hf⟩
                · obtain ⟨h16, hf⟩ := z_ck_inv hf
                  obtain ⟨e1, e2⟩ := z_ret hf
                  subst e1
                  subst e2
                  exact gx_end 10 [.inl 8] [a2.toInt = 0 + (7 : Nat), vp_in ((34 : Int32) + a1) 8880] rfl ⟨(z_sw_in h15 (by decide)), (z_ix_in h16), trivial⟩
                · skip
                  rcases z_if_inv hf with ⟨h17, hf⟩ | ⟨h17, hf⟩
                  · obtain ⟨r18, σ19, h20, hf⟩ := z_bd_inv hf
                    obtain ⟨e1, e2⟩ := z_ret hf
                    subst e1
                    subst e2
                    exact gx_end 7 [.inl 9, .inr (some (.int r18), σ19)] [a2.toInt = 0 + (8 : Nat), E0 D 203 [.ref 109, .int a1] σ (some (.int r18)) σ19] rfl ⟨(z_sw_in h17 (by decide)), (ww_Md_soundOf D (by omega) a1 σ r18 σ19 h20), trivial⟩
                  · skip
                    rcases z_if_inv hf with ⟨h21, hf⟩ | ⟨h21, hf⟩
                    · rcases z_if_inv hf with ⟨h22, hf⟩ | ⟨h22, hf⟩
                      · obtain ⟨e1, e2⟩ := z_ret hf
                        subst e1
                        subst e2
                        exact gx_end 7 [.inl 10, .inl 1] [a2.toInt = 0 + (9 : Nat), s0 = 0] rfl ⟨(z_sw_in h21 (by decide)), h22, trivial⟩
                      · obtain ⟨h23, hf⟩ := z_ck_inv hf
                        obtain ⟨h24, hf⟩ := z_ck_inv hf
                        obtain ⟨r25, σ26, h27, hf⟩ := z_bd_inv hf
                        obtain ⟨e1, e2⟩ := z_ret hf
                        subst e1
                        subst e2
                        exact gx_end 18 [.inl 10, .inl 0, .inr (some (.int r25), σ26)] [a2.toInt = 0 + (9 : Nat), ¬ (s0 = 0), vp_in a1 8, vp_in a1 8, E0 D 202 [.ref 109, .int a1, .int (σ 137 a1.toNatClampNeg), .int (σ 136 a1.toNatClampNeg)] σ (some (.int r25)) σ26] rfl ⟨(z_sw_in h21 (by decide)), h22, (z_ix_in h23), (z_ix_in h24), (ww_Md_burnBy D (by omega) a1 (σ 137 a1.toNatClampNeg) (σ 136 a1.toNatClampNeg) σ r25 σ26 h27), trivial⟩
                    · skip
                      rcases z_if_inv hf with ⟨h28, hf⟩ | ⟨h28, hf⟩
                      · obtain ⟨h29, hf⟩ := z_ck_inv hf
                        rcases z_if_inv hf with ⟨h30, hf⟩ | ⟨h30, hf⟩
                        · obtain ⟨h31, hf⟩ := z_ck_inv hf
                          obtain ⟨h32, hf⟩ := z_ck_inv hf
                          obtain ⟨h33, hf⟩ := z_ck_inv hf
                          obtain ⟨r34, σ35, h36, hf⟩ := z_bd_inv hf
                          obtain ⟨e1, e2⟩ := z_ret hf
                          subst e1
                          subst e2
                          exact gx_end 26 [.inl 11, .inl 0, .inr (some (.int r34), σ35)] [a2.toInt = 0 + (10 : Nat), vp_in a1 8, ¬ ¬ ((σ 135 a1.toNatClampNeg) = (2 : Int32)), vp_in a1 8, vp_in a1 8, vp_in a1 8, E0 D 201 [.ref 109, .int a1, .int (σ 137 a1.toNatClampNeg), .int (σ 138 a1.toNatClampNeg), .int (σ 136 a1.toNatClampNeg)] σ (some (.int r34)) σ35] rfl ⟨(z_sw_in h28 (by decide)), (z_ix_in h29), (fun q => q h30), (z_ix_in h31), (z_ix_in h32), (z_ix_in h33), (ww_Md_worthBy D (by omega) a1 (σ 137 a1.toNatClampNeg) (σ 138 a1.toNatClampNeg) (σ 136 a1.toNatClampNeg) σ r34 σ35 h36), trivial⟩
                        · obtain ⟨e1, e2⟩ := z_ret hf
                          subst e1
                          subst e2
                          exact gx_end 11 [.inl 11, .inl 1] [a2.toInt = 0 + (10 : Nat), vp_in a1 8, ¬ ((σ 135 a1.toNatClampNeg) = (2 : Int32))] rfl ⟨(z_sw_in h28 (by decide)), (z_ix_in h29), h30, trivial⟩
                      · skip
                        rcases z_if_inv hf with ⟨h37, hf⟩ | ⟨h37, hf⟩
                        · rcases z_if_inv hf with ⟨h38, hf⟩ | ⟨h38, hf⟩
                          · obtain ⟨e1, e2⟩ := z_ret hf
                            subst e1
                            subst e2
                            exact gx_end 7 [.inl 12, .inl 1] [a2.toInt = 0 + (11 : Nat), s0 = 0] rfl ⟨(z_sw_in h37 (by decide)), h38, trivial⟩
                          · obtain ⟨r39, σ40, h41, hf⟩ := z_bd_inv hf
                            obtain ⟨e1, e2⟩ := z_ret hf
                            subst e1
                            subst e2
                            exact gx_end 12 [.inl 12, .inl 0, .inr (some (.int r39), σ40)] [a2.toInt = 0 + (11 : Nat), ¬ (s0 = 0), E0 D 205 [.ref 109, .int a1, .int (0 : Int32), .int (1 : Int32)] σ (some (.int r39)) σ40] rfl ⟨(z_sw_in h37 (by decide)), h38, (ww_Md_fuelOf D (by omega) a1 (0 : Int32) (1 : Int32) σ r39 σ40 h41), trivial⟩
                        · skip
                          refine gx_go_ 2 [] [] 19 [.ref 109, .int a1, .int a2, .int s0] [.int a2] σ rfl trivial ?_
                          refine gx_sw (td := 122) (tt := [20, 27, 34, 39, 44, 49, 54, 61, 68, 72, 88, 112]) (lo := 0) rfl rfl ?_
                          rw [gx_swt_df (td := 122) (tt := [20, 27, 34, 39, 44, 49, 54, 61, 68, 72, 88, 112]) (lo := 0) ⟨Or.inr (z_sw_ne h1 (by decide)), Or.inr (z_sw_ne h3 (by decide)), Or.inr (z_sw_ne h5 (by decide)), Or.inr (z_sw_ne h7 (by decide)), Or.inr (z_sw_ne h9 (by decide)), Or.inr (z_sw_ne h11 (by decide)), Or.inr (z_sw_ne h13 (by decide)), Or.inr (z_sw_ne h15 (by decide)), Or.inr (z_sw_ne h17 (by decide)), Or.inr (z_sw_ne h21 (by decide)), Or.inr (z_sw_ne h28 (by decide)), Or.inr (z_sw_ne h37 (by decide)), trivial⟩]
                          obtain ⟨e1, e2⟩ := z_ret hf
                          subst e1
                          subst e2
                          exact gx_end 2 [] [] rfl trivial
set_option maxHeartbeats 16000000 in
set_option maxRecDepth 20000 in
theorem vv_Md_of_E (D : Nat) (hD : 6 ≤ D + 1) (rr : Int32) (σ' : gx_R) (a1 : Int32) (a2 : Int32) (σ : gx_R) (hf : Md_of a1 a2 σ = some (rr, σ')) : gx_Ev lay0 (E0 D) tt_230 (some (.int rr)) σ' 0 [.ref 109, .int a1, .int a2, .null] [] σ := by
  unfold Md_of at hf
  obtain ⟨r1, σ2, h3, hf⟩ := z_bd_inv hf
  rcases z_if_inv hf with ⟨h4, hf⟩ | ⟨h4, hf⟩
  · obtain ⟨e1, e2⟩ := z_ret hf
    subst e1
    subst e2
    exact gx_end 6 [.inr (some (.int r1), σ2), .inl 0] [E0 D 149 [.ref 109, .int a1] σ (some (.int r1)) σ2, ¬ ¬ (r1 = 0)] rfl ⟨(ww_Md_isPerson D (by omega) a1 σ r1 σ2 h3), (fun q => q h4), trivial⟩
  · obtain ⟨⟨⟩, σ6, h7, hf⟩ := z_bd_inv hf
    obtain ⟨h8, hf⟩ := z_ck_inv hf
    rcases z_if_inv hf with ⟨h9, hf⟩ | ⟨h9, hf⟩
    · exact gx_go_ 14 [.inr (some (.int r1), σ2), .inl 1, .inr (none, σ6), .inl 0] [E0 D 149 [.ref 109, .int a1] σ (some (.int r1)) σ2, ¬ (r1 = 0), E0 D 198 [.ref 109] σ2 (none) σ6, vp_in a1 8, ¬ ¬ ((σ6 135 a1.toNatClampNeg) = (1 : Int32))] 17 [.ref 109, .int a1, .int a2, .null] [.int (1 : Int32)] σ6 rfl ⟨(ww_Md_isPerson D (by omega) a1 σ r1 σ2 h3), h4, (ww_Md_laysNow D (by omega) σ2 () σ6 h7), (z_ix_in h8), (fun q => q h9), trivial⟩ (gx_fgt (ls' := [.ref 109, .int a1, .int a2, .null]) ⟨Or.inr rfl, Or.inr rfl, Or.inr rfl, Or.inl rfl, trivial⟩ (vv_Md_of_17 D hD rr σ' a1 a2 (1 : Int32) σ6 hf))
    · exact gx_go_ 13 [.inr (some (.int r1), σ2), .inl 1, .inr (none, σ6), .inl 1] [E0 D 149 [.ref 109, .int a1] σ (some (.int r1)) σ2, ¬ (r1 = 0), E0 D 198 [.ref 109] σ2 (none) σ6, vp_in a1 8, ¬ ((σ6 135 a1.toNatClampNeg) = (1 : Int32))] 17 [.ref 109, .int a1, .int a2, .null] [.int (0 : Int32)] σ6 rfl ⟨(ww_Md_isPerson D (by omega) a1 σ r1 σ2 h3), h4, (ww_Md_laysNow D (by omega) σ2 () σ6 h7), (z_ix_in h8), h9, trivial⟩ (gx_fgt (ls' := [.ref 109, .int a1, .int a2, .null]) ⟨Or.inr rfl, Or.inr rfl, Or.inr rfl, Or.inl rfl, trivial⟩ (vv_Md_of_17 D hD rr σ' a1 a2 (0 : Int32) σ6 hf))
set_option maxHeartbeats 16000000 in
set_option maxRecDepth 20000 in
theorem ww_Md_of (D : Nat) (hD : 6 ≤ D) (a1 : Int32) (a2 : Int32) (σ : gx_R) (rr : Int32) (σ' : gx_R) (hf : Md_of a1 a2 σ = some (rr, σ')) : E0 D 230 [.ref 109, .int a1, .int a2] σ (some (.int rr)) σ' := by
  cases D with
  | zero => omega
  | succ D => exact Or.inl ⟨Nat.le_of_ble_eq_true rfl, vv_Md_of_E D hD rr σ' a1 a2 σ hf⟩
set_option maxHeartbeats 16000000 in
set_option maxRecDepth 20000 in
theorem vv_Md_ofWork_E (D : Nat) (hD : 3 ≤ D + 1) (rr : Int32) (σ' : gx_R) (a1 : Int32) (a2 : Int32) (σ : gx_R) (hf : Md_ofWork a1 a2 σ = some (rr, σ')) : gx_Ev lay0 (E0 D) tt_231 (some (.int rr)) σ' 0 [.ref 109, .int a1, .int a2] [] σ := by
  unfold Md_ofWork at hf
  obtain ⟨r1, σ2, h3, hf⟩ := z_bd_inv hf
  rcases z_if_inv hf with ⟨h4, hf⟩ | ⟨h4, hf⟩
  · obtain ⟨e1, e2⟩ := z_ret hf
    subst e1
    subst e2
    exact gx_end 6 [.inr (some (.int r1), σ2), .inl 0] [E0 D 150 [.ref 109, .int a1] σ (some (.int r1)) σ2, ¬ ¬ (r1 = 0)] rfl ⟨(ww_Md_isWork D (by omega) a1 σ r1 σ2 h3), (fun q => q h4), trivial⟩
  · rcases z_if_inv hf with ⟨h5, hf⟩ | ⟨h5, hf⟩
    · obtain ⟨h6, hf⟩ := z_ck_inv hf
      obtain ⟨e1, e2⟩ := z_ret hf
      subst e1
      subst e2
      exact gx_end 14 [.inr (some (.int r1), σ2), .inl 1, .inl 0] [E0 D 150 [.ref 109, .int a1] σ (some (.int r1)) σ2, ¬ (r1 = 0), ¬ ¬ (a2 = 0), vp_in ((42 : Int32) + a1) 8880] rfl ⟨(ww_Md_isWork D (by omega) a1 σ r1 σ2 h3), h4, (fun q => q h5), (z_ix_in h6), trivial⟩
    · rcases z_if_inv hf with ⟨h7, hf⟩ | ⟨h7, hf⟩
      · obtain ⟨h8, hf⟩ := z_ck_inv hf
        obtain ⟨e1, e2⟩ := z_ret hf
        subst e1
        subst e2
        exact gx_end 17 [.inr (some (.int r1), σ2), .inl 1, .inl 1, .inl 0] [E0 D 150 [.ref 109, .int a1] σ (some (.int r1)) σ2, ¬ (r1 = 0), ¬ (a2 = 0), ¬ ¬ (a2 = (1 : Int32)), vp_in ((48 : Int32) + a1) 8880] rfl ⟨(ww_Md_isWork D (by omega) a1 σ r1 σ2 h3), h4, h5, (fun q => q h7), (z_ix_in h8), trivial⟩
      · rcases z_if_inv hf with ⟨h9, hf⟩ | ⟨h9, hf⟩
        · obtain ⟨h10, hf⟩ := z_ck_inv hf
          obtain ⟨e1, e2⟩ := z_ret hf
          subst e1
          subst e2
          exact gx_end 20 [.inr (some (.int r1), σ2), .inl 1, .inl 1, .inl 1, .inl 0] [E0 D 150 [.ref 109, .int a1] σ (some (.int r1)) σ2, ¬ (r1 = 0), ¬ (a2 = 0), ¬ (a2 = (1 : Int32)), ¬ ¬ (a2 = (2 : Int32)), vp_in ((92 : Int32) + a1) 8880] rfl ⟨(ww_Md_isWork D (by omega) a1 σ r1 σ2 h3), h4, h5, h7, (fun q => q h9), (z_ix_in h10), trivial⟩
        · obtain ⟨e1, e2⟩ := z_ret hf
          subst e1
          subst e2
          exact gx_end 14 [.inr (some (.int r1), σ2), .inl 1, .inl 1, .inl 1, .inl 1] [E0 D 150 [.ref 109, .int a1] σ (some (.int r1)) σ2, ¬ (r1 = 0), ¬ (a2 = 0), ¬ (a2 = (1 : Int32)), ¬ (a2 = (2 : Int32))] rfl ⟨(ww_Md_isWork D (by omega) a1 σ r1 σ2 h3), h4, h5, h7, h9, trivial⟩
set_option maxHeartbeats 16000000 in
set_option maxRecDepth 20000 in
theorem ww_Md_ofWork (D : Nat) (hD : 3 ≤ D) (a1 : Int32) (a2 : Int32) (σ : gx_R) (rr : Int32) (σ' : gx_R) (hf : Md_ofWork a1 a2 σ = some (rr, σ')) : E0 D 231 [.ref 109, .int a1, .int a2] σ (some (.int rr)) σ' := by
  cases D with
  | zero => omega
  | succ D => exact Or.inl ⟨Nat.le_of_ble_eq_true rfl, vv_Md_ofWork_E D hD rr σ' a1 a2 σ hf⟩
set_option maxHeartbeats 16000000 in
set_option maxRecDepth 20000 in
theorem vv_Md_owes_E (D : Nat) (hD : 3 ≤ D + 1) (rr : Int32) (σ' : gx_R) (a1 : Int32) (a2 : Int32) (σ : gx_R) (hf : Md_owes a1 a2 σ = some (rr, σ')) : gx_Ev lay0 (E0 D) tt_232 (some (.int rr)) σ' 0 [.ref 109, .int a1, .int a2] [] σ := by
  unfold Md_owes at hf
  obtain ⟨r1, σ2, h3, hf⟩ := z_bd_inv hf
  rcases z_if_inv hf with ⟨h4, hf⟩ | ⟨h4, hf⟩
  · obtain ⟨e1, e2⟩ := z_ret hf
    subst e1
    subst e2
    exact gx_end 6 [.inr (some (.int r1), σ2), .inl 1] [E0 D 149 [.ref 109, .int a1] σ (some (.int r1)) σ2, r1 = 0] rfl ⟨(ww_Md_isPerson D (by omega) a1 σ r1 σ2 h3), h4, trivial⟩
  · obtain ⟨r5, σ6, h7, hf⟩ := z_bd_inv hf
    rcases z_if_inv hf with ⟨h8, hf⟩ | ⟨h8, hf⟩
    · obtain ⟨e1, e2⟩ := z_ret hf
      subst e1
      subst e2
      exact gx_end 10 [.inr (some (.int r1), σ2), .inl 0, .inr (some (.int r5), σ6), .inl 1] [E0 D 149 [.ref 109, .int a1] σ (some (.int r1)) σ2, ¬ (r1 = 0), E0 D 149 [.ref 109, .int a2] σ2 (some (.int r5)) σ6, r5 = 0] rfl ⟨(ww_Md_isPerson D (by omega) a1 σ r1 σ2 h3), h4, (ww_Md_isPerson D (by omega) a2 σ2 r5 σ6 h7), h8, trivial⟩
    · obtain ⟨h9, hf⟩ := z_ck_inv hf
      obtain ⟨e1, e2⟩ := z_ret hf
      subst e1
      subst e2
      exact gx_end 20 [.inr (some (.int r1), σ2), .inl 0, .inr (some (.int r5), σ6), .inl 0] [E0 D 149 [.ref 109, .int a1] σ (some (.int r1)) σ2, ¬ (r1 = 0), E0 D 149 [.ref 109, .int a2] σ2 (some (.int r5)) σ6, ¬ (r5 = 0), vp_in (((98 : Int32) + ((8 : Int32) * a1)) + a2) 8880] rfl ⟨(ww_Md_isPerson D (by omega) a1 σ r1 σ2 h3), h4, (ww_Md_isPerson D (by omega) a2 σ2 r5 σ6 h7), h8, (z_ix_in h9), trivial⟩
set_option maxHeartbeats 16000000 in
set_option maxRecDepth 20000 in
theorem ww_Md_owes (D : Nat) (hD : 3 ≤ D) (a1 : Int32) (a2 : Int32) (σ : gx_R) (rr : Int32) (σ' : gx_R) (hf : Md_owes a1 a2 σ = some (rr, σ')) : E0 D 232 [.ref 109, .int a1, .int a2] σ (some (.int rr)) σ' := by
  cases D with
  | zero => omega
  | succ D => exact Or.inl ⟨Nat.le_of_ble_eq_true rfl, vv_Md_owes_E D hD rr σ' a1 a2 σ hf⟩
set_option maxHeartbeats 16000000 in
set_option maxRecDepth 20000 in
theorem vv_Md_isKept_E (D : Nat) (hD : 2 ≤ D + 1) (rr : Int32) (σ' : gx_R) (a1 : Int32) (σ : gx_R) (hf : Md_isKept a1 σ = some (rr, σ')) : gx_Ev lay0 (E0 D) tt_233 (some (.int rr)) σ' 0 [.ref 109, .int a1] [] σ := by
  unfold Md_isKept at hf
  obtain ⟨r1, σ2, h3, hf⟩ := z_bd_inv hf
  rcases z_if_inv hf with ⟨h4, hf⟩ | ⟨h4, hf⟩
  · obtain ⟨e1, e2⟩ := z_ret hf
    subst e1
    subst e2
    exact gx_end 12 [.inr (some (.int r1), σ2), .inl 1] [vp_in (162 : Int32) 8880, E0 D 145 [.int a1, .int (0 : Int32), .int ((σ 110 ((162 : Int32).toNatClampNeg)) - (1 : Int32))] σ (some (.int r1)) σ2, r1 = 0, (0 : Int32) &&& 1 = (0 : Int32)] rfl ⟨(z_ix_in rfl), (ww_Md_in D (by omega) a1 (0 : Int32) ((σ 110 ((162 : Int32).toNatClampNeg)) - (1 : Int32)) σ r1 σ2 h3), h4, rfl, trivial⟩
  · rcases z_if_inv hf with ⟨h5, hf⟩ | ⟨h5, hf⟩
    · obtain ⟨e1, e2⟩ := z_ret hf
      subst e1
      subst e2
      exact gx_end 20 [.inr (some (.int r1), σ2), .inl 0, .inl 1] [vp_in (162 : Int32) 8880, E0 D 145 [.int a1, .int (0 : Int32), .int ((σ 110 ((162 : Int32).toNatClampNeg)) - (1 : Int32))] σ (some (.int r1)) σ2, ¬ (r1 = 0), vp_in (162 : Int32) 8880, a1 < ((σ2 110 ((162 : Int32).toNatClampNeg)) - (60 : Int32)), (0 : Int32) &&& 1 = (0 : Int32)] rfl ⟨(z_ix_in rfl), (ww_Md_in D (by omega) a1 (0 : Int32) ((σ 110 ((162 : Int32).toNatClampNeg)) - (1 : Int32)) σ r1 σ2 h3), h4, (z_ix_in rfl), h5, rfl, trivial⟩
    · obtain ⟨e1, e2⟩ := z_ret hf
      subst e1
      subst e2
      exact gx_end 21 [.inr (some (.int r1), σ2), .inl 0, .inl 0] [vp_in (162 : Int32) 8880, E0 D 145 [.int a1, .int (0 : Int32), .int ((σ 110 ((162 : Int32).toNatClampNeg)) - (1 : Int32))] σ (some (.int r1)) σ2, ¬ (r1 = 0), vp_in (162 : Int32) 8880, ¬ (a1 < ((σ2 110 ((162 : Int32).toNatClampNeg)) - (60 : Int32))), (1 : Int32) &&& 1 = (1 : Int32)] rfl ⟨(z_ix_in rfl), (ww_Md_in D (by omega) a1 (0 : Int32) ((σ 110 ((162 : Int32).toNatClampNeg)) - (1 : Int32)) σ r1 σ2 h3), h4, (z_ix_in rfl), h5, rfl, trivial⟩
set_option maxHeartbeats 16000000 in
set_option maxRecDepth 20000 in
theorem ww_Md_isKept (D : Nat) (hD : 2 ≤ D) (a1 : Int32) (σ : gx_R) (rr : Int32) (σ' : gx_R) (hf : Md_isKept a1 σ = some (rr, σ')) : E0 D 233 [.ref 109, .int a1] σ (some (.int rr)) σ' := by
  cases D with
  | zero => omega
  | succ D => exact Or.inl ⟨Nat.le_of_ble_eq_true rfl, vv_Md_isKept_E D hD rr σ' a1 σ hf⟩
set_option maxHeartbeats 16000000 in
set_option maxRecDepth 20000 in
theorem vv_Md_kept_E (D : Nat) (hD : 3 ≤ D + 1) (rr : Int32) (σ' : gx_R) (a1 : Int32) (a2 : Int32) (σ : gx_R) (hf : Md_kept a1 a2 σ = some (rr, σ')) : gx_Ev lay0 (E0 D) tt_234 (some (.int rr)) σ' 0 [.ref 109, .int a1, .int a2] [] σ := by
  unfold Md_kept at hf
  obtain ⟨r1, σ2, h3, hf⟩ := z_bd_inv hf
  rcases z_if_inv hf with ⟨h4, hf⟩ | ⟨h4, hf⟩
  · obtain ⟨e1, e2⟩ := z_ret hf
    subst e1
    subst e2
    exact gx_end 6 [.inr (some (.int r1), σ2), .inl 1] [E0 D 233 [.ref 109, .int a1] σ (some (.int r1)) σ2, r1 = 0] rfl ⟨(ww_Md_isKept D (by omega) a1 σ r1 σ2 h3), h4, trivial⟩
  · obtain ⟨r5, σ6, h7, hf⟩ := z_bd_inv hf
    rcases z_if_inv hf with ⟨h8, hf⟩ | ⟨h8, hf⟩
    · obtain ⟨e1, e2⟩ := z_ret hf
      subst e1
      subst e2
      exact gx_end 11 [.inr (some (.int r1), σ2), .inl 0, .inr (some (.int r5), σ6), .inl 1] [E0 D 233 [.ref 109, .int a1] σ (some (.int r1)) σ2, ¬ (r1 = 0), E0 D 145 [.int a2, .int (0 : Int32), .int (2 : Int32)] σ2 (some (.int r5)) σ6, r5 = 0] rfl ⟨(ww_Md_isKept D (by omega) a1 σ r1 σ2 h3), h4, (ww_Md_in D (by omega) a2 (0 : Int32) (2 : Int32) σ2 r5 σ6 h7), h8, trivial⟩
    · obtain ⟨h9, hf⟩ := z_ck_inv hf
      obtain ⟨e1, e2⟩ := z_ret hf
      subst e1
      subst e2
      exact gx_end 23 [.inr (some (.int r1), σ2), .inl 0, .inr (some (.int r5), σ6), .inl 0] [E0 D 233 [.ref 109, .int a1] σ (some (.int r1)) σ2, ¬ (r1 = 0), E0 D 145 [.int a2, .int (0 : Int32), .int (2 : Int32)] σ2 (some (.int r5)) σ6, ¬ (r5 = 0), ¬ (60 : Int32) = 0, vp_in (((164 : Int32) + ((3 : Int32) * (a1 - a1 / (60 : Int32) * (60 : Int32)))) + a2) 8880] rfl ⟨(ww_Md_isKept D (by omega) a1 σ r1 σ2 h3), h4, (ww_Md_in D (by omega) a2 (0 : Int32) (2 : Int32) σ2 r5 σ6 h7), h8, (by decide), (z_ix_in h9), trivial⟩
set_option maxHeartbeats 16000000 in
set_option maxRecDepth 20000 in
theorem ww_Md_kept (D : Nat) (hD : 3 ≤ D) (a1 : Int32) (a2 : Int32) (σ : gx_R) (rr : Int32) (σ' : gx_R) (hf : Md_kept a1 a2 σ = some (rr, σ')) : E0 D 234 [.ref 109, .int a1, .int a2] σ (some (.int rr)) σ' := by
  cases D with
  | zero => omega
  | succ D => exact Or.inl ⟨Nat.le_of_ble_eq_true rfl, vv_Md_kept_E D hD rr σ' a1 a2 σ hf⟩
set_option maxHeartbeats 16000000 in
set_option maxRecDepth 20000 in
theorem vv_Md_foretoldDone_23 (D : Nat) (hD : 7 ≤ D + 1) (rr : Int32) (σ' : gx_R) (a2 : Int32) (σ : gx_R) (hf : Md_foretoldDone_23 a2 σ = some (rr, σ')) : gx_Ev lay0 (E0 D) tt_235 (some (.int rr)) σ' 23 [.ref 109, .null, .int a2, .null, .null] [] σ := by
  unfold Md_foretoldDone_23 at hf
  obtain ⟨h1, hf⟩ := z_ck_inv hf
  obtain ⟨e1, e2⟩ := z_ret hf
  subst e1
  subst e2
  exact gx_end 5 [] [vp_in a2 6] rfl ⟨(z_ix_in h1), trivial⟩
set_option maxHeartbeats 16000000 in
set_option maxRecDepth 20000 in
theorem vv_Md_foretoldDone_15_B (D : Nat) (hD : 7 ≤ D + 1) (rr : Int32) (σ' : gx_R) (K15 : Int32 → Int32 → Int32 → gx_R → Option (Int32 × gx_R)) (hK15 : ∀ (a1 : Int32) (a2 : Int32) (a3 : Int32) (σ : gx_R), K15 a1 a2 a3 σ = some (rr, σ') → gx_Ev lay0 (E0 D) tt_235 (some (.int rr)) σ' 15 [.ref 109, .int a1, .int a2, .int a3, .null] [] σ) (a1 : Int32) (a2 : Int32) (a3 : Int32) (σ : gx_R) (hf : Md_foretoldDone_15_B K15 a1 a2 a3 σ = some (rr, σ')) : gx_Ev lay0 (E0 D) tt_235 (some (.int rr)) σ' 15 [.ref 109, .int a1, .int a2, .int a3, .null] [] σ := by
  unfold Md_foretoldDone_15_B at hf
  rcases z_if_inv hf with ⟨h1, hf⟩ | ⟨h1, hf⟩
  · exact gx_go_ 3 [.inl 1] [a1 ≤ a3] 23 [.ref 109, .int a1, .int a2, .int a3, .null] [] σ rfl ⟨h1, trivial⟩ (gx_fgt (ls' := [.ref 109, .null, .int a2, .null, .null]) ⟨Or.inr rfl, Or.inl rfl, Or.inr rfl, Or.inl rfl, Or.inl rfl, trivial⟩ (vv_Md_foretoldDone_23 D hD rr σ' a2 σ hf))
  · obtain ⟨r2, σ3, h4, hf⟩ := z_bd_inv hf
    exact gx_go_ 8 [.inl 0, .inr (some (.int r2), σ3)] [¬ (a1 ≤ a3), E0 D 212 [.ref 109] σ (some (.int r2)) σ3] 15 [.ref 109, .int a1, .int a2, .int (a3 + 1), .int r2] [] σ3 rfl ⟨h1, (ww_Md_hourGoes D (by omega) σ r2 σ3 h4), trivial⟩ (gx_fgt (ls' := [.ref 109, .int a1, .int a2, .int (a3 + 1), .null]) ⟨Or.inr rfl, Or.inr rfl, Or.inr rfl, Or.inr rfl, Or.inl rfl, trivial⟩ (hK15 a1 a2 (a3 + 1) σ3 hf))
set_option maxHeartbeats 16000000 in
set_option maxRecDepth 20000 in
theorem vv_Md_foretoldDone_15 (D : Nat) (hD : 7 ≤ D + 1) (rr : Int32) (σ' : gx_R) : ∀ (n : Nat) (a1 : Int32) (a2 : Int32) (a3 : Int32) (σ : gx_R), Md_foretoldDone_15 n a1 a2 a3 σ = some (rr, σ') → gx_Ev lay0 (E0 D) tt_235 (some (.int rr)) σ' 15 [.ref 109, .int a1, .int a2, .int a3, .null] [] σ := by
  intro n
  induction n with
  | zero => intro a1 a2 a3 σ  hf; cases hf
  | succ n ih => intro a1 a2 a3 σ  hf; exact vv_Md_foretoldDone_15_B D hD rr σ'  (Md_foretoldDone_15 n) ih a1 a2 a3 σ  hf
set_option maxHeartbeats 16000000 in
set_option maxRecDepth 20000 in
theorem vv_Md_foretoldDone_E (D : Nat) (hD : 7 ≤ D + 1) (rr : Int32) (σ' : gx_R) (a1 : Int32) (a2 : Int32) (σ : gx_R) (hf : Md_foretoldDone a1 a2 σ = some (rr, σ')) : gx_Ev lay0 (E0 D) tt_235 (some (.int rr)) σ' 0 [.ref 109, .int a1, .int a2, .null, .null] [] σ := by
  unfold Md_foretoldDone at hf
  obtain ⟨r1, σ2, h3, hf⟩ := z_bd_inv hf
  rcases z_if_inv hf with ⟨h4, hf⟩ | ⟨h4, hf⟩
  · obtain ⟨e1, e2⟩ := z_ret hf
    subst e1
    subst e2
    exact gx_end 7 [.inr (some (.int r1), σ2), .inl 1] [E0 D 145 [.int a1, .int (1 : Int32), .int (60 : Int32)] σ (some (.int r1)) σ2, r1 = 0] rfl ⟨(ww_Md_in D (by omega) a1 (1 : Int32) (60 : Int32) σ r1 σ2 h3), h4, trivial⟩
  · obtain ⟨r5, σ6, h7, hf⟩ := z_bd_inv hf
    rcases z_if_inv hf with ⟨h8, hf⟩ | ⟨h8, hf⟩
    · obtain ⟨e1, e2⟩ := z_ret hf
      subst e1
      subst e2
      exact gx_end 11 [.inr (some (.int r1), σ2), .inl 0, .inr (some (.int r5), σ6), .inl 0] [E0 D 145 [.int a1, .int (1 : Int32), .int (60 : Int32)] σ (some (.int r1)) σ2, ¬ (r1 = 0), E0 D 150 [.ref 109, .int a2] σ2 (some (.int r5)) σ6, ¬ ¬ (r5 = 0)] rfl ⟨(ww_Md_in D (by omega) a1 (1 : Int32) (60 : Int32) σ r1 σ2 h3), h4, (ww_Md_isWork D (by omega) a2 σ2 r5 σ6 h7), (fun q => q h8), trivial⟩
    · obtain ⟨⟨⟩, σ10, h11, hf⟩ := z_bd_inv hf
      exact gx_go_ 13 [.inr (some (.int r1), σ2), .inl 0, .inr (some (.int r5), σ6), .inl 1, .inr (none, σ10)] [E0 D 145 [.int a1, .int (1 : Int32), .int (60 : Int32)] σ (some (.int r1)) σ2, ¬ (r1 = 0), E0 D 150 [.ref 109, .int a2] σ2 (some (.int r5)) σ6, ¬ (r5 = 0), E0 D 198 [.ref 109] σ6 (none) σ10] 15 [.ref 109, .int a1, .int a2, .int (0 : Int32), .null] [] σ10 rfl ⟨(ww_Md_in D (by omega) a1 (1 : Int32) (60 : Int32) σ r1 σ2 h3), h4, (ww_Md_isWork D (by omega) a2 σ2 r5 σ6 h7), h8, (ww_Md_laysNow D (by omega) σ6 () σ10 h11), trivial⟩ (gx_fgt (ls' := [.ref 109, .int a1, .int a2, .int (0 : Int32), .null]) ⟨Or.inr rfl, Or.inr rfl, Or.inr rfl, Or.inr rfl, Or.inl rfl, trivial⟩ (vv_Md_foretoldDone_15 D hD rr σ' z_FU a1 a2 (0 : Int32) σ10 hf))
set_option maxHeartbeats 16000000 in
set_option maxRecDepth 20000 in
theorem ww_Md_foretoldDone (D : Nat) (hD : 7 ≤ D) (a1 : Int32) (a2 : Int32) (σ : gx_R) (rr : Int32) (σ' : gx_R) (hf : Md_foretoldDone a1 a2 σ = some (rr, σ')) : E0 D 235 [.ref 109, .int a1, .int a2] σ (some (.int rr)) σ' := by
  cases D with
  | zero => omega
  | succ D => exact Or.inl ⟨Nat.le_of_ble_eq_true rfl, vv_Md_foretoldDone_E D hD rr σ' a1 a2 σ hf⟩
set_option maxHeartbeats 16000000 in
set_option maxRecDepth 20000 in
theorem vv_Md_foretoldStop_15_B (D : Nat) (hD : 7 ≤ D + 1) (rr : Int32) (σ' : gx_R) (K15 : Int32 → Int32 → Int32 → gx_R → Option (Int32 × gx_R)) (hK15 : ∀ (a1 : Int32) (a2 : Int32) (a3 : Int32) (σ : gx_R), K15 a1 a2 a3 σ = some (rr, σ') → gx_Ev lay0 (E0 D) tt_236 (some (.int rr)) σ' 15 [.ref 109, .int a1, .int a2, .int a3, .null] [] σ) (a1 : Int32) (a2 : Int32) (a3 : Int32) (σ : gx_R) (hf : Md_foretoldStop_15_B K15 a1 a2 a3 σ = some (rr, σ')) : gx_Ev lay0 (E0 D) tt_236 (some (.int rr)) σ' 15 [.ref 109, .int a1, .int a2, .int a3, .null] [] σ := by
  unfold Md_foretoldStop_15_B at hf
  rcases z_if_inv hf with ⟨h1, hf⟩ | ⟨h1, hf⟩
  · obtain ⟨e1, e2⟩ := z_ret hf
    subst e1
    subst e2
    exact gx_end 5 [.inl 1] [a1 < a3] rfl ⟨h1, trivial⟩
  · obtain ⟨r2, σ3, h4, hf⟩ := z_bd_inv hf
    obtain ⟨r5, σ6, h7, hf⟩ := z_bd_inv hf
    rcases z_if_inv hf with ⟨h8, hf⟩ | ⟨h8, hf⟩
    · exact gx_go_ 13 [.inl 0, .inr (some (.int r2), σ3), .inr (some (.int r5), σ6), .inl 1] [¬ (a1 < a3), E0 D 212 [.ref 109] σ (some (.int r2)) σ3, E0 D 146 [.int (σ3 109 51), .int a2] σ3 (some (.int r5)) σ6, r5 = 0] 15 [.ref 109, .int a1, .int a2, .int (a3 + 1), .int r2] [] σ6 rfl ⟨h1, (ww_Md_hourGoes D (by omega) σ r2 σ3 h4), (ww_Md_has D (by omega) (σ3 109 51) a2 σ3 r5 σ6 h7), h8, trivial⟩ (gx_fgt (ls' := [.ref 109, .int a1, .int a2, .int (a3 + 1), .null]) ⟨Or.inr rfl, Or.inr rfl, Or.inr rfl, Or.inr rfl, Or.inl rfl, trivial⟩ (hK15 a1 a2 (a3 + 1) σ6 hf))
    · obtain ⟨e1, e2⟩ := z_ret hf
      subst e1
      subst e2
      exact gx_end 13 [.inl 0, .inr (some (.int r2), σ3), .inr (some (.int r5), σ6), .inl 0] [¬ (a1 < a3), E0 D 212 [.ref 109] σ (some (.int r2)) σ3, E0 D 146 [.int (σ3 109 51), .int a2] σ3 (some (.int r5)) σ6, ¬ (r5 = 0)] rfl ⟨h1, (ww_Md_hourGoes D (by omega) σ r2 σ3 h4), (ww_Md_has D (by omega) (σ3 109 51) a2 σ3 r5 σ6 h7), h8, trivial⟩
set_option maxHeartbeats 16000000 in
set_option maxRecDepth 20000 in
theorem vv_Md_foretoldStop_15 (D : Nat) (hD : 7 ≤ D + 1) (rr : Int32) (σ' : gx_R) : ∀ (n : Nat) (a1 : Int32) (a2 : Int32) (a3 : Int32) (σ : gx_R), Md_foretoldStop_15 n a1 a2 a3 σ = some (rr, σ') → gx_Ev lay0 (E0 D) tt_236 (some (.int rr)) σ' 15 [.ref 109, .int a1, .int a2, .int a3, .null] [] σ := by
  intro n
  induction n with
  | zero => intro a1 a2 a3 σ  hf; cases hf
  | succ n ih => intro a1 a2 a3 σ  hf; exact vv_Md_foretoldStop_15_B D hD rr σ'  (Md_foretoldStop_15 n) ih a1 a2 a3 σ  hf
set_option maxHeartbeats 16000000 in
set_option maxRecDepth 20000 in
theorem vv_Md_foretoldStop_E (D : Nat) (hD : 7 ≤ D + 1) (rr : Int32) (σ' : gx_R) (a1 : Int32) (a2 : Int32) (σ : gx_R) (hf : Md_foretoldStop a1 a2 σ = some (rr, σ')) : gx_Ev lay0 (E0 D) tt_236 (some (.int rr)) σ' 0 [.ref 109, .int a1, .int a2, .null, .null] [] σ := by
  unfold Md_foretoldStop at hf
  obtain ⟨r1, σ2, h3, hf⟩ := z_bd_inv hf
  rcases z_if_inv hf with ⟨h4, hf⟩ | ⟨h4, hf⟩
  · obtain ⟨e1, e2⟩ := z_ret hf
    subst e1
    subst e2
    exact gx_end 7 [.inr (some (.int r1), σ2), .inl 1] [E0 D 145 [.int a1, .int (1 : Int32), .int (60 : Int32)] σ (some (.int r1)) σ2, r1 = 0] rfl ⟨(ww_Md_in D (by omega) a1 (1 : Int32) (60 : Int32) σ r1 σ2 h3), h4, trivial⟩
  · obtain ⟨r5, σ6, h7, hf⟩ := z_bd_inv hf
    rcases z_if_inv hf with ⟨h8, hf⟩ | ⟨h8, hf⟩
    · obtain ⟨e1, e2⟩ := z_ret hf
      subst e1
      subst e2
      exact gx_end 11 [.inr (some (.int r1), σ2), .inl 0, .inr (some (.int r5), σ6), .inl 0] [E0 D 145 [.int a1, .int (1 : Int32), .int (60 : Int32)] σ (some (.int r1)) σ2, ¬ (r1 = 0), E0 D 149 [.ref 109, .int a2] σ2 (some (.int r5)) σ6, ¬ ¬ (r5 = 0)] rfl ⟨(ww_Md_in D (by omega) a1 (1 : Int32) (60 : Int32) σ r1 σ2 h3), h4, (ww_Md_isPerson D (by omega) a2 σ2 r5 σ6 h7), (fun q => q h8), trivial⟩
    · obtain ⟨⟨⟩, σ10, h11, hf⟩ := z_bd_inv hf
      exact gx_go_ 13 [.inr (some (.int r1), σ2), .inl 0, .inr (some (.int r5), σ6), .inl 1, .inr (none, σ10)] [E0 D 145 [.int a1, .int (1 : Int32), .int (60 : Int32)] σ (some (.int r1)) σ2, ¬ (r1 = 0), E0 D 149 [.ref 109, .int a2] σ2 (some (.int r5)) σ6, ¬ (r5 = 0), E0 D 198 [.ref 109] σ6 (none) σ10] 15 [.ref 109, .int a1, .int a2, .int (1 : Int32), .null] [] σ10 rfl ⟨(ww_Md_in D (by omega) a1 (1 : Int32) (60 : Int32) σ r1 σ2 h3), h4, (ww_Md_isPerson D (by omega) a2 σ2 r5 σ6 h7), h8, (ww_Md_laysNow D (by omega) σ6 () σ10 h11), trivial⟩ (gx_fgt (ls' := [.ref 109, .int a1, .int a2, .int (1 : Int32), .null]) ⟨Or.inr rfl, Or.inr rfl, Or.inr rfl, Or.inr rfl, Or.inl rfl, trivial⟩ (vv_Md_foretoldStop_15 D hD rr σ' z_FU a1 a2 (1 : Int32) σ10 hf))
set_option maxHeartbeats 16000000 in
set_option maxRecDepth 20000 in
theorem ww_Md_foretoldStop (D : Nat) (hD : 7 ≤ D) (a1 : Int32) (a2 : Int32) (σ : gx_R) (rr : Int32) (σ' : gx_R) (hf : Md_foretoldStop a1 a2 σ = some (rr, σ')) : E0 D 236 [.ref 109, .int a1, .int a2] σ (some (.int rr)) σ' := by
  cases D with
  | zero => omega
  | succ D => exact Or.inl ⟨Nat.le_of_ble_eq_true rfl, vv_Md_foretoldStop_E D hD rr σ' a1 a2 σ hf⟩
set_option maxHeartbeats 16000000 in
set_option maxRecDepth 20000 in
theorem vv_Md_laysMatch_158 (D : Nat) (hD : 5 ≤ D + 1) (rr : Int32) (σ' : gx_R) (K94 : Int32 → Int32 → gx_R → Option (Int32 × gx_R)) (hK94 : ∀ (a4 : Int32) (a5 : Int32) (σ : gx_R), K94 a4 a5 σ = some (rr, σ') → gx_Ev lay0 (E0 D) tt_237 (some (.int rr)) σ' 94 [.ref 109, .null, .null, .null, .int a4, .int a5, .null] [] σ) (a4 : Int32) (a5 : Int32) (s1 : Int32) (s2 : Int32) (σ : gx_R) (hf : Md_laysMatch_158 K94 a4 a5 s1 s2 σ = some (rr, σ')) : gx_Ev lay0 (E0 D) tt_237 (some (.int rr)) σ' 158 [.ref 109, .null, .null, .null, .int a4, .int a5, .null] [.int s2, .int s1, .ref 144] σ := by
  unfold Md_laysMatch_158 at hf
  obtain ⟨h1, hf⟩ := z_ck_inv hf
  exact gx_go_ 3 [] [vp_in s1 64] 94 [.ref 109, .null, .null, .null, .int a4, .int (a5 + 1), .null] [] (gx_up σ 144 s1.toNatClampNeg s2) rfl ⟨(z_ix_in h1), trivial⟩ (gx_fgt (ls' := [.ref 109, .null, .null, .null, .int a4, .int (a5 + 1), .null]) ⟨Or.inr rfl, Or.inl rfl, Or.inl rfl, Or.inl rfl, Or.inr rfl, Or.inr rfl, Or.inl rfl, trivial⟩ (hK94 a4 (a5 + 1) (gx_up σ 144 s1.toNatClampNeg s2) hf))
set_option maxHeartbeats 16000000 in
set_option maxRecDepth 20000 in
theorem vv_Md_laysMatch_136 (D : Nat) (hD : 5 ≤ D + 1) (rr : Int32) (σ' : gx_R) (K94 : Int32 → Int32 → gx_R → Option (Int32 × gx_R)) (hK94 : ∀ (a4 : Int32) (a5 : Int32) (σ : gx_R), K94 a4 a5 σ = some (rr, σ') → gx_Ev lay0 (E0 D) tt_237 (some (.int rr)) σ' 94 [.ref 109, .null, .null, .null, .int a4, .int a5, .null] [] σ) (a4 : Int32) (a5 : Int32) (a6 : Int32) (s1 : Int32) (s2 : Int32) (σ : gx_R) (hf : Md_laysMatch_136 K94 a4 a5 a6 s1 s2 σ = some (rr, σ')) : gx_Ev lay0 (E0 D) tt_237 (some (.int rr)) σ' 136 [.ref 109, .null, .null, .null, .int a4, .int a5, .int a6] [.int s2, .int s1, .ref 143] σ := by
  unfold Md_laysMatch_136 at hf
  obtain ⟨h1, hf⟩ := z_ck_inv hf
  rcases z_if_inv hf with ⟨h2, hf⟩ | ⟨h2, hf⟩
  · exact gx_go_ 11 [.inl 1] [vp_in s1 64, a6 = 0] 158 [.ref 109, .null, .null, .null, .int a4, .int a5, .int a6] [.int (0 : Int32), .int (((8 : Int32) * a4) + a5), .ref 144] (gx_up σ 143 s1.toNatClampNeg s2) rfl ⟨(z_ix_in h1), h2, trivial⟩ (gx_fgt (ls' := [.ref 109, .null, .null, .null, .int a4, .int a5, .null]) ⟨Or.inr rfl, Or.inl rfl, Or.inl rfl, Or.inl rfl, Or.inr rfl, Or.inr rfl, Or.inl rfl, trivial⟩ (vv_Md_laysMatch_158 D hD rr σ' K94 hK94 a4 a5 (((8 : Int32) * a4) + a5) (0 : Int32) (gx_up σ 143 s1.toNatClampNeg s2) hf))
  · obtain ⟨h3, hf⟩ := z_ck_inv hf
    obtain ⟨h4, hf⟩ := z_ck_inv hf
    obtain ⟨r5, σ6, h7, hf⟩ := z_bd_inv hf
    exact gx_go_ 21 [.inl 0, .inr (some (.int r5), σ6)] [vp_in s1 64, ¬ (a6 = 0), vp_in a4 8, vp_in a5 8, E0 D 204 [.ref 109, .int ((gx_up σ 143 s1.toNatClampNeg s2) 142 a4.toNatClampNeg), .int ((gx_up σ 143 s1.toNatClampNeg s2) 141 a5.toNatClampNeg)] (gx_up σ 143 s1.toNatClampNeg s2) (some (.int r5)) σ6] 158 [.ref 109, .null, .null, .null, .int a4, .int a5, .int a6] [.int r5, .int (((8 : Int32) * a4) + a5), .ref 144] σ6 rfl ⟨(z_ix_in h1), h2, (z_ix_in h3), (z_ix_in h4), (ww_Md_priceOf D (by omega) ((gx_up σ 143 s1.toNatClampNeg s2) 142 a4.toNatClampNeg) ((gx_up σ 143 s1.toNatClampNeg s2) 141 a5.toNatClampNeg) (gx_up σ 143 s1.toNatClampNeg s2) r5 σ6 h7), trivial⟩ (gx_fgt (ls' := [.ref 109, .null, .null, .null, .int a4, .int a5, .null]) ⟨Or.inr rfl, Or.inl rfl, Or.inl rfl, Or.inl rfl, Or.inr rfl, Or.inr rfl, Or.inl rfl, trivial⟩ (vv_Md_laysMatch_158 D hD rr σ' K94 hK94 a4 a5 (((8 : Int32) * a4) + a5) r5 σ6 hf))
set_option maxHeartbeats 16000000 in
set_option maxRecDepth 20000 in
theorem vv_Md_laysMatch_161 (D : Nat) (hD : 5 ≤ D + 1) (rr : Int32) (σ' : gx_R) (K88 : Int32 → gx_R → Option (Int32 × gx_R)) (hK88 : ∀ (a4 : Int32) (σ : gx_R), K88 a4 σ = some (rr, σ') → gx_Ev lay0 (E0 D) tt_237 (some (.int rr)) σ' 88 [.ref 109, .null, .null, .null, .int a4, .null, .null] [] σ) (a4 : Int32) (σ : gx_R) (hf : Md_laysMatch_161 K88 a4 σ = some (rr, σ')) : gx_Ev lay0 (E0 D) tt_237 (some (.int rr)) σ' 161 [.ref 109, .null, .null, .null, .int a4, .null, .null] [] σ := by
  unfold Md_laysMatch_161 at hf
  exact gx_go_ 2 [] [] 88 [.ref 109, .null, .null, .null, .int (a4 + 1), .null, .null] [] σ rfl trivial (gx_fgt (ls' := [.ref 109, .null, .null, .null, .int (a4 + 1), .null, .null]) ⟨Or.inr rfl, Or.inl rfl, Or.inl rfl, Or.inl rfl, Or.inr rfl, Or.inl rfl, Or.inl rfl, trivial⟩ (hK88 (a4 + 1) σ hf))
set_option maxHeartbeats 16000000 in
set_option maxRecDepth 20000 in
theorem vv_Md_laysMatch_84 (D : Nat) (hD : 5 ≤ D + 1) (rr : Int32) (σ' : gx_R) (K36 : Int32 → Int32 → Int32 → Int32 → gx_R → Option (Int32 × gx_R)) (hK36 : ∀ (a1 : Int32) (a2 : Int32) (a3 : Int32) (a4 : Int32) (σ : gx_R), K36 a1 a2 a3 a4 σ = some (rr, σ') → gx_Ev lay0 (E0 D) tt_237 (some (.int rr)) σ' 36 [.ref 109, .int a1, .int a2, .int a3, .int a4, .null, .null] [] σ) (a1 : Int32) (a2 : Int32) (a3 : Int32) (a4 : Int32) (σ : gx_R) (hf : Md_laysMatch_84 K36 a1 a2 a3 a4 σ = some (rr, σ')) : gx_Ev lay0 (E0 D) tt_237 (some (.int rr)) σ' 84 [.ref 109, .int a1, .int a2, .int a3, .int a4, .null, .null] [] σ := by
  unfold Md_laysMatch_84 at hf
  exact gx_go_ 2 [] [] 36 [.ref 109, .int a1, .int a2, .int a3, .int (a4 + 1), .null, .null] [] σ rfl trivial (gx_fgt (ls' := [.ref 109, .int a1, .int a2, .int a3, .int (a4 + 1), .null, .null]) ⟨Or.inr rfl, Or.inr rfl, Or.inr rfl, Or.inr rfl, Or.inr rfl, Or.inl rfl, Or.inl rfl, trivial⟩ (hK36 a1 a2 a3 (a4 + 1) σ hf))
set_option maxHeartbeats 16000000 in
set_option maxRecDepth 20000 in
theorem vv_Md_laysMatch_94_B (D : Nat) (hD : 5 ≤ D + 1) (rr : Int32) (σ' : gx_R) (K88 : Int32 → gx_R → Option (Int32 × gx_R)) (hK88 : ∀ (a4 : Int32) (σ : gx_R), K88 a4 σ = some (rr, σ') → gx_Ev lay0 (E0 D) tt_237 (some (.int rr)) σ' 88 [.ref 109, .null, .null, .null, .int a4, .null, .null] [] σ) (K94 : Int32 → Int32 → gx_R → Option (Int32 × gx_R)) (hK94 : ∀ (a4 : Int32) (a5 : Int32) (σ : gx_R), K94 a4 a5 σ = some (rr, σ') → gx_Ev lay0 (E0 D) tt_237 (some (.int rr)) σ' 94 [.ref 109, .null, .null, .null, .int a4, .int a5, .null] [] σ) (a4 : Int32) (a5 : Int32) (σ : gx_R) (hf : Md_laysMatch_94_B K88 K94 a4 a5 σ = some (rr, σ')) : gx_Ev lay0 (E0 D) tt_237 (some (.int rr)) σ' 94 [.ref 109, .null, .null, .null, .int a4, .int a5, .null] [] σ := by
  unfold Md_laysMatch_94_B at hf
  rcases z_if_inv hf with ⟨h1, hf⟩ | ⟨h1, hf⟩
  · exact gx_go_ 4 [.inl 1] [(σ 109 58) ≤ a5] 161 [.ref 109, .null, .null, .null, .int a4, .int a5, .null] [] σ rfl ⟨h1, trivial⟩ (gx_fgt (ls' := [.ref 109, .null, .null, .null, .int a4, .null, .null]) ⟨Or.inr rfl, Or.inl rfl, Or.inl rfl, Or.inl rfl, Or.inr rfl, Or.inl rfl, Or.inl rfl, trivial⟩ (vv_Md_laysMatch_161 D hD rr σ' K88 hK88 a4 σ hf))
  · obtain ⟨h2, hf⟩ := z_ck_inv hf
    obtain ⟨h3, hf⟩ := z_ck_inv hf
    obtain ⟨h4, hf⟩ := z_ck_inv hf
    obtain ⟨r5, σ6, h7, hf⟩ := z_bd_inv hf
    rcases z_if_inv hf with ⟨h8, hf⟩ | ⟨h8, hf⟩
    · exact gx_go_ 29 [.inl 0, .inr (some (.int r5), σ6), .inl 1] [¬ ((σ 109 58) ≤ a5), vp_in a4 8, vp_in ((26 : Int32) + (σ 142 a4.toNatClampNeg)) 8880, vp_in a5 8, E0 D 146 [.int (σ 110 (((26 : Int32) + (σ 142 a4.toNatClampNeg)).toNatClampNeg)), .int (σ 141 a5.toNatClampNeg)] σ (some (.int r5)) σ6, r5 = 0] 136 [.ref 109, .null, .null, .null, .int a4, .int a5, .int r5] [.int (-1 : Int32), .int (((8 : Int32) * a4) + a5), .ref 143] σ6 rfl ⟨h1, (z_ix_in h2), (z_ix_in h3), (z_ix_in h4), (ww_Md_has D (by omega) (σ 110 (((26 : Int32) + (σ 142 a4.toNatClampNeg)).toNatClampNeg)) (σ 141 a5.toNatClampNeg) σ r5 σ6 h7), h8, trivial⟩ (gx_fgt (ls' := [.ref 109, .null, .null, .null, .int a4, .int a5, .int r5]) ⟨Or.inr rfl, Or.inl rfl, Or.inl rfl, Or.inl rfl, Or.inr rfl, Or.inr rfl, Or.inr rfl, trivial⟩ (vv_Md_laysMatch_136 D hD rr σ' K94 hK94 a4 a5 r5 (((8 : Int32) * a4) + a5) (-1 : Int32) σ6 hf))
    · obtain ⟨h9, hf⟩ := z_ck_inv hf
      obtain ⟨h10, hf⟩ := z_ck_inv hf
      obtain ⟨r11, σ12, h13, hf⟩ := z_bd_inv hf
      exact gx_go_ 41 [.inl 0, .inr (some (.int r5), σ6), .inl 0, .inr (some (.int r11), σ12)] [¬ ((σ 109 58) ≤ a5), vp_in a4 8, vp_in ((26 : Int32) + (σ 142 a4.toNatClampNeg)) 8880, vp_in a5 8, E0 D 146 [.int (σ 110 (((26 : Int32) + (σ 142 a4.toNatClampNeg)).toNatClampNeg)), .int (σ 141 a5.toNatClampNeg)] σ (some (.int r5)) σ6, ¬ (r5 = 0), vp_in a4 8, vp_in a5 8, E0 D 201 [.ref 109, .int (σ6 142 a4.toNatClampNeg), .int (0 : Int32), .int (0 : Int32), .int (σ6 141 a5.toNatClampNeg)] σ6 (some (.int r11)) σ12] 136 [.ref 109, .null, .null, .null, .int a4, .int a5, .int r5] [.int r11, .int (((8 : Int32) * a4) + a5), .ref 143] σ12 rfl ⟨h1, (z_ix_in h2), (z_ix_in h3), (z_ix_in h4), (ww_Md_has D (by omega) (σ 110 (((26 : Int32) + (σ 142 a4.toNatClampNeg)).toNatClampNeg)) (σ 141 a5.toNatClampNeg) σ r5 σ6 h7), h8, (z_ix_in h9), (z_ix_in h10), (ww_Md_worthBy D (by omega) (σ6 142 a4.toNatClampNeg) (0 : Int32) (0 : Int32) (σ6 141 a5.toNatClampNeg) σ6 r11 σ12 h13), trivial⟩ (gx_fgt (ls' := [.ref 109, .null, .null, .null, .int a4, .int a5, .int r5]) ⟨Or.inr rfl, Or.inl rfl, Or.inl rfl, Or.inl rfl, Or.inr rfl, Or.inr rfl, Or.inr rfl, trivial⟩ (vv_Md_laysMatch_136 D hD rr σ' K94 hK94 a4 a5 r5 (((8 : Int32) * a4) + a5) r11 σ12 hf))
set_option maxHeartbeats 16000000 in
set_option maxRecDepth 20000 in
theorem vv_Md_laysMatch_94 (D : Nat) (hD : 5 ≤ D + 1) (rr : Int32) (σ' : gx_R) (K88 : Int32 → gx_R → Option (Int32 × gx_R)) (hK88 : ∀ (a4 : Int32) (σ : gx_R), K88 a4 σ = some (rr, σ') → gx_Ev lay0 (E0 D) tt_237 (some (.int rr)) σ' 88 [.ref 109, .null, .null, .null, .int a4, .null, .null] [] σ) : ∀ (n : Nat) (a4 : Int32) (a5 : Int32) (σ : gx_R), Md_laysMatch_94 K88 n a4 a5 σ = some (rr, σ') → gx_Ev lay0 (E0 D) tt_237 (some (.int rr)) σ' 94 [.ref 109, .null, .null, .null, .int a4, .int a5, .null] [] σ := by
  intro n
  induction n with
  | zero => intro a4 a5 σ  hf; cases hf
  | succ n ih => intro a4 a5 σ  hf; exact vv_Md_laysMatch_94_B D hD rr σ'  K88 hK88 (Md_laysMatch_94 K88 n) ih a4 a5 σ  hf
set_option maxHeartbeats 16000000 in
set_option maxRecDepth 20000 in
theorem vv_Md_laysMatch_68 (D : Nat) (hD : 5 ≤ D + 1) (rr : Int32) (σ' : gx_R) (K36 : Int32 → Int32 → Int32 → Int32 → gx_R → Option (Int32 × gx_R)) (hK36 : ∀ (a1 : Int32) (a2 : Int32) (a3 : Int32) (a4 : Int32) (σ : gx_R), K36 a1 a2 a3 a4 σ = some (rr, σ') → gx_Ev lay0 (E0 D) tt_237 (some (.int rr)) σ' 36 [.ref 109, .int a1, .int a2, .int a3, .int a4, .null, .null] [] σ) (a1 : Int32) (a2 : Int32) (a3 : Int32) (a4 : Int32) (σ : gx_R) (hf : Md_laysMatch_68 K36 a1 a2 a3 a4 σ = some (rr, σ')) : gx_Ev lay0 (E0 D) tt_237 (some (.int rr)) σ' 68 [.ref 109, .int a1, .int a2, .int a3, .int a4, .null, .null] [] σ := by
  unfold Md_laysMatch_68 at hf
  obtain ⟨r1, σ2, h3, hf⟩ := z_bd_inv hf
  rcases z_if_inv hf with ⟨h4, hf⟩ | ⟨h4, hf⟩
  · exact gx_go_ 4 [.inr (some (.int r1), σ2), .inl 1] [E0 D 146 [.int a3, .int a4] σ (some (.int r1)) σ2, r1 = 0] 84 [.ref 109, .int a1, .int a2, .int a3, .int a4, .null, .null] [] σ2 rfl ⟨(ww_Md_has D (by omega) a3 a4 σ r1 σ2 h3), h4, trivial⟩ (gx_fgt (ls' := [.ref 109, .int a1, .int a2, .int a3, .int a4, .null, .null]) ⟨Or.inr rfl, Or.inr rfl, Or.inr rfl, Or.inr rfl, Or.inr rfl, Or.inl rfl, Or.inl rfl, trivial⟩ (vv_Md_laysMatch_84 D hD rr σ' K36 hK36 a1 a2 a3 a4 σ2 hf))
  · obtain ⟨h5, hf⟩ := z_ck_inv hf
    exact gx_go_ 16 [.inr (some (.int r1), σ2), .inl 0] [E0 D 146 [.int a3, .int a4] σ (some (.int r1)) σ2, ¬ (r1 = 0), vp_in (σ2 109 59) 8] 84 [.ref 109, .int a1, .int a2, .int a3, .int a4, .null, .null] [] (gx_up (gx_up σ2 142 (σ2 109 59).toNatClampNeg a4) 109 59 (((gx_up σ2 142 (σ2 109 59).toNatClampNeg a4) 109 59) + (1 : Int32))) rfl ⟨(ww_Md_has D (by omega) a3 a4 σ r1 σ2 h3), h4, (z_ix_in h5), trivial⟩ (gx_fgt (ls' := [.ref 109, .int a1, .int a2, .int a3, .int a4, .null, .null]) ⟨Or.inr rfl, Or.inr rfl, Or.inr rfl, Or.inr rfl, Or.inr rfl, Or.inl rfl, Or.inl rfl, trivial⟩ (vv_Md_laysMatch_84 D hD rr σ' K36 hK36 a1 a2 a3 a4 (gx_up (gx_up σ2 142 (σ2 109 59).toNatClampNeg a4) 109 59 (((gx_up σ2 142 (σ2 109 59).toNatClampNeg a4) 109 59) + (1 : Int32))) hf))
set_option maxHeartbeats 16000000 in
set_option maxRecDepth 20000 in
theorem vv_Md_laysMatch_88_B (D : Nat) (hD : 5 ≤ D + 1) (rr : Int32) (σ' : gx_R) (K88 : Int32 → gx_R → Option (Int32 × gx_R)) (hK88 : ∀ (a4 : Int32) (σ : gx_R), K88 a4 σ = some (rr, σ') → gx_Ev lay0 (E0 D) tt_237 (some (.int rr)) σ' 88 [.ref 109, .null, .null, .null, .int a4, .null, .null] [] σ) (a4 : Int32) (σ : gx_R) (hf : Md_laysMatch_88_B K88 a4 σ = some (rr, σ')) : gx_Ev lay0 (E0 D) tt_237 (some (.int rr)) σ' 88 [.ref 109, .null, .null, .null, .int a4, .null, .null] [] σ := by
  unfold Md_laysMatch_88_B at hf
  rcases z_if_inv hf with ⟨h1, hf⟩ | ⟨h1, hf⟩
  · obtain ⟨e1, e2⟩ := z_ret hf
    subst e1
    subst e2
    exact gx_end 6 [.inl 1] [(σ 109 59) ≤ a4, (1 : Int32) &&& 1 = (1 : Int32)] rfl ⟨h1, rfl, trivial⟩
  · exact gx_go_ 6 [.inl 0] [¬ ((σ 109 59) ≤ a4)] 94 [.ref 109, .null, .null, .null, .int a4, .int (0 : Int32), .null] [] σ rfl ⟨h1, trivial⟩ (gx_fgt (ls' := [.ref 109, .null, .null, .null, .int a4, .int (0 : Int32), .null]) ⟨Or.inr rfl, Or.inl rfl, Or.inl rfl, Or.inl rfl, Or.inr rfl, Or.inr rfl, Or.inl rfl, trivial⟩ (vv_Md_laysMatch_94 D hD rr σ' K88 hK88 z_FU a4 (0 : Int32) σ hf))
set_option maxHeartbeats 16000000 in
set_option maxRecDepth 20000 in
theorem vv_Md_laysMatch_88 (D : Nat) (hD : 5 ≤ D + 1) (rr : Int32) (σ' : gx_R) : ∀ (n : Nat) (a4 : Int32) (σ : gx_R), Md_laysMatch_88 n a4 σ = some (rr, σ') → gx_Ev lay0 (E0 D) tt_237 (some (.int rr)) σ' 88 [.ref 109, .null, .null, .null, .int a4, .null, .null] [] σ := by
  intro n
  induction n with
  | zero => intro a4 σ  hf; cases hf
  | succ n ih => intro a4 σ  hf; exact vv_Md_laysMatch_88_B D hD rr σ'  (Md_laysMatch_88 n) ih a4 σ  hf
set_option maxHeartbeats 16000000 in
set_option maxRecDepth 20000 in
theorem vv_Md_laysMatch_86 (D : Nat) (hD : 5 ≤ D + 1) (rr : Int32) (σ' : gx_R) (σ : gx_R) (hf : Md_laysMatch_86  σ = some (rr, σ')) : gx_Ev lay0 (E0 D) tt_237 (some (.int rr)) σ' 86 [.ref 109, .null, .null, .null, .null, .null, .null] [] σ := by
  unfold Md_laysMatch_86 at hf
  exact gx_go_ 2 [] [] 88 [.ref 109, .null, .null, .null, .int (0 : Int32), .null, .null] [] σ rfl trivial (gx_fgt (ls' := [.ref 109, .null, .null, .null, .int (0 : Int32), .null, .null]) ⟨Or.inr rfl, Or.inl rfl, Or.inl rfl, Or.inl rfl, Or.inr rfl, Or.inl rfl, Or.inl rfl, trivial⟩ (vv_Md_laysMatch_88 D hD rr σ' z_FU (0 : Int32) σ hf))
set_option maxHeartbeats 16000000 in
set_option maxRecDepth 20000 in
theorem vv_Md_laysMatch_36_B (D : Nat) (hD : 5 ≤ D + 1) (rr : Int32) (σ' : gx_R) (K36 : Int32 → Int32 → Int32 → Int32 → gx_R → Option (Int32 × gx_R)) (hK36 : ∀ (a1 : Int32) (a2 : Int32) (a3 : Int32) (a4 : Int32) (σ : gx_R), K36 a1 a2 a3 a4 σ = some (rr, σ') → gx_Ev lay0 (E0 D) tt_237 (some (.int rr)) σ' 36 [.ref 109, .int a1, .int a2, .int a3, .int a4, .null, .null] [] σ) (a1 : Int32) (a2 : Int32) (a3 : Int32) (a4 : Int32) (σ : gx_R) (hf : Md_laysMatch_36_B K36 a1 a2 a3 a4 σ = some (rr, σ')) : gx_Ev lay0 (E0 D) tt_237 (some (.int rr)) σ' 36 [.ref 109, .int a1, .int a2, .int a3, .int a4, .null, .null] [] σ := by
  unfold Md_laysMatch_36_B at hf
  rcases z_if_inv hf with ⟨h1, hf⟩ | ⟨h1, hf⟩
  · exact gx_go_ 6 [.inl 1] [vp_in (0 : Int32) 8880, (σ 110 ((0 : Int32).toNatClampNeg)) ≤ a4] 86 [.ref 109, .int a1, .int a2, .int a3, .int a4, .null, .null] [] σ rfl ⟨(z_ix_in rfl), h1, trivial⟩ (gx_fgt (ls' := [.ref 109, .null, .null, .null, .null, .null, .null]) ⟨Or.inr rfl, Or.inl rfl, Or.inl rfl, Or.inl rfl, Or.inl rfl, Or.inl rfl, Or.inl rfl, trivial⟩ (vv_Md_laysMatch_86 D hD rr σ' σ hf))
  · obtain ⟨r2, σ3, h4, hf⟩ := z_bd_inv hf
    rcases z_if_inv hf with ⟨h5, hf⟩ | ⟨h5, hf⟩
    · exact gx_go_ 10 [.inl 0, .inr (some (.int r2), σ3), .inl 1] [vp_in (0 : Int32) 8880, ¬ ((σ 110 ((0 : Int32).toNatClampNeg)) ≤ a4), E0 D 146 [.int a1, .int a4] σ (some (.int r2)) σ3, r2 = 0] 68 [.ref 109, .int a1, .int a2, .int a3, .int a4, .null, .null] [] σ3 rfl ⟨(z_ix_in rfl), h1, (ww_Md_has D (by omega) a1 a4 σ r2 σ3 h4), h5, trivial⟩ (gx_fgt (ls' := [.ref 109, .int a1, .int a2, .int a3, .int a4, .null, .null]) ⟨Or.inr rfl, Or.inr rfl, Or.inr rfl, Or.inr rfl, Or.inr rfl, Or.inl rfl, Or.inl rfl, trivial⟩ (vv_Md_laysMatch_68 D hD rr σ' K36 hK36 a1 a2 a3 a4 σ3 hf))
    · obtain ⟨h6, hf⟩ := z_ck_inv hf
      obtain ⟨r7, σ8, h9, hf⟩ := z_bd_inv hf
      obtain ⟨h10, hf⟩ := z_ck_inv hf
      exact gx_go_ 32 [.inl 0, .inr (some (.int r2), σ3), .inl 0, .inr (some (.int r7), σ8)] [vp_in (0 : Int32) 8880, ¬ ((σ 110 ((0 : Int32).toNatClampNeg)) ≤ a4), E0 D 146 [.int a1, .int a4] σ (some (.int r2)) σ3, ¬ (r2 = 0), vp_in (σ3 109 58) 8, E0 D 202 [.ref 109, .int a4, .int (0 : Int32), .int a2] (gx_up σ3 141 (σ3 109 58).toNatClampNeg a4) (some (.int r7)) σ8, vp_in ((gx_up σ3 141 (σ3 109 58).toNatClampNeg a4) 109 58) 8] 68 [.ref 109, .int a1, .int a2, .int a3, .int a4, .null, .null] [] (gx_up (gx_up σ8 145 ((gx_up σ3 141 (σ3 109 58).toNatClampNeg a4) 109 58).toNatClampNeg r7) 109 58 (((gx_up σ8 145 ((gx_up σ3 141 (σ3 109 58).toNatClampNeg a4) 109 58).toNatClampNeg r7) 109 58) + (1 : Int32))) rfl ⟨(z_ix_in rfl), h1, (ww_Md_has D (by omega) a1 a4 σ r2 σ3 h4), h5, (z_ix_in h6), (ww_Md_burnBy D (by omega) a4 (0 : Int32) a2 (gx_up σ3 141 (σ3 109 58).toNatClampNeg a4) r7 σ8 h9), (z_ix_in h10), trivial⟩ (gx_fgt (ls' := [.ref 109, .int a1, .int a2, .int a3, .int a4, .null, .null]) ⟨Or.inr rfl, Or.inr rfl, Or.inr rfl, Or.inr rfl, Or.inr rfl, Or.inl rfl, Or.inl rfl, trivial⟩ (vv_Md_laysMatch_68 D hD rr σ' K36 hK36 a1 a2 a3 a4 (gx_up (gx_up σ8 145 ((gx_up σ3 141 (σ3 109 58).toNatClampNeg a4) 109 58).toNatClampNeg r7) 109 58 (((gx_up σ8 145 ((gx_up σ3 141 (σ3 109 58).toNatClampNeg a4) 109 58).toNatClampNeg r7) 109 58) + (1 : Int32))) hf))
set_option maxHeartbeats 16000000 in
set_option maxRecDepth 20000 in
theorem vv_Md_laysMatch_36 (D : Nat) (hD : 5 ≤ D + 1) (rr : Int32) (σ' : gx_R) : ∀ (n : Nat) (a1 : Int32) (a2 : Int32) (a3 : Int32) (a4 : Int32) (σ : gx_R), Md_laysMatch_36 n a1 a2 a3 a4 σ = some (rr, σ') → gx_Ev lay0 (E0 D) tt_237 (some (.int rr)) σ' 36 [.ref 109, .int a1, .int a2, .int a3, .int a4, .null, .null] [] σ := by
  intro n
  induction n with
  | zero => intro a1 a2 a3 a4 σ  hf; cases hf
  | succ n ih => intro a1 a2 a3 a4 σ  hf; exact vv_Md_laysMatch_36_B D hD rr σ'  (Md_laysMatch_36 n) ih a1 a2 a3 a4 σ  hf
set_option maxHeartbeats 16000000 in
set_option maxRecDepth 20000 in
theorem vv_Md_laysMatch_E (D : Nat) (hD : 5 ≤ D + 1) (rr : Int32) (σ' : gx_R) (a1 : Int32) (a2 : Int32) (a3 : Int32) (σ : gx_R) (hf : Md_laysMatch a1 a2 a3 σ = some (rr, σ')) : gx_Ev lay0 (E0 D) tt_237 (some (.int rr)) σ' 0 [.ref 109, .int a1, .int a2, .int a3, .null, .null, .null] [] σ := by
  unfold Md_laysMatch at hf
  obtain ⟨r1, σ2, h3, hf⟩ := z_bd_inv hf
  rcases z_if_inv hf with ⟨h4, hf⟩ | ⟨h4, hf⟩
  · obtain ⟨e1, e2⟩ := z_ret hf
    subst e1
    subst e2
    exact gx_end 6 [.inr (some (.int r1), σ2), .inl 1] [E0 D 151 [.ref 109, .int a1] σ (some (.int r1)) σ2, r1 = 0, (0 : Int32) &&& 1 = (0 : Int32)] rfl ⟨(ww_Md_isSet D (by omega) a1 σ r1 σ2 h3), h4, rfl, trivial⟩
  · obtain ⟨r5, σ6, h7, hf⟩ := z_bd_inv hf
    rcases z_if_inv hf with ⟨h8, hf⟩ | ⟨h8, hf⟩
    · obtain ⟨e1, e2⟩ := z_ret hf
      subst e1
      subst e2
      exact gx_end 10 [.inr (some (.int r1), σ2), .inl 0, .inr (some (.int r5), σ6), .inl 1] [E0 D 151 [.ref 109, .int a1] σ (some (.int r1)) σ2, ¬ (r1 = 0), E0 D 151 [.ref 109, .int a3] σ2 (some (.int r5)) σ6, r5 = 0, (0 : Int32) &&& 1 = (0 : Int32)] rfl ⟨(ww_Md_isSet D (by omega) a1 σ r1 σ2 h3), h4, (ww_Md_isSet D (by omega) a3 σ2 r5 σ6 h7), h8, rfl, trivial⟩
    · obtain ⟨r9, σ10, h11, hf⟩ := z_bd_inv hf
      rcases z_if_inv hf with ⟨h12, hf⟩ | ⟨h12, hf⟩
      · obtain ⟨e1, e2⟩ := z_ret hf
        subst e1
        subst e2
        exact gx_end 14 [.inr (some (.int r1), σ2), .inl 0, .inr (some (.int r5), σ6), .inl 0, .inr (some (.int r9), σ10), .inl 1] [E0 D 151 [.ref 109, .int a1] σ (some (.int r1)) σ2, ¬ (r1 = 0), E0 D 151 [.ref 109, .int a3] σ2 (some (.int r5)) σ6, ¬ (r5 = 0), E0 D 150 [.ref 109, .int a2] σ6 (some (.int r9)) σ10, r9 = 0, (0 : Int32) &&& 1 = (0 : Int32)] rfl ⟨(ww_Md_isSet D (by omega) a1 σ r1 σ2 h3), h4, (ww_Md_isSet D (by omega) a3 σ2 r5 σ6 h7), h8, (ww_Md_isWork D (by omega) a2 σ6 r9 σ10 h11), h12, rfl, trivial⟩
      · obtain ⟨r13, σ14, h15, hf⟩ := z_bd_inv hf
        rcases z_if_inv hf with ⟨h16, hf⟩ | ⟨h16, hf⟩
        · obtain ⟨e1, e2⟩ := z_ret hf
          subst e1
          subst e2
          exact gx_end 18 [.inr (some (.int r1), σ2), .inl 0, .inr (some (.int r5), σ6), .inl 0, .inr (some (.int r9), σ10), .inl 0, .inr (some (.int r13), σ14), .inl 1] [E0 D 151 [.ref 109, .int a1] σ (some (.int r1)) σ2, ¬ (r1 = 0), E0 D 151 [.ref 109, .int a3] σ2 (some (.int r5)) σ6, ¬ (r5 = 0), E0 D 150 [.ref 109, .int a2] σ6 (some (.int r9)) σ10, ¬ (r9 = 0), E0 D 147 [.int a1] σ10 (some (.int r13)) σ14, (4 : Int32) < r13, (0 : Int32) &&& 1 = (0 : Int32)] rfl ⟨(ww_Md_isSet D (by omega) a1 σ r1 σ2 h3), h4, (ww_Md_isSet D (by omega) a3 σ2 r5 σ6 h7), h8, (ww_Md_isWork D (by omega) a2 σ6 r9 σ10 h11), h12, (ww_Md_many D (by omega) a1 σ10 r13 σ14 h15), h16, rfl, trivial⟩
        · obtain ⟨r17, σ18, h19, hf⟩ := z_bd_inv hf
          rcases z_if_inv hf with ⟨h20, hf⟩ | ⟨h20, hf⟩
          · obtain ⟨e1, e2⟩ := z_ret hf
            subst e1
            subst e2
            exact gx_end 22 [.inr (some (.int r1), σ2), .inl 0, .inr (some (.int r5), σ6), .inl 0, .inr (some (.int r9), σ10), .inl 0, .inr (some (.int r13), σ14), .inl 0, .inr (some (.int r17), σ18), .inl 1] [E0 D 151 [.ref 109, .int a1] σ (some (.int r1)) σ2, ¬ (r1 = 0), E0 D 151 [.ref 109, .int a3] σ2 (some (.int r5)) σ6, ¬ (r5 = 0), E0 D 150 [.ref 109, .int a2] σ6 (some (.int r9)) σ10, ¬ (r9 = 0), E0 D 147 [.int a1] σ10 (some (.int r13)) σ14, ¬ ((4 : Int32) < r13), E0 D 147 [.int a3] σ14 (some (.int r17)) σ18, (6 : Int32) < r17, (0 : Int32) &&& 1 = (0 : Int32)] rfl ⟨(ww_Md_isSet D (by omega) a1 σ r1 σ2 h3), h4, (ww_Md_isSet D (by omega) a3 σ2 r5 σ6 h7), h8, (ww_Md_isWork D (by omega) a2 σ6 r9 σ10 h11), h12, (ww_Md_many D (by omega) a1 σ10 r13 σ14 h15), h16, (ww_Md_many D (by omega) a3 σ14 r17 σ18 h19), h20, rfl, trivial⟩
          · rcases z_if_inv hf with ⟨h21, hf⟩ | ⟨h21, hf⟩
            · obtain ⟨⟨⟩, σ23, h24, hf⟩ := z_bd_inv hf
              exact gx_go_ 34 [.inr (some (.int r1), σ2), .inl 0, .inr (some (.int r5), σ6), .inl 0, .inr (some (.int r9), σ10), .inl 0, .inr (some (.int r13), σ14), .inl 0, .inr (some (.int r17), σ18), .inl 0, .inl 1, .inr (none, σ23)] [E0 D 151 [.ref 109, .int a1] σ (some (.int r1)) σ2, ¬ (r1 = 0), E0 D 151 [.ref 109, .int a3] σ2 (some (.int r5)) σ6, ¬ (r5 = 0), E0 D 150 [.ref 109, .int a2] σ6 (some (.int r9)) σ10, ¬ (r9 = 0), E0 D 147 [.int a1] σ10 (some (.int r13)) σ14, ¬ ((4 : Int32) < r13), E0 D 147 [.int a3] σ14 (some (.int r17)) σ18, ¬ ((6 : Int32) < r17), (a1 &&& a3) = 0, E0 D 198 [.ref 109] σ18 (none) σ23] 36 [.ref 109, .int a1, .int a2, .int a3, .int (0 : Int32), .null, .null] [] (gx_up (gx_up σ23 109 58 (0 : Int32)) 109 59 (0 : Int32)) rfl ⟨(ww_Md_isSet D (by omega) a1 σ r1 σ2 h3), h4, (ww_Md_isSet D (by omega) a3 σ2 r5 σ6 h7), h8, (ww_Md_isWork D (by omega) a2 σ6 r9 σ10 h11), h12, (ww_Md_many D (by omega) a1 σ10 r13 σ14 h15), h16, (ww_Md_many D (by omega) a3 σ14 r17 σ18 h19), h20, h21, (ww_Md_laysNow D (by omega) σ18 () σ23 h24), trivial⟩ (gx_fgt (ls' := [.ref 109, .int a1, .int a2, .int a3, .int (0 : Int32), .null, .null]) ⟨Or.inr rfl, Or.inr rfl, Or.inr rfl, Or.inr rfl, Or.inr rfl, Or.inl rfl, Or.inl rfl, trivial⟩ (vv_Md_laysMatch_36 D hD rr σ' z_FU a1 a2 a3 (0 : Int32) (gx_up (gx_up σ23 109 58 (0 : Int32)) 109 59 (0 : Int32)) hf))
            · obtain ⟨e1, e2⟩ := z_ret hf
              subst e1
              subst e2
              exact gx_end 26 [.inr (some (.int r1), σ2), .inl 0, .inr (some (.int r5), σ6), .inl 0, .inr (some (.int r9), σ10), .inl 0, .inr (some (.int r13), σ14), .inl 0, .inr (some (.int r17), σ18), .inl 0, .inl 0] [E0 D 151 [.ref 109, .int a1] σ (some (.int r1)) σ2, ¬ (r1 = 0), E0 D 151 [.ref 109, .int a3] σ2 (some (.int r5)) σ6, ¬ (r5 = 0), E0 D 150 [.ref 109, .int a2] σ6 (some (.int r9)) σ10, ¬ (r9 = 0), E0 D 147 [.int a1] σ10 (some (.int r13)) σ14, ¬ ((4 : Int32) < r13), E0 D 147 [.int a3] σ14 (some (.int r17)) σ18, ¬ ((6 : Int32) < r17), ¬ ((a1 &&& a3) = 0), (0 : Int32) &&& 1 = (0 : Int32)] rfl ⟨(ww_Md_isSet D (by omega) a1 σ r1 σ2 h3), h4, (ww_Md_isSet D (by omega) a3 σ2 r5 σ6 h7), h8, (ww_Md_isWork D (by omega) a2 σ6 r9 σ10 h11), h12, (ww_Md_many D (by omega) a1 σ10 r13 σ14 h15), h16, (ww_Md_many D (by omega) a3 σ14 r17 σ18 h19), h20, h21, rfl, trivial⟩
set_option maxHeartbeats 16000000 in
set_option maxRecDepth 20000 in
theorem ww_Md_laysMatch (D : Nat) (hD : 5 ≤ D) (a1 : Int32) (a2 : Int32) (a3 : Int32) (σ : gx_R) (rr : Int32) (σ' : gx_R) (hf : Md_laysMatch a1 a2 a3 σ = some (rr, σ')) : E0 D 237 [.ref 109, .int a1, .int a2, .int a3] σ (some (.int rr)) σ' := by
  cases D with
  | zero => omega
  | succ D => exact Or.inl ⟨Nat.le_of_ble_eq_true rfl, vv_Md_laysMatch_E D hD rr σ' a1 a2 a3 σ hf⟩
set_option maxHeartbeats 16000000 in
set_option maxRecDepth 20000 in
theorem vv_Md_laysWay_50 (D : Nat) (hD : 1 ≤ D + 1) (rr : Int32) (σ' : gx_R) (K53 : Int32 → Int32 → Int32 → gx_R → Option (Int32 × gx_R)) (hK53 : ∀ (a2 : Int32) (a4 : Int32) (s0 : Int32) (σ : gx_R), K53 a2 a4 s0 σ = some (rr, σ') → gx_Ev lay0 (E0 D) tt_238 (some (.int rr)) σ' 53 [.ref 109, .null, .int a2, .null, .int a4] [.int s0] σ) (a2 : Int32) (a4 : Int32) (σ : gx_R) (hf : Md_laysWay_50 K53 a2 a4 σ = some (rr, σ')) : gx_Ev lay0 (E0 D) tt_238 (some (.int rr)) σ' 50 [.ref 109, .null, .int a2, .null, .int a4] [] σ := by
  unfold Md_laysWay_50 at hf
  exact gx_go_ 2 [] [] 53 [.ref 109, .null, .int a2, .null, .int a4] [.int (1 : Int32)] σ rfl trivial (gx_fgt (ls' := [.ref 109, .null, .int a2, .null, .int a4]) ⟨Or.inr rfl, Or.inl rfl, Or.inr rfl, Or.inl rfl, Or.inr rfl, trivial⟩ (hK53 a2 a4 (1 : Int32) σ hf))
set_option maxHeartbeats 16000000 in
set_option maxRecDepth 20000 in
theorem vv_Md_laysWay_52 (D : Nat) (hD : 1 ≤ D + 1) (rr : Int32) (σ' : gx_R) (K53 : Int32 → Int32 → Int32 → gx_R → Option (Int32 × gx_R)) (hK53 : ∀ (a2 : Int32) (a4 : Int32) (s0 : Int32) (σ : gx_R), K53 a2 a4 s0 σ = some (rr, σ') → gx_Ev lay0 (E0 D) tt_238 (some (.int rr)) σ' 53 [.ref 109, .null, .int a2, .null, .int a4] [.int s0] σ) (a2 : Int32) (a4 : Int32) (σ : gx_R) (hf : Md_laysWay_52 K53 a2 a4 σ = some (rr, σ')) : gx_Ev lay0 (E0 D) tt_238 (some (.int rr)) σ' 52 [.ref 109, .null, .int a2, .null, .int a4] [] σ := by
  unfold Md_laysWay_52 at hf
  exact gx_go_ 1 [] [] 53 [.ref 109, .null, .int a2, .null, .int a4] [.int (0 : Int32)] σ rfl trivial (gx_fgt (ls' := [.ref 109, .null, .int a2, .null, .int a4]) ⟨Or.inr rfl, Or.inl rfl, Or.inr rfl, Or.inl rfl, Or.inr rfl, trivial⟩ (hK53 a2 a4 (0 : Int32) σ hf))
set_option maxHeartbeats 16000000 in
set_option maxRecDepth 20000 in
theorem vv_Md_laysWay_53 (D : Nat) (hD : 1 ≤ D + 1) (rr : Int32) (σ' : gx_R) (K9 : Int32 → Int32 → Int32 → gx_R → Option (Int32 × gx_R)) (hK9 : ∀ (a2 : Int32) (a3 : Int32) (a4 : Int32) (σ : gx_R), K9 a2 a3 a4 σ = some (rr, σ') → gx_Ev lay0 (E0 D) tt_238 (some (.int rr)) σ' 9 [.ref 109, .null, .int a2, .int a3, .int a4] [] σ) (a2 : Int32) (a4 : Int32) (s0 : Int32) (σ : gx_R) (hf : Md_laysWay_53 K9 a2 a4 s0 σ = some (rr, σ')) : gx_Ev lay0 (E0 D) tt_238 (some (.int rr)) σ' 53 [.ref 109, .null, .int a2, .null, .int a4] [.int s0] σ := by
  unfold Md_laysWay_53 at hf
  exact gx_go_ 3 [] [] 9 [.ref 109, .null, .int a2, .int s0, .int (a4 + (-1))] [] σ rfl trivial (gx_fgt (ls' := [.ref 109, .null, .int a2, .int s0, .int (a4 + (-1))]) ⟨Or.inr rfl, Or.inl rfl, Or.inr rfl, Or.inr rfl, Or.inr rfl, trivial⟩ (hK9 a2 s0 (a4 + (-1)) σ hf))
set_option maxHeartbeats 16000000 in
set_option maxRecDepth 20000 in
theorem vv_Md_laysWay_9_B (D : Nat) (hD : 1 ≤ D + 1) (rr : Int32) (σ' : gx_R) (K9 : Int32 → Int32 → Int32 → gx_R → Option (Int32 × gx_R)) (hK9 : ∀ (a2 : Int32) (a3 : Int32) (a4 : Int32) (σ : gx_R), K9 a2 a3 a4 σ = some (rr, σ') → gx_Ev lay0 (E0 D) tt_238 (some (.int rr)) σ' 9 [.ref 109, .null, .int a2, .int a3, .int a4] [] σ) (a2 : Int32) (a3 : Int32) (a4 : Int32) (σ : gx_R) (hf : Md_laysWay_9_B K9 a2 a3 a4 σ = some (rr, σ')) : gx_Ev lay0 (E0 D) tt_238 (some (.int rr)) σ' 9 [.ref 109, .null, .int a2, .int a3, .int a4] [] σ := by
  unfold Md_laysWay_9_B at hf
  rcases z_if_inv hf with ⟨h1, hf⟩ | ⟨h1, hf⟩
  · obtain ⟨h2, hf⟩ := z_ck_inv hf
    obtain ⟨e1, e2⟩ := z_ret hf
    subst e1
    subst e2
    exact gx_end 4 [.inl 1] [a4 < 0, a3 &&& 1 = a3] rfl ⟨h1, (z_bo_in h2), trivial⟩
  · obtain ⟨h3, hf⟩ := z_ck_inv hf
    obtain ⟨h4, hf⟩ := z_ck_inv hf
    obtain ⟨h5, hf⟩ := z_ck_inv hf
    rcases z_if_inv hf with ⟨h6, hf⟩ | ⟨h6, hf⟩
    · exact gx_go_ 21 [.inl 0, .inl 1] [¬ (a4 < 0), ¬ ((σ 109 58) + (1 : Int32)) = 0, vp_in a4 8, ¬ (((gx_up σ 146 a4.toNatClampNeg (a2 - a2 / ((σ 109 58) + (1 : Int32)) * ((σ 109 58) + (1 : Int32)))) 109 58) + (1 : Int32)) = 0, a3 = 0] 52 [.ref 109, .null, .int (a2 / (((gx_up σ 146 a4.toNatClampNeg (a2 - a2 / ((σ 109 58) + (1 : Int32)) * ((σ 109 58) + (1 : Int32)))) 109 58) + (1 : Int32))), .int a3, .int a4] [] (gx_up σ 146 a4.toNatClampNeg (a2 - a2 / ((σ 109 58) + (1 : Int32)) * ((σ 109 58) + (1 : Int32)))) rfl ⟨h1, (z_nzi_in h3), (z_ix_in h4), (z_nzi_in h5), h6, trivial⟩ (gx_fgt (ls' := [.ref 109, .null, .int (a2 / (((gx_up σ 146 a4.toNatClampNeg (a2 - a2 / ((σ 109 58) + (1 : Int32)) * ((σ 109 58) + (1 : Int32)))) 109 58) + (1 : Int32))), .null, .int a4]) ⟨Or.inr rfl, Or.inl rfl, Or.inr rfl, Or.inl rfl, Or.inr rfl, trivial⟩ (vv_Md_laysWay_52 D hD rr σ' (Md_laysWay_53 K9) (vv_Md_laysWay_53 D hD rr σ' K9 hK9) (a2 / (((gx_up σ 146 a4.toNatClampNeg (a2 - a2 / ((σ 109 58) + (1 : Int32)) * ((σ 109 58) + (1 : Int32)))) 109 58) + (1 : Int32))) a4 (gx_up σ 146 a4.toNatClampNeg (a2 - a2 / ((σ 109 58) + (1 : Int32)) * ((σ 109 58) + (1 : Int32)))) hf))
    · obtain ⟨h7, hf⟩ := z_ck_inv hf
      rcases z_if_inv hf with ⟨h8, hf⟩ | ⟨h8, hf⟩
      · exact gx_go_ 28 [.inl 0, .inl 0, .inl 1] [¬ (a4 < 0), ¬ ((σ 109 58) + (1 : Int32)) = 0, vp_in a4 8, ¬ (((gx_up σ 146 a4.toNatClampNeg (a2 - a2 / ((σ 109 58) + (1 : Int32)) * ((σ 109 58) + (1 : Int32)))) 109 58) + (1 : Int32)) = 0, ¬ (a3 = 0), vp_in a4 8, ((gx_up σ 146 a4.toNatClampNeg (a2 - a2 / ((σ 109 58) + (1 : Int32)) * ((σ 109 58) + (1 : Int32)))) 146 a4.toNatClampNeg) = ((gx_up σ 146 a4.toNatClampNeg (a2 - a2 / ((σ 109 58) + (1 : Int32)) * ((σ 109 58) + (1 : Int32)))) 109 58)] 50 [.ref 109, .null, .int (a2 / (((gx_up σ 146 a4.toNatClampNeg (a2 - a2 / ((σ 109 58) + (1 : Int32)) * ((σ 109 58) + (1 : Int32)))) 109 58) + (1 : Int32))), .int a3, .int a4] [] (gx_up σ 146 a4.toNatClampNeg (a2 - a2 / ((σ 109 58) + (1 : Int32)) * ((σ 109 58) + (1 : Int32)))) rfl ⟨h1, (z_nzi_in h3), (z_ix_in h4), (z_nzi_in h5), h6, (z_ix_in h7), h8, trivial⟩ (gx_fgt (ls' := [.ref 109, .null, .int (a2 / (((gx_up σ 146 a4.toNatClampNeg (a2 - a2 / ((σ 109 58) + (1 : Int32)) * ((σ 109 58) + (1 : Int32)))) 109 58) + (1 : Int32))), .null, .int a4]) ⟨Or.inr rfl, Or.inl rfl, Or.inr rfl, Or.inl rfl, Or.inr rfl, trivial⟩ (vv_Md_laysWay_50 D hD rr σ' (Md_laysWay_53 K9) (vv_Md_laysWay_53 D hD rr σ' K9 hK9) (a2 / (((gx_up σ 146 a4.toNatClampNeg (a2 - a2 / ((σ 109 58) + (1 : Int32)) * ((σ 109 58) + (1 : Int32)))) 109 58) + (1 : Int32))) a4 (gx_up σ 146 a4.toNatClampNeg (a2 - a2 / ((σ 109 58) + (1 : Int32)) * ((σ 109 58) + (1 : Int32)))) hf))
      · obtain ⟨h9, hf⟩ := z_ck_inv hf
        obtain ⟨h10, hf⟩ := z_ck_inv hf
        rcases z_if_inv hf with ⟨h11, hf⟩ | ⟨h11, hf⟩
        · exact gx_go_ 41 [.inl 0, .inl 0, .inl 0, .inl 1] [¬ (a4 < 0), ¬ ((σ 109 58) + (1 : Int32)) = 0, vp_in a4 8, ¬ (((gx_up σ 146 a4.toNatClampNeg (a2 - a2 / ((σ 109 58) + (1 : Int32)) * ((σ 109 58) + (1 : Int32)))) 109 58) + (1 : Int32)) = 0, ¬ (a3 = 0), vp_in a4 8, ¬ (((gx_up σ 146 a4.toNatClampNeg (a2 - a2 / ((σ 109 58) + (1 : Int32)) * ((σ 109 58) + (1 : Int32)))) 146 a4.toNatClampNeg) = ((gx_up σ 146 a4.toNatClampNeg (a2 - a2 / ((σ 109 58) + (1 : Int32)) * ((σ 109 58) + (1 : Int32)))) 109 58)), vp_in a4 8, vp_in (((8 : Int32) * a4) + ((gx_up σ 146 a4.toNatClampNeg (a2 - a2 / ((σ 109 58) + (1 : Int32)) * ((σ 109 58) + (1 : Int32)))) 146 a4.toNatClampNeg)) 64, ((gx_up σ 146 a4.toNatClampNeg (a2 - a2 / ((σ 109 58) + (1 : Int32)) * ((σ 109 58) + (1 : Int32)))) 143 ((((8 : Int32) * a4) + ((gx_up σ 146 a4.toNatClampNeg (a2 - a2 / ((σ 109 58) + (1 : Int32)) * ((σ 109 58) + (1 : Int32)))) 146 a4.toNatClampNeg)).toNatClampNeg)) = (-1 : Int32)] 52 [.ref 109, .null, .int (a2 / (((gx_up σ 146 a4.toNatClampNeg (a2 - a2 / ((σ 109 58) + (1 : Int32)) * ((σ 109 58) + (1 : Int32)))) 109 58) + (1 : Int32))), .int a3, .int a4] [] (gx_up σ 146 a4.toNatClampNeg (a2 - a2 / ((σ 109 58) + (1 : Int32)) * ((σ 109 58) + (1 : Int32)))) rfl ⟨h1, (z_nzi_in h3), (z_ix_in h4), (z_nzi_in h5), h6, (z_ix_in h7), h8, (z_ix_in h9), (z_ix_in h10), h11, trivial⟩ (gx_fgt (ls' := [.ref 109, .null, .int (a2 / (((gx_up σ 146 a4.toNatClampNeg (a2 - a2 / ((σ 109 58) + (1 : Int32)) * ((σ 109 58) + (1 : Int32)))) 109 58) + (1 : Int32))), .null, .int a4]) ⟨Or.inr rfl, Or.inl rfl, Or.inr rfl, Or.inl rfl, Or.inr rfl, trivial⟩ (vv_Md_laysWay_52 D hD rr σ' (Md_laysWay_53 K9) (vv_Md_laysWay_53 D hD rr σ' K9 hK9) (a2 / (((gx_up σ 146 a4.toNatClampNeg (a2 - a2 / ((σ 109 58) + (1 : Int32)) * ((σ 109 58) + (1 : Int32)))) 109 58) + (1 : Int32))) a4 (gx_up σ 146 a4.toNatClampNeg (a2 - a2 / ((σ 109 58) + (1 : Int32)) * ((σ 109 58) + (1 : Int32)))) hf))
        · exact gx_go_ 41 [.inl 0, .inl 0, .inl 0, .inl 0] [¬ (a4 < 0), ¬ ((σ 109 58) + (1 : Int32)) = 0, vp_in a4 8, ¬ (((gx_up σ 146 a4.toNatClampNeg (a2 - a2 / ((σ 109 58) + (1 : Int32)) * ((σ 109 58) + (1 : Int32)))) 109 58) + (1 : Int32)) = 0, ¬ (a3 = 0), vp_in a4 8, ¬ (((gx_up σ 146 a4.toNatClampNeg (a2 - a2 / ((σ 109 58) + (1 : Int32)) * ((σ 109 58) + (1 : Int32)))) 146 a4.toNatClampNeg) = ((gx_up σ 146 a4.toNatClampNeg (a2 - a2 / ((σ 109 58) + (1 : Int32)) * ((σ 109 58) + (1 : Int32)))) 109 58)), vp_in a4 8, vp_in (((8 : Int32) * a4) + ((gx_up σ 146 a4.toNatClampNeg (a2 - a2 / ((σ 109 58) + (1 : Int32)) * ((σ 109 58) + (1 : Int32)))) 146 a4.toNatClampNeg)) 64, ¬ (((gx_up σ 146 a4.toNatClampNeg (a2 - a2 / ((σ 109 58) + (1 : Int32)) * ((σ 109 58) + (1 : Int32)))) 143 ((((8 : Int32) * a4) + ((gx_up σ 146 a4.toNatClampNeg (a2 - a2 / ((σ 109 58) + (1 : Int32)) * ((σ 109 58) + (1 : Int32)))) 146 a4.toNatClampNeg)).toNatClampNeg)) = (-1 : Int32))] 50 [.ref 109, .null, .int (a2 / (((gx_up σ 146 a4.toNatClampNeg (a2 - a2 / ((σ 109 58) + (1 : Int32)) * ((σ 109 58) + (1 : Int32)))) 109 58) + (1 : Int32))), .int a3, .int a4] [] (gx_up σ 146 a4.toNatClampNeg (a2 - a2 / ((σ 109 58) + (1 : Int32)) * ((σ 109 58) + (1 : Int32)))) rfl ⟨h1, (z_nzi_in h3), (z_ix_in h4), (z_nzi_in h5), h6, (z_ix_in h7), h8, (z_ix_in h9), (z_ix_in h10), h11, trivial⟩ (gx_fgt (ls' := [.ref 109, .null, .int (a2 / (((gx_up σ 146 a4.toNatClampNeg (a2 - a2 / ((σ 109 58) + (1 : Int32)) * ((σ 109 58) + (1 : Int32)))) 109 58) + (1 : Int32))), .null, .int a4]) ⟨Or.inr rfl, Or.inl rfl, Or.inr rfl, Or.inl rfl, Or.inr rfl, trivial⟩ (vv_Md_laysWay_50 D hD rr σ' (Md_laysWay_53 K9) (vv_Md_laysWay_53 D hD rr σ' K9 hK9) (a2 / (((gx_up σ 146 a4.toNatClampNeg (a2 - a2 / ((σ 109 58) + (1 : Int32)) * ((σ 109 58) + (1 : Int32)))) 109 58) + (1 : Int32))) a4 (gx_up σ 146 a4.toNatClampNeg (a2 - a2 / ((σ 109 58) + (1 : Int32)) * ((σ 109 58) + (1 : Int32)))) hf))
set_option maxHeartbeats 16000000 in
set_option maxRecDepth 20000 in
theorem vv_Md_laysWay_9 (D : Nat) (hD : 1 ≤ D + 1) (rr : Int32) (σ' : gx_R) : ∀ (n : Nat) (a2 : Int32) (a3 : Int32) (a4 : Int32) (σ : gx_R), Md_laysWay_9 n a2 a3 a4 σ = some (rr, σ') → gx_Ev lay0 (E0 D) tt_238 (some (.int rr)) σ' 9 [.ref 109, .null, .int a2, .int a3, .int a4] [] σ := by
  intro n
  induction n with
  | zero => intro a2 a3 a4 σ  hf; cases hf
  | succ n ih => intro a2 a3 a4 σ  hf; exact vv_Md_laysWay_9_B D hD rr σ'  (Md_laysWay_9 n) ih a2 a3 a4 σ  hf
set_option maxHeartbeats 16000000 in
set_option maxRecDepth 20000 in
theorem vv_Md_laysWay_E (D : Nat) (hD : 1 ≤ D + 1) (rr : Int32) (σ' : gx_R) (a1 : Int32) (σ : gx_R) (hf : Md_laysWay a1 σ = some (rr, σ')) : gx_Ev lay0 (E0 D) tt_238 (some (.int rr)) σ' 0 [.ref 109, .int a1, .null, .null, .null] [] σ := by
  unfold Md_laysWay at hf
  exact gx_go_ 9 [] [] 9 [.ref 109, .int a1, .int a1, .int (1 : Int32), .int ((σ 109 59) - (1 : Int32))] [] σ rfl trivial (gx_fgt (ls' := [.ref 109, .null, .int a1, .int (1 : Int32), .int ((σ 109 59) - (1 : Int32))]) ⟨Or.inr rfl, Or.inl rfl, Or.inr rfl, Or.inr rfl, Or.inr rfl, trivial⟩ (vv_Md_laysWay_9 D hD rr σ' z_FU a1 (1 : Int32) ((σ 109 59) - (1 : Int32)) σ hf))
set_option maxHeartbeats 16000000 in
set_option maxRecDepth 20000 in
theorem ww_Md_laysWay (D : Nat) (hD : 1 ≤ D) (a1 : Int32) (σ : gx_R) (rr : Int32) (σ' : gx_R) (hf : Md_laysWay a1 σ = some (rr, σ')) : E0 D 238 [.ref 109, .int a1] σ (some (.int rr)) σ' := by
  cases D with
  | zero => omega
  | succ D => exact Or.inl ⟨Nat.le_of_ble_eq_true rfl, vv_Md_laysWay_E D hD rr σ' a1 σ hf⟩
set_option maxHeartbeats 16000000 in
set_option maxRecDepth 20000 in
theorem vv_Md_isEnough_31 (D : Nat) (hD : 1 ≤ D + 1) (rr : Int32) (σ' : gx_R) (K10 : Int32 → Int32 → Int32 → gx_R → Option (Int32 × gx_R)) (hK10 : ∀ (a1 : Int32) (a2 : Int32) (a3 : Int32) (σ : gx_R), K10 a1 a2 a3 σ = some (rr, σ') → gx_Ev lay0 (E0 D) tt_239 (some (.int rr)) σ' 10 [.ref 109, .int a1, .int a2, .int a3] [] σ) (a1 : Int32) (a3 : Int32) (s0 : Int32) (s1 : Int32) (σ : gx_R) (hf : Md_isEnough_31 K10 a1 a3 s0 s1 σ = some (rr, σ')) : gx_Ev lay0 (E0 D) tt_239 (some (.int rr)) σ' 31 [.ref 109, .int a1, .null, .int a3] [.int s1, .int s0] σ := by
  unfold Md_isEnough_31 at hf
  exact gx_go_ 4 [] [] 10 [.ref 109, .int a1, .int (s0 + s1), .int (a3 + 1)] [] σ rfl trivial (gx_fgt (ls' := [.ref 109, .int a1, .int (s0 + s1), .int (a3 + 1)]) ⟨Or.inr rfl, Or.inr rfl, Or.inr rfl, Or.inr rfl, trivial⟩ (hK10 a1 (s0 + s1) (a3 + 1) σ hf))
set_option maxHeartbeats 16000000 in
set_option maxRecDepth 20000 in
theorem vv_Md_isEnough_35 (D : Nat) (hD : 1 ≤ D + 1) (rr : Int32) (σ' : gx_R) (K2 : Int32 → gx_R → Option (Int32 × gx_R)) (hK2 : ∀ (a1 : Int32) (σ : gx_R), K2 a1 σ = some (rr, σ') → gx_Ev lay0 (E0 D) tt_239 (some (.int rr)) σ' 2 [.ref 109, .int a1, .null, .null] [] σ) (a1 : Int32) (a2 : Int32) (σ : gx_R) (hf : Md_isEnough_35 K2 a1 a2 σ = some (rr, σ')) : gx_Ev lay0 (E0 D) tt_239 (some (.int rr)) σ' 35 [.ref 109, .int a1, .int a2, .null] [] σ := by
  unfold Md_isEnough_35 at hf
  obtain ⟨h1, hf⟩ := z_ck_inv hf
  rcases z_if_inv hf with ⟨h2, hf⟩ | ⟨h2, hf⟩
  · exact gx_go_ 8 [.inl 1] [vp_in a1 8, (σ 145 a1.toNatClampNeg) ≤ a2] 2 [.ref 109, .int (a1 + 1), .int a2, .null] [] σ rfl ⟨(z_ix_in h1), h2, trivial⟩ (gx_fgt (ls' := [.ref 109, .int (a1 + 1), .null, .null]) ⟨Or.inr rfl, Or.inr rfl, Or.inl rfl, Or.inl rfl, trivial⟩ (hK2 (a1 + 1) σ hf))
  · obtain ⟨e1, e2⟩ := z_ret hf
    subst e1
    subst e2
    exact gx_end 8 [.inl 0] [vp_in a1 8, ¬ ((σ 145 a1.toNatClampNeg) ≤ a2), (0 : Int32) &&& 1 = (0 : Int32)] rfl ⟨(z_ix_in h1), h2, rfl, trivial⟩
set_option maxHeartbeats 16000000 in
set_option maxRecDepth 20000 in
theorem vv_Md_isEnough_10_B (D : Nat) (hD : 1 ≤ D + 1) (rr : Int32) (σ' : gx_R) (K2 : Int32 → gx_R → Option (Int32 × gx_R)) (hK2 : ∀ (a1 : Int32) (σ : gx_R), K2 a1 σ = some (rr, σ') → gx_Ev lay0 (E0 D) tt_239 (some (.int rr)) σ' 2 [.ref 109, .int a1, .null, .null] [] σ) (K10 : Int32 → Int32 → Int32 → gx_R → Option (Int32 × gx_R)) (hK10 : ∀ (a1 : Int32) (a2 : Int32) (a3 : Int32) (σ : gx_R), K10 a1 a2 a3 σ = some (rr, σ') → gx_Ev lay0 (E0 D) tt_239 (some (.int rr)) σ' 10 [.ref 109, .int a1, .int a2, .int a3] [] σ) (a1 : Int32) (a2 : Int32) (a3 : Int32) (σ : gx_R) (hf : Md_isEnough_10_B K2 K10 a1 a2 a3 σ = some (rr, σ')) : gx_Ev lay0 (E0 D) tt_239 (some (.int rr)) σ' 10 [.ref 109, .int a1, .int a2, .int a3] [] σ := by
  unfold Md_isEnough_10_B at hf
  rcases z_if_inv hf with ⟨h1, hf⟩ | ⟨h1, hf⟩
  · exact gx_go_ 4 [.inl 1] [(σ 109 59) ≤ a3] 35 [.ref 109, .int a1, .int a2, .int a3] [] σ rfl ⟨h1, trivial⟩ (gx_fgt (ls' := [.ref 109, .int a1, .int a2, .null]) ⟨Or.inr rfl, Or.inr rfl, Or.inr rfl, Or.inl rfl, trivial⟩ (vv_Md_isEnough_35 D hD rr σ' K2 hK2 a1 a2 σ hf))
  · obtain ⟨h2, hf⟩ := z_ck_inv hf
    rcases z_if_inv hf with ⟨h3, hf⟩ | ⟨h3, hf⟩
    · obtain ⟨h4, hf⟩ := z_ck_inv hf
      exact gx_go_ 20 [.inl 0, .inl 0] [¬ ((σ 109 59) ≤ a3), vp_in a3 8, ¬ ¬ ((σ 146 a3.toNatClampNeg) = a1), vp_in (((8 : Int32) * a3) + a1) 64] 31 [.ref 109, .int a1, .int a2, .int a3] [.int (σ 143 ((((8 : Int32) * a3) + a1).toNatClampNeg)), .int a2] σ rfl ⟨h1, (z_ix_in h2), (fun q => q h3), (z_ix_in h4), trivial⟩ (gx_fgt (ls' := [.ref 109, .int a1, .null, .int a3]) ⟨Or.inr rfl, Or.inr rfl, Or.inl rfl, Or.inr rfl, trivial⟩ (vv_Md_isEnough_31 D hD rr σ' K10 hK10 a1 a3 a2 (σ 143 ((((8 : Int32) * a3) + a1).toNatClampNeg)) σ hf))
    · exact gx_go_ 12 [.inl 0, .inl 1] [¬ ((σ 109 59) ≤ a3), vp_in a3 8, ¬ ((σ 146 a3.toNatClampNeg) = a1)] 31 [.ref 109, .int a1, .int a2, .int a3] [.int (0 : Int32), .int a2] σ rfl ⟨h1, (z_ix_in h2), h3, trivial⟩ (gx_fgt (ls' := [.ref 109, .int a1, .null, .int a3]) ⟨Or.inr rfl, Or.inr rfl, Or.inl rfl, Or.inr rfl, trivial⟩ (vv_Md_isEnough_31 D hD rr σ' K10 hK10 a1 a3 a2 (0 : Int32) σ hf))
set_option maxHeartbeats 16000000 in
set_option maxRecDepth 20000 in
theorem vv_Md_isEnough_10 (D : Nat) (hD : 1 ≤ D + 1) (rr : Int32) (σ' : gx_R) (K2 : Int32 → gx_R → Option (Int32 × gx_R)) (hK2 : ∀ (a1 : Int32) (σ : gx_R), K2 a1 σ = some (rr, σ') → gx_Ev lay0 (E0 D) tt_239 (some (.int rr)) σ' 2 [.ref 109, .int a1, .null, .null] [] σ) : ∀ (n : Nat) (a1 : Int32) (a2 : Int32) (a3 : Int32) (σ : gx_R), Md_isEnough_10 K2 n a1 a2 a3 σ = some (rr, σ') → gx_Ev lay0 (E0 D) tt_239 (some (.int rr)) σ' 10 [.ref 109, .int a1, .int a2, .int a3] [] σ := by
  intro n
  induction n with
  | zero => intro a1 a2 a3 σ  hf; cases hf
  | succ n ih => intro a1 a2 a3 σ  hf; exact vv_Md_isEnough_10_B D hD rr σ'  K2 hK2 (Md_isEnough_10 K2 n) ih a1 a2 a3 σ  hf
set_option maxHeartbeats 16000000 in
set_option maxRecDepth 20000 in
theorem vv_Md_isEnough_2_B (D : Nat) (hD : 1 ≤ D + 1) (rr : Int32) (σ' : gx_R) (K2 : Int32 → gx_R → Option (Int32 × gx_R)) (hK2 : ∀ (a1 : Int32) (σ : gx_R), K2 a1 σ = some (rr, σ') → gx_Ev lay0 (E0 D) tt_239 (some (.int rr)) σ' 2 [.ref 109, .int a1, .null, .null] [] σ) (a1 : Int32) (σ : gx_R) (hf : Md_isEnough_2_B K2 a1 σ = some (rr, σ')) : gx_Ev lay0 (E0 D) tt_239 (some (.int rr)) σ' 2 [.ref 109, .int a1, .null, .null] [] σ := by
  unfold Md_isEnough_2_B at hf
  rcases z_if_inv hf with ⟨h1, hf⟩ | ⟨h1, hf⟩
  · obtain ⟨e1, e2⟩ := z_ret hf
    subst e1
    subst e2
    exact gx_end 6 [.inl 1] [(σ 109 58) ≤ a1, (1 : Int32) &&& 1 = (1 : Int32)] rfl ⟨h1, rfl, trivial⟩
  · exact gx_go_ 8 [.inl 0] [¬ ((σ 109 58) ≤ a1)] 10 [.ref 109, .int a1, .int (0 : Int32), .int (0 : Int32)] [] σ rfl ⟨h1, trivial⟩ (gx_fgt (ls' := [.ref 109, .int a1, .int (0 : Int32), .int (0 : Int32)]) ⟨Or.inr rfl, Or.inr rfl, Or.inr rfl, Or.inr rfl, trivial⟩ (vv_Md_isEnough_10 D hD rr σ' K2 hK2 z_FU a1 (0 : Int32) (0 : Int32) σ hf))
set_option maxHeartbeats 16000000 in
set_option maxRecDepth 20000 in
theorem vv_Md_isEnough_2 (D : Nat) (hD : 1 ≤ D + 1) (rr : Int32) (σ' : gx_R) : ∀ (n : Nat) (a1 : Int32) (σ : gx_R), Md_isEnough_2 n a1 σ = some (rr, σ') → gx_Ev lay0 (E0 D) tt_239 (some (.int rr)) σ' 2 [.ref 109, .int a1, .null, .null] [] σ := by
  intro n
  induction n with
  | zero => intro a1 σ  hf; cases hf
  | succ n ih => intro a1 σ  hf; exact vv_Md_isEnough_2_B D hD rr σ'  (Md_isEnough_2 n) ih a1 σ  hf
set_option maxHeartbeats 16000000 in
set_option maxRecDepth 20000 in
theorem vv_Md_isEnough_E (D : Nat) (hD : 1 ≤ D + 1) (rr : Int32) (σ' : gx_R) (σ : gx_R) (hf : Md_isEnough  σ = some (rr, σ')) : gx_Ev lay0 (E0 D) tt_239 (some (.int rr)) σ' 0 [.ref 109, .null, .null, .null] [] σ := by
  unfold Md_isEnough at hf
  exact gx_go_ 2 [] [] 2 [.ref 109, .int (0 : Int32), .null, .null] [] σ rfl trivial (gx_fgt (ls' := [.ref 109, .int (0 : Int32), .null, .null]) ⟨Or.inr rfl, Or.inr rfl, Or.inl rfl, Or.inl rfl, trivial⟩ (vv_Md_isEnough_2 D hD rr σ' z_FU (0 : Int32) σ hf))
set_option maxHeartbeats 16000000 in
set_option maxRecDepth 20000 in
theorem ww_Md_isEnough (D : Nat) (hD : 1 ≤ D) (σ : gx_R) (rr : Int32) (σ' : gx_R) (hf : Md_isEnough  σ = some (rr, σ')) : E0 D 239 [.ref 109] σ (some (.int rr)) σ' := by
  cases D with
  | zero => omega
  | succ D => exact Or.inl ⟨Nat.le_of_ble_eq_true rfl, vv_Md_isEnough_E D hD rr σ' σ hf⟩
set_option maxHeartbeats 16000000 in
set_option maxRecDepth 20000 in
theorem vv_Md_priceNow_29 (D : Nat) (hD : 1 ≤ D + 1) (rr : Int32) (σ' : gx_R) (K4 : Int32 → Int32 → gx_R → Option (Int32 × gx_R)) (hK4 : ∀ (a1 : Int32) (a2 : Int32) (σ : gx_R), K4 a1 a2 σ = some (rr, σ') → gx_Ev lay0 (E0 D) tt_240 (some (.int rr)) σ' 4 [.ref 109, .int a1, .int a2] [] σ) (a2 : Int32) (s0 : Int32) (s1 : Int32) (σ : gx_R) (hf : Md_priceNow_29 K4 a2 s0 s1 σ = some (rr, σ')) : gx_Ev lay0 (E0 D) tt_240 (some (.int rr)) σ' 29 [.ref 109, .null, .int a2] [.int s1, .int s0] σ := by
  unfold Md_priceNow_29 at hf
  exact gx_go_ 4 [] [] 4 [.ref 109, .int (s0 + s1), .int (a2 + 1)] [] σ rfl trivial (gx_fgt (ls' := [.ref 109, .int (s0 + s1), .int (a2 + 1)]) ⟨Or.inr rfl, Or.inr rfl, Or.inr rfl, trivial⟩ (hK4 (s0 + s1) (a2 + 1) σ hf))
set_option maxHeartbeats 16000000 in
set_option maxRecDepth 20000 in
theorem vv_Md_priceNow_4_B (D : Nat) (hD : 1 ≤ D + 1) (rr : Int32) (σ' : gx_R) (K4 : Int32 → Int32 → gx_R → Option (Int32 × gx_R)) (hK4 : ∀ (a1 : Int32) (a2 : Int32) (σ : gx_R), K4 a1 a2 σ = some (rr, σ') → gx_Ev lay0 (E0 D) tt_240 (some (.int rr)) σ' 4 [.ref 109, .int a1, .int a2] [] σ) (a1 : Int32) (a2 : Int32) (σ : gx_R) (hf : Md_priceNow_4_B K4 a1 a2 σ = some (rr, σ')) : gx_Ev lay0 (E0 D) tt_240 (some (.int rr)) σ' 4 [.ref 109, .int a1, .int a2] [] σ := by
  unfold Md_priceNow_4_B at hf
  rcases z_if_inv hf with ⟨h1, hf⟩ | ⟨h1, hf⟩
  · obtain ⟨e1, e2⟩ := z_ret hf
    subst e1
    subst e2
    exact gx_end 6 [.inl 1] [(σ 109 59) ≤ a2] rfl ⟨h1, trivial⟩
  · obtain ⟨h2, hf⟩ := z_ck_inv hf
    rcases z_if_inv hf with ⟨h3, hf⟩ | ⟨h3, hf⟩
    · exact gx_go_ 13 [.inl 0, .inl 1] [¬ ((σ 109 59) ≤ a2), vp_in a2 8, (σ 109 58) ≤ (σ 146 a2.toNatClampNeg)] 29 [.ref 109, .int a1, .int a2] [.int (0 : Int32), .int a1] σ rfl ⟨h1, (z_ix_in h2), h3, trivial⟩ (gx_fgt (ls' := [.ref 109, .null, .int a2]) ⟨Or.inr rfl, Or.inl rfl, Or.inr rfl, trivial⟩ (vv_Md_priceNow_29 D hD rr σ' K4 hK4 a2 a1 (0 : Int32) σ hf))
    · obtain ⟨h4, hf⟩ := z_ck_inv hf
      obtain ⟨h5, hf⟩ := z_ck_inv hf
      exact gx_go_ 24 [.inl 0, .inl 0] [¬ ((σ 109 59) ≤ a2), vp_in a2 8, ¬ ((σ 109 58) ≤ (σ 146 a2.toNatClampNeg)), vp_in a2 8, vp_in (((8 : Int32) * a2) + (σ 146 a2.toNatClampNeg)) 64] 29 [.ref 109, .int a1, .int a2] [.int (σ 144 ((((8 : Int32) * a2) + (σ 146 a2.toNatClampNeg)).toNatClampNeg)), .int a1] σ rfl ⟨h1, (z_ix_in h2), h3, (z_ix_in h4), (z_ix_in h5), trivial⟩ (gx_fgt (ls' := [.ref 109, .null, .int a2]) ⟨Or.inr rfl, Or.inl rfl, Or.inr rfl, trivial⟩ (vv_Md_priceNow_29 D hD rr σ' K4 hK4 a2 a1 (σ 144 ((((8 : Int32) * a2) + (σ 146 a2.toNatClampNeg)).toNatClampNeg)) σ hf))
set_option maxHeartbeats 16000000 in
set_option maxRecDepth 20000 in
theorem vv_Md_priceNow_4 (D : Nat) (hD : 1 ≤ D + 1) (rr : Int32) (σ' : gx_R) : ∀ (n : Nat) (a1 : Int32) (a2 : Int32) (σ : gx_R), Md_priceNow_4 n a1 a2 σ = some (rr, σ') → gx_Ev lay0 (E0 D) tt_240 (some (.int rr)) σ' 4 [.ref 109, .int a1, .int a2] [] σ := by
  intro n
  induction n with
  | zero => intro a1 a2 σ  hf; cases hf
  | succ n ih => intro a1 a2 σ  hf; exact vv_Md_priceNow_4_B D hD rr σ'  (Md_priceNow_4 n) ih a1 a2 σ  hf
set_option maxHeartbeats 16000000 in
set_option maxRecDepth 20000 in
theorem vv_Md_priceNow_E (D : Nat) (hD : 1 ≤ D + 1) (rr : Int32) (σ' : gx_R) (σ : gx_R) (hf : Md_priceNow  σ = some (rr, σ')) : gx_Ev lay0 (E0 D) tt_240 (some (.int rr)) σ' 0 [.ref 109, .null, .null] [] σ := by
  unfold Md_priceNow at hf
  exact gx_go_ 4 [] [] 4 [.ref 109, .int (0 : Int32), .int (0 : Int32)] [] σ rfl trivial (gx_fgt (ls' := [.ref 109, .int (0 : Int32), .int (0 : Int32)]) ⟨Or.inr rfl, Or.inr rfl, Or.inr rfl, trivial⟩ (vv_Md_priceNow_4 D hD rr σ' z_FU (0 : Int32) (0 : Int32) σ hf))
set_option maxHeartbeats 16000000 in
set_option maxRecDepth 20000 in
theorem ww_Md_priceNow (D : Nat) (hD : 1 ≤ D) (σ : gx_R) (rr : Int32) (σ' : gx_R) (hf : Md_priceNow  σ = some (rr, σ')) : E0 D 240 [.ref 109] σ (some (.int rr)) σ' := by
  cases D with
  | zero => omega
  | succ D => exact Or.inl ⟨Nat.le_of_ble_eq_true rfl, vv_Md_priceNow_E D hD rr σ' σ hf⟩
set_option maxHeartbeats 16000000 in
set_option maxRecDepth 20000 in
theorem vv_Md_sleepNow_19 (D : Nat) (hD : 1 ≤ D + 1) (rr : Int32) (σ' : gx_R) (K4 : Int32 → Int32 → gx_R → Option (Int32 × gx_R)) (hK4 : ∀ (a1 : Int32) (a2 : Int32) (σ : gx_R), K4 a1 a2 σ = some (rr, σ') → gx_Ev lay0 (E0 D) tt_241 (some (.int rr)) σ' 4 [.ref 109, .int a1, .int a2] [] σ) (a2 : Int32) (s0 : Int32) (s1 : Int32) (σ : gx_R) (hf : Md_sleepNow_19 K4 a2 s0 s1 σ = some (rr, σ')) : gx_Ev lay0 (E0 D) tt_241 (some (.int rr)) σ' 19 [.ref 109, .null, .int a2] [.int s1, .int s0] σ := by
  unfold Md_sleepNow_19 at hf
  exact gx_go_ 4 [] [] 4 [.ref 109, .int (s0 + s1), .int (a2 + 1)] [] σ rfl trivial (gx_fgt (ls' := [.ref 109, .int (s0 + s1), .int (a2 + 1)]) ⟨Or.inr rfl, Or.inr rfl, Or.inr rfl, trivial⟩ (hK4 (s0 + s1) (a2 + 1) σ hf))
set_option maxHeartbeats 16000000 in
set_option maxRecDepth 20000 in
theorem vv_Md_sleepNow_4_B (D : Nat) (hD : 1 ≤ D + 1) (rr : Int32) (σ' : gx_R) (K4 : Int32 → Int32 → gx_R → Option (Int32 × gx_R)) (hK4 : ∀ (a1 : Int32) (a2 : Int32) (σ : gx_R), K4 a1 a2 σ = some (rr, σ') → gx_Ev lay0 (E0 D) tt_241 (some (.int rr)) σ' 4 [.ref 109, .int a1, .int a2] [] σ) (a1 : Int32) (a2 : Int32) (σ : gx_R) (hf : Md_sleepNow_4_B K4 a1 a2 σ = some (rr, σ')) : gx_Ev lay0 (E0 D) tt_241 (some (.int rr)) σ' 4 [.ref 109, .int a1, .int a2] [] σ := by
  unfold Md_sleepNow_4_B at hf
  rcases z_if_inv hf with ⟨h1, hf⟩ | ⟨h1, hf⟩
  · obtain ⟨e1, e2⟩ := z_ret hf
    subst e1
    subst e2
    exact gx_end 6 [.inl 1] [(σ 109 59) ≤ a2] rfl ⟨h1, trivial⟩
  · obtain ⟨h2, hf⟩ := z_ck_inv hf
    rcases z_if_inv hf with ⟨h3, hf⟩ | ⟨h3, hf⟩
    · exact gx_go_ 13 [.inl 0, .inl 1] [¬ ((σ 109 59) ≤ a2), vp_in a2 8, (σ 109 58) ≤ (σ 146 a2.toNatClampNeg)] 19 [.ref 109, .int a1, .int a2] [.int (0 : Int32), .int a1] σ rfl ⟨h1, (z_ix_in h2), h3, trivial⟩ (gx_fgt (ls' := [.ref 109, .null, .int a2]) ⟨Or.inr rfl, Or.inl rfl, Or.inr rfl, trivial⟩ (vv_Md_sleepNow_19 D hD rr σ' K4 hK4 a2 a1 (0 : Int32) σ hf))
    · exact gx_go_ 14 [.inl 0, .inl 0] [¬ ((σ 109 59) ≤ a2), vp_in a2 8, ¬ ((σ 109 58) ≤ (σ 146 a2.toNatClampNeg))] 19 [.ref 109, .int a1, .int a2] [.int (1 : Int32), .int a1] σ rfl ⟨h1, (z_ix_in h2), h3, trivial⟩ (gx_fgt (ls' := [.ref 109, .null, .int a2]) ⟨Or.inr rfl, Or.inl rfl, Or.inr rfl, trivial⟩ (vv_Md_sleepNow_19 D hD rr σ' K4 hK4 a2 a1 (1 : Int32) σ hf))
set_option maxHeartbeats 16000000 in
set_option maxRecDepth 20000 in
theorem vv_Md_sleepNow_4 (D : Nat) (hD : 1 ≤ D + 1) (rr : Int32) (σ' : gx_R) : ∀ (n : Nat) (a1 : Int32) (a2 : Int32) (σ : gx_R), Md_sleepNow_4 n a1 a2 σ = some (rr, σ') → gx_Ev lay0 (E0 D) tt_241 (some (.int rr)) σ' 4 [.ref 109, .int a1, .int a2] [] σ := by
  intro n
  induction n with
  | zero => intro a1 a2 σ  hf; cases hf
  | succ n ih => intro a1 a2 σ  hf; exact vv_Md_sleepNow_4_B D hD rr σ'  (Md_sleepNow_4 n) ih a1 a2 σ  hf
set_option maxHeartbeats 16000000 in
set_option maxRecDepth 20000 in
theorem vv_Md_sleepNow_E (D : Nat) (hD : 1 ≤ D + 1) (rr : Int32) (σ' : gx_R) (σ : gx_R) (hf : Md_sleepNow  σ = some (rr, σ')) : gx_Ev lay0 (E0 D) tt_241 (some (.int rr)) σ' 0 [.ref 109, .null, .null] [] σ := by
  unfold Md_sleepNow at hf
  exact gx_go_ 4 [] [] 4 [.ref 109, .int (0 : Int32), .int (0 : Int32)] [] σ rfl trivial (gx_fgt (ls' := [.ref 109, .int (0 : Int32), .int (0 : Int32)]) ⟨Or.inr rfl, Or.inr rfl, Or.inr rfl, trivial⟩ (vv_Md_sleepNow_4 D hD rr σ' z_FU (0 : Int32) (0 : Int32) σ hf))
set_option maxHeartbeats 16000000 in
set_option maxRecDepth 20000 in
theorem ww_Md_sleepNow (D : Nat) (hD : 1 ≤ D) (σ : gx_R) (rr : Int32) (σ' : gx_R) (hf : Md_sleepNow  σ = some (rr, σ')) : E0 D 241 [.ref 109] σ (some (.int rr)) σ' := by
  cases D with
  | zero => omega
  | succ D => exact Or.inl ⟨Nat.le_of_ble_eq_true rfl, vv_Md_sleepNow_E D hD rr σ' σ hf⟩
set_option maxHeartbeats 16000000 in
set_option maxRecDepth 20000 in
theorem vv_Md_match_80_B (D : Nat) (hD : 6 ≤ D + 1) (rr : Int32) (σ' : gx_R) (K94 : Int32 → Int32 → Int32 → Int32 → Int32 → Int32 → gx_R → Option (Int32 × gx_R)) (hK94 : ∀ (a4 : Int32) (a5 : Int32) (a6 : Int32) (a7 : Int32) (a8 : Int32) (a9 : Int32) (σ : gx_R), K94 a4 a5 a6 a7 a8 a9 σ = some (rr, σ') → gx_Ev lay0 (E0 D) tt_242 (some (.int rr)) σ' 94 [.ref 109, .null, .null, .null, .int a4, .int a5, .int a6, .int a7, .int a8, .int a9, .null, .null, .null] [] σ) (K80 : Int32 → Int32 → Int32 → Int32 → Int32 → Int32 → Int32 → gx_R → Option (Int32 × gx_R)) (hK80 : ∀ (a4 : Int32) (a5 : Int32) (a6 : Int32) (a7 : Int32) (a8 : Int32) (a9 : Int32) (a12 : Int32) (σ : gx_R), K80 a4 a5 a6 a7 a8 a9 a12 σ = some (rr, σ') → gx_Ev lay0 (E0 D) tt_242 (some (.int rr)) σ' 80 [.ref 109, .null, .null, .null, .int a4, .int a5, .int a6, .int a7, .int a8, .int a9, .null, .null, .int a12] [] σ) (a4 : Int32) (a5 : Int32) (a6 : Int32) (a7 : Int32) (a8 : Int32) (a9 : Int32) (a12 : Int32) (σ : gx_R) (hf : Md_match_80_B K94 K80 a4 a5 a6 a7 a8 a9 a12 σ = some (rr, σ')) : gx_Ev lay0 (E0 D) tt_242 (some (.int rr)) σ' 80 [.ref 109, .null, .null, .null, .int a4, .int a5, .int a6, .int a7, .int a8, .int a9, .null, .null, .int a12] [] σ := by
  unfold Md_match_80_B at hf
  rcases z_if_inv hf with ⟨h1, hf⟩ | ⟨h1, hf⟩
  · exact gx_go_ 4 [.inl 1] [(σ 109 59) ≤ a12] 94 [.ref 109, .null, .null, .null, .int a4, .int a5, .int a6, .int a7, .int a8, .int a9, .null, .null, .int a12] [] σ rfl ⟨h1, trivial⟩ (gx_fgt (ls' := [.ref 109, .null, .null, .null, .int a4, .int a5, .int a6, .int a7, .int a8, .int a9, .null, .null, .null]) ⟨Or.inr rfl, Or.inl rfl, Or.inl rfl, Or.inl rfl, Or.inr rfl, Or.inr rfl, Or.inr rfl, Or.inr rfl, Or.inr rfl, Or.inr rfl, Or.inl rfl, Or.inl rfl, Or.inl rfl, trivial⟩ (hK94 a4 a5 a6 a7 a8 a9 σ hf))
  · obtain ⟨h2, hf⟩ := z_ck_inv hf
    obtain ⟨h3, hf⟩ := z_ck_inv hf
    exact gx_go_ 14 [.inl 0] [¬ ((σ 109 59) ≤ a12), vp_in a12 8, vp_in a12 8] 80 [.ref 109, .null, .null, .null, .int a4, .int a5, .int a6, .int a7, .int a8, .int a9, .null, .null, .int (a12 + 1)] [] (gx_up σ 147 a12.toNatClampNeg (σ 146 a12.toNatClampNeg)) rfl ⟨h1, (z_ix_in h2), (z_ix_in h3), trivial⟩ (gx_fgt (ls' := [.ref 109, .null, .null, .null, .int a4, .int a5, .int a6, .int a7, .int a8, .int a9, .null, .null, .int (a12 + 1)]) ⟨Or.inr rfl, Or.inl rfl, Or.inl rfl, Or.inl rfl, Or.inr rfl, Or.inr rfl, Or.inr rfl, Or.inr rfl, Or.inr rfl, Or.inr rfl, Or.inl rfl, Or.inl rfl, Or.inr rfl, trivial⟩ (hK80 a4 a5 a6 a7 a8 a9 (a12 + 1) (gx_up σ 147 a12.toNatClampNeg (σ 146 a12.toNatClampNeg)) hf))
set_option maxHeartbeats 16000000 in
set_option maxRecDepth 20000 in
theorem vv_Md_match_80 (D : Nat) (hD : 6 ≤ D + 1) (rr : Int32) (σ' : gx_R) (K94 : Int32 → Int32 → Int32 → Int32 → Int32 → Int32 → gx_R → Option (Int32 × gx_R)) (hK94 : ∀ (a4 : Int32) (a5 : Int32) (a6 : Int32) (a7 : Int32) (a8 : Int32) (a9 : Int32) (σ : gx_R), K94 a4 a5 a6 a7 a8 a9 σ = some (rr, σ') → gx_Ev lay0 (E0 D) tt_242 (some (.int rr)) σ' 94 [.ref 109, .null, .null, .null, .int a4, .int a5, .int a6, .int a7, .int a8, .int a9, .null, .null, .null] [] σ) : ∀ (n : Nat) (a4 : Int32) (a5 : Int32) (a6 : Int32) (a7 : Int32) (a8 : Int32) (a9 : Int32) (a12 : Int32) (σ : gx_R), Md_match_80 K94 n a4 a5 a6 a7 a8 a9 a12 σ = some (rr, σ') → gx_Ev lay0 (E0 D) tt_242 (some (.int rr)) σ' 80 [.ref 109, .null, .null, .null, .int a4, .int a5, .int a6, .int a7, .int a8, .int a9, .null, .null, .int a12] [] σ := by
  intro n
  induction n with
  | zero => intro a4 a5 a6 a7 a8 a9 a12 σ  hf; cases hf
  | succ n ih => intro a4 a5 a6 a7 a8 a9 a12 σ  hf; exact vv_Md_match_80_B D hD rr σ'  K94 hK94 (Md_match_80 K94 n) ih a4 a5 a6 a7 a8 a9 a12 σ  hf
set_option maxHeartbeats 16000000 in
set_option maxRecDepth 20000 in
theorem vv_Md_match_74 (D : Nat) (hD : 6 ≤ D + 1) (rr : Int32) (σ' : gx_R) (K94 : Int32 → Int32 → Int32 → Int32 → Int32 → Int32 → gx_R → Option (Int32 × gx_R)) (hK94 : ∀ (a4 : Int32) (a5 : Int32) (a6 : Int32) (a7 : Int32) (a8 : Int32) (a9 : Int32) (σ : gx_R), K94 a4 a5 a6 a7 a8 a9 σ = some (rr, σ') → gx_Ev lay0 (E0 D) tt_242 (some (.int rr)) σ' 94 [.ref 109, .null, .null, .null, .int a4, .int a5, .int a6, .int a7, .int a8, .int a9, .null, .null, .null] [] σ) (a4 : Int32) (a5 : Int32) (a6 : Int32) (a9 : Int32) (a10 : Int32) (a11 : Int32) (σ : gx_R) (hf : Md_match_74 K94 a4 a5 a6 a9 a10 a11 σ = some (rr, σ')) : gx_Ev lay0 (E0 D) tt_242 (some (.int rr)) σ' 74 [.ref 109, .null, .null, .null, .int a4, .int a5, .int a6, .null, .null, .int a9, .int a10, .int a11, .null] [] σ := by
  unfold Md_match_74 at hf
  exact gx_go_ 6 [] [] 80 [.ref 109, .null, .null, .null, .int a4, .int a5, .int a6, .int a11, .int a10, .int a9, .int a10, .int a11, .int (0 : Int32)] [] σ rfl trivial (gx_fgt (ls' := [.ref 109, .null, .null, .null, .int a4, .int a5, .int a6, .int a11, .int a10, .int a9, .null, .null, .int (0 : Int32)]) ⟨Or.inr rfl, Or.inl rfl, Or.inl rfl, Or.inl rfl, Or.inr rfl, Or.inr rfl, Or.inr rfl, Or.inr rfl, Or.inr rfl, Or.inr rfl, Or.inl rfl, Or.inl rfl, Or.inr rfl, trivial⟩ (vv_Md_match_80 D hD rr σ' K94 hK94 z_FU a4 a5 a6 a11 a10 a9 (0 : Int32) σ hf))
set_option maxHeartbeats 16000000 in
set_option maxRecDepth 20000 in
theorem vv_Md_match_114 (D : Nat) (hD : 6 ≤ D + 1) (rr : Int32) (σ' : gx_R) (a9 : Int32) (σ : gx_R) (hf : Md_match_114 a9 σ = some (rr, σ')) : gx_Ev lay0 (E0 D) tt_242 (some (.int rr)) σ' 114 [.ref 109, .null, .null, .null, .null, .null, .null, .null, .null, .int a9, .null, .null, .null] [] σ := by
  unfold Md_match_114 at hf
  obtain ⟨h1, hf⟩ := z_ck_inv hf
  rcases z_if_inv hf with ⟨h2, hf⟩ | ⟨h2, hf⟩
  · obtain ⟨e1, e2⟩ := z_ret hf
    subst e1
    subst e2
    exact gx_end 10 [.inl 0] [vp_in a9 8, ¬ ¬ ((σ 147 a9.toNatClampNeg) = (σ 109 58))] rfl ⟨(z_ix_in h1), (fun q => q h2), trivial⟩
  · obtain ⟨h3, hf⟩ := z_ck_inv hf
    obtain ⟨h4, hf⟩ := z_ck_inv hf
    obtain ⟨e1, e2⟩ := z_ret hf
    subst e1
    subst e2
    exact gx_end 15 [.inl 1] [vp_in a9 8, ¬ ((σ 147 a9.toNatClampNeg) = (σ 109 58)), vp_in a9 8, vp_in (σ 147 a9.toNatClampNeg) 8] rfl ⟨(z_ix_in h1), h2, (z_ix_in h3), (z_ix_in h4), trivial⟩
set_option maxHeartbeats 16000000 in
set_option maxRecDepth 20000 in
theorem vv_Md_match_61 (D : Nat) (hD : 6 ≤ D + 1) (rr : Int32) (σ' : gx_R) (K94 : Int32 → Int32 → Int32 → Int32 → Int32 → Int32 → gx_R → Option (Int32 × gx_R)) (hK94 : ∀ (a4 : Int32) (a5 : Int32) (a6 : Int32) (a7 : Int32) (a8 : Int32) (a9 : Int32) (σ : gx_R), K94 a4 a5 a6 a7 a8 a9 σ = some (rr, σ') → gx_Ev lay0 (E0 D) tt_242 (some (.int rr)) σ' 94 [.ref 109, .null, .null, .null, .int a4, .int a5, .int a6, .int a7, .int a8, .int a9, .null, .null, .null] [] σ) (a4 : Int32) (a5 : Int32) (a6 : Int32) (a7 : Int32) (a8 : Int32) (a9 : Int32) (a10 : Int32) (s0 : Int32) (σ : gx_R) (hf : Md_match_61 K94 a4 a5 a6 a7 a8 a9 a10 s0 σ = some (rr, σ')) : gx_Ev lay0 (E0 D) tt_242 (some (.int rr)) σ' 61 [.ref 109, .null, .null, .null, .int a4, .int a5, .int a6, .int a7, .int a8, .int a9, .int a10, .null, .null] [.int s0] σ := by
  unfold Md_match_61 at hf
  rcases z_if_inv hf with ⟨h1, hf⟩ | ⟨h1, hf⟩
  · exact gx_go_ 4 [.inl 1] [a7 = (-1 : Int32)] 74 [.ref 109, .null, .null, .null, .int a4, .int a5, .int a6, .int a7, .int a8, .int a9, .int a10, .int s0, .null] [] σ rfl ⟨h1, trivial⟩ (gx_fgt (ls' := [.ref 109, .null, .null, .null, .int a4, .int a5, .int a6, .null, .null, .int a9, .int a10, .int s0, .null]) ⟨Or.inr rfl, Or.inl rfl, Or.inl rfl, Or.inl rfl, Or.inr rfl, Or.inr rfl, Or.inr rfl, Or.inl rfl, Or.inl rfl, Or.inr rfl, Or.inr rfl, Or.inr rfl, Or.inl rfl, trivial⟩ (vv_Md_match_74 D hD rr σ' K94 hK94 a4 a5 a6 a9 a10 s0 σ hf))
  · rcases z_if_inv hf with ⟨h2, hf⟩ | ⟨h2, hf⟩
    · exact gx_go_ 7 [.inl 0, .inl 1] [¬ (a7 = (-1 : Int32)), s0 < a7] 74 [.ref 109, .null, .null, .null, .int a4, .int a5, .int a6, .int a7, .int a8, .int a9, .int a10, .int s0, .null] [] σ rfl ⟨h1, h2, trivial⟩ (gx_fgt (ls' := [.ref 109, .null, .null, .null, .int a4, .int a5, .int a6, .null, .null, .int a9, .int a10, .int s0, .null]) ⟨Or.inr rfl, Or.inl rfl, Or.inl rfl, Or.inl rfl, Or.inr rfl, Or.inr rfl, Or.inr rfl, Or.inl rfl, Or.inl rfl, Or.inr rfl, Or.inr rfl, Or.inr rfl, Or.inl rfl, trivial⟩ (vv_Md_match_74 D hD rr σ' K94 hK94 a4 a5 a6 a9 a10 s0 σ hf))
    · rcases z_if_inv hf with ⟨h3, hf⟩ | ⟨h3, hf⟩
      · rcases z_if_inv hf with ⟨h4, hf⟩ | ⟨h4, hf⟩
        · exact gx_go_ 13 [.inl 0, .inl 0, .inl 0, .inl 1] [¬ (a7 = (-1 : Int32)), ¬ (s0 < a7), ¬ ¬ (s0 = a7), a8 ≤ a10] 94 [.ref 109, .null, .null, .null, .int a4, .int a5, .int a6, .int a7, .int a8, .int a9, .int a10, .int s0, .null] [] σ rfl ⟨h1, h2, (fun q => q h3), h4, trivial⟩ (gx_fgt (ls' := [.ref 109, .null, .null, .null, .int a4, .int a5, .int a6, .int a7, .int a8, .int a9, .null, .null, .null]) ⟨Or.inr rfl, Or.inl rfl, Or.inl rfl, Or.inl rfl, Or.inr rfl, Or.inr rfl, Or.inr rfl, Or.inr rfl, Or.inr rfl, Or.inr rfl, Or.inl rfl, Or.inl rfl, Or.inl rfl, trivial⟩ (hK94 a4 a5 a6 a7 a8 a9 σ hf))
        · exact gx_go_ 13 [.inl 0, .inl 0, .inl 0, .inl 0] [¬ (a7 = (-1 : Int32)), ¬ (s0 < a7), ¬ ¬ (s0 = a7), ¬ (a8 ≤ a10)] 74 [.ref 109, .null, .null, .null, .int a4, .int a5, .int a6, .int a7, .int a8, .int a9, .int a10, .int s0, .null] [] σ rfl ⟨h1, h2, (fun q => q h3), h4, trivial⟩ (gx_fgt (ls' := [.ref 109, .null, .null, .null, .int a4, .int a5, .int a6, .null, .null, .int a9, .int a10, .int s0, .null]) ⟨Or.inr rfl, Or.inl rfl, Or.inl rfl, Or.inl rfl, Or.inr rfl, Or.inr rfl, Or.inr rfl, Or.inl rfl, Or.inl rfl, Or.inr rfl, Or.inr rfl, Or.inr rfl, Or.inl rfl, trivial⟩ (vv_Md_match_74 D hD rr σ' K94 hK94 a4 a5 a6 a9 a10 s0 σ hf))
      · exact gx_go_ 10 [.inl 0, .inl 0, .inl 1] [¬ (a7 = (-1 : Int32)), ¬ (s0 < a7), ¬ (s0 = a7)] 94 [.ref 109, .null, .null, .null, .int a4, .int a5, .int a6, .int a7, .int a8, .int a9, .int a10, .int s0, .null] [] σ rfl ⟨h1, h2, h3, trivial⟩ (gx_fgt (ls' := [.ref 109, .null, .null, .null, .int a4, .int a5, .int a6, .int a7, .int a8, .int a9, .null, .null, .null]) ⟨Or.inr rfl, Or.inl rfl, Or.inl rfl, Or.inl rfl, Or.inr rfl, Or.inr rfl, Or.inr rfl, Or.inr rfl, Or.inr rfl, Or.inr rfl, Or.inl rfl, Or.inl rfl, Or.inl rfl, trivial⟩ (hK94 a4 a5 a6 a7 a8 a9 σ hf))
set_option maxHeartbeats 16000000 in
set_option maxRecDepth 20000 in
theorem vv_Md_match_106_B (D : Nat) (hD : 6 ≤ D + 1) (rr : Int32) (σ' : gx_R) (K106 : Int32 → Int32 → gx_R → Option (Int32 × gx_R)) (hK106 : ∀ (a5 : Int32) (a9 : Int32) (σ : gx_R), K106 a5 a9 σ = some (rr, σ') → gx_Ev lay0 (E0 D) tt_242 (some (.int rr)) σ' 106 [.ref 109, .null, .null, .null, .null, .int a5, .null, .null, .null, .int a9, .null, .null, .null] [] σ) (a5 : Int32) (a9 : Int32) (σ : gx_R) (hf : Md_match_106_B K106 a5 a9 σ = some (rr, σ')) : gx_Ev lay0 (E0 D) tt_242 (some (.int rr)) σ' 106 [.ref 109, .null, .null, .null, .null, .int a5, .null, .null, .null, .int a9, .null, .null, .null] [] σ := by
  unfold Md_match_106_B at hf
  obtain ⟨h1, hf⟩ := z_ck_inv hf
  rcases z_if_inv hf with ⟨h2, hf⟩ | ⟨h2, hf⟩
  · exact gx_go_ 6 [.inl 1] [vp_in a9 8, (σ 142 a9.toNatClampNeg) = a5] 114 [.ref 109, .null, .null, .null, .null, .int a5, .null, .null, .null, .int a9, .null, .null, .null] [] σ rfl ⟨(z_ix_in h1), h2, trivial⟩ (gx_fgt (ls' := [.ref 109, .null, .null, .null, .null, .null, .null, .null, .null, .int a9, .null, .null, .null]) ⟨Or.inr rfl, Or.inl rfl, Or.inl rfl, Or.inl rfl, Or.inl rfl, Or.inl rfl, Or.inl rfl, Or.inl rfl, Or.inl rfl, Or.inr rfl, Or.inl rfl, Or.inl rfl, Or.inl rfl, trivial⟩ (vv_Md_match_114 D hD rr σ' a9 σ hf))
  · exact gx_go_ 8 [.inl 0] [vp_in a9 8, ¬ ((σ 142 a9.toNatClampNeg) = a5)] 106 [.ref 109, .null, .null, .null, .null, .int a5, .null, .null, .null, .int (a9 + 1), .null, .null, .null] [] σ rfl ⟨(z_ix_in h1), h2, trivial⟩ (gx_fgt (ls' := [.ref 109, .null, .null, .null, .null, .int a5, .null, .null, .null, .int (a9 + 1), .null, .null, .null]) ⟨Or.inr rfl, Or.inl rfl, Or.inl rfl, Or.inl rfl, Or.inl rfl, Or.inr rfl, Or.inl rfl, Or.inl rfl, Or.inl rfl, Or.inr rfl, Or.inl rfl, Or.inl rfl, Or.inl rfl, trivial⟩ (hK106 a5 (a9 + 1) σ hf))
set_option maxHeartbeats 16000000 in
set_option maxRecDepth 20000 in
theorem vv_Md_match_106 (D : Nat) (hD : 6 ≤ D + 1) (rr : Int32) (σ' : gx_R) : ∀ (n : Nat) (a5 : Int32) (a9 : Int32) (σ : gx_R), Md_match_106 n a5 a9 σ = some (rr, σ') → gx_Ev lay0 (E0 D) tt_242 (some (.int rr)) σ' 106 [.ref 109, .null, .null, .null, .null, .int a5, .null, .null, .null, .int a9, .null, .null, .null] [] σ := by
  intro n
  induction n with
  | zero => intro a5 a9 σ  hf; cases hf
  | succ n ih => intro a5 a9 σ  hf; exact vv_Md_match_106_B D hD rr σ'  (Md_match_106 n) ih a5 a9 σ  hf
set_option maxHeartbeats 16000000 in
set_option maxRecDepth 20000 in
theorem vv_Md_match_94 (D : Nat) (hD : 6 ≤ D + 1) (rr : Int32) (σ' : gx_R) (K42 : Int32 → Int32 → Int32 → Int32 → Int32 → Int32 → gx_R → Option (Int32 × gx_R)) (hK42 : ∀ (a4 : Int32) (a5 : Int32) (a6 : Int32) (a7 : Int32) (a8 : Int32) (a9 : Int32) (σ : gx_R), K42 a4 a5 a6 a7 a8 a9 σ = some (rr, σ') → gx_Ev lay0 (E0 D) tt_242 (some (.int rr)) σ' 42 [.ref 109, .null, .null, .null, .int a4, .int a5, .int a6, .int a7, .int a8, .int a9, .null, .null, .null] [] σ) (a4 : Int32) (a5 : Int32) (a6 : Int32) (a7 : Int32) (a8 : Int32) (a9 : Int32) (σ : gx_R) (hf : Md_match_94 K42 a4 a5 a6 a7 a8 a9 σ = some (rr, σ')) : gx_Ev lay0 (E0 D) tt_242 (some (.int rr)) σ' 94 [.ref 109, .null, .null, .null, .int a4, .int a5, .int a6, .int a7, .int a8, .int a9, .null, .null, .null] [] σ := by
  unfold Md_match_94 at hf
  exact gx_go_ 2 [] [] 42 [.ref 109, .null, .null, .null, .int a4, .int a5, .int a6, .int a7, .int a8, .int (a9 + 1), .null, .null, .null] [] σ rfl trivial (gx_fgt (ls' := [.ref 109, .null, .null, .null, .int a4, .int a5, .int a6, .int a7, .int a8, .int (a9 + 1), .null, .null, .null]) ⟨Or.inr rfl, Or.inl rfl, Or.inl rfl, Or.inl rfl, Or.inr rfl, Or.inr rfl, Or.inr rfl, Or.inr rfl, Or.inr rfl, Or.inr rfl, Or.inl rfl, Or.inl rfl, Or.inl rfl, trivial⟩ (hK42 a4 a5 a6 a7 a8 (a9 + 1) σ hf))
set_option maxHeartbeats 16000000 in
set_option maxRecDepth 20000 in
theorem vv_Md_match_96 (D : Nat) (hD : 6 ≤ D + 1) (rr : Int32) (σ' : gx_R) (a5 : Int32) (a7 : Int32) (σ : gx_R) (hf : Md_match_96 a5 a7 σ = some (rr, σ')) : gx_Ev lay0 (E0 D) tt_242 (some (.int rr)) σ' 96 [.ref 109, .null, .null, .null, .null, .int a5, .null, .int a7, .null, .null, .null, .null, .null] [] σ := by
  unfold Md_match_96 at hf
  rcases z_if_inv hf with ⟨h1, hf⟩ | ⟨h1, hf⟩
  · obtain ⟨e1, e2⟩ := z_ret hf
    subst e1
    subst e2
    exact gx_end 5 [.inl 1] [a7 = (-1 : Int32)] rfl ⟨h1, trivial⟩
  · rcases z_if_inv hf with ⟨h2, hf⟩ | ⟨h2, hf⟩
    · obtain ⟨e1, e2⟩ := z_ret hf
      subst e1
      subst e2
      exact gx_end 8 [.inl 0, .inl 0] [¬ (a7 = (-1 : Int32)), ¬ ¬ (a5 = (-1 : Int32))] rfl ⟨h1, (fun q => q h2), trivial⟩
    · exact gx_go_ 8 [.inl 0, .inl 1] [¬ (a7 = (-1 : Int32)), ¬ (a5 = (-1 : Int32))] 106 [.ref 109, .null, .null, .null, .null, .int a5, .null, .int a7, .null, .int (0 : Int32), .null, .null, .null] [] σ rfl ⟨h1, h2, trivial⟩ (gx_fgt (ls' := [.ref 109, .null, .null, .null, .null, .int a5, .null, .null, .null, .int (0 : Int32), .null, .null, .null]) ⟨Or.inr rfl, Or.inl rfl, Or.inl rfl, Or.inl rfl, Or.inl rfl, Or.inr rfl, Or.inl rfl, Or.inl rfl, Or.inl rfl, Or.inr rfl, Or.inl rfl, Or.inl rfl, Or.inl rfl, trivial⟩ (vv_Md_match_106 D hD rr σ' z_FU a5 (0 : Int32) σ hf))
set_option maxHeartbeats 16000000 in
set_option maxRecDepth 20000 in
theorem vv_Md_match_42_B (D : Nat) (hD : 6 ≤ D + 1) (rr : Int32) (σ' : gx_R) (K42 : Int32 → Int32 → Int32 → Int32 → Int32 → Int32 → gx_R → Option (Int32 × gx_R)) (hK42 : ∀ (a4 : Int32) (a5 : Int32) (a6 : Int32) (a7 : Int32) (a8 : Int32) (a9 : Int32) (σ : gx_R), K42 a4 a5 a6 a7 a8 a9 σ = some (rr, σ') → gx_Ev lay0 (E0 D) tt_242 (some (.int rr)) σ' 42 [.ref 109, .null, .null, .null, .int a4, .int a5, .int a6, .int a7, .int a8, .int a9, .null, .null, .null] [] σ) (a4 : Int32) (a5 : Int32) (a6 : Int32) (a7 : Int32) (a8 : Int32) (a9 : Int32) (σ : gx_R) (hf : Md_match_42_B K42 a4 a5 a6 a7 a8 a9 σ = some (rr, σ')) : gx_Ev lay0 (E0 D) tt_242 (some (.int rr)) σ' 42 [.ref 109, .null, .null, .null, .int a4, .int a5, .int a6, .int a7, .int a8, .int a9, .null, .null, .null] [] σ := by
  unfold Md_match_42_B at hf
  rcases z_if_inv hf with ⟨h1, hf⟩ | ⟨h1, hf⟩
  · exact gx_go_ 3 [.inl 1] [a6 ≤ a9] 96 [.ref 109, .null, .null, .null, .int a4, .int a5, .int a6, .int a7, .int a8, .int a9, .null, .null, .null] [] σ rfl ⟨h1, trivial⟩ (gx_fgt (ls' := [.ref 109, .null, .null, .null, .null, .int a5, .null, .int a7, .null, .null, .null, .null, .null]) ⟨Or.inr rfl, Or.inl rfl, Or.inl rfl, Or.inl rfl, Or.inl rfl, Or.inr rfl, Or.inl rfl, Or.inr rfl, Or.inl rfl, Or.inl rfl, Or.inl rfl, Or.inl rfl, Or.inl rfl, trivial⟩ (vv_Md_match_96 D hD rr σ' a5 a7 σ hf))
  · obtain ⟨r2, σ3, h4, hf⟩ := z_bd_inv hf
    rcases z_if_inv hf with ⟨h5, hf⟩ | ⟨h5, hf⟩
    · exact gx_go_ 7 [.inl 0, .inr (some (.int r2), σ3), .inl 1] [¬ (a6 ≤ a9), E0 D 238 [.ref 109, .int a9] σ (some (.int r2)) σ3, r2 = 0] 94 [.ref 109, .null, .null, .null, .int a4, .int a5, .int a6, .int a7, .int a8, .int a9, .null, .null, .null] [] σ3 rfl ⟨h1, (ww_Md_laysWay D (by omega) a9 σ r2 σ3 h4), h5, trivial⟩ (gx_fgt (ls' := [.ref 109, .null, .null, .null, .int a4, .int a5, .int a6, .int a7, .int a8, .int a9, .null, .null, .null]) ⟨Or.inr rfl, Or.inl rfl, Or.inl rfl, Or.inl rfl, Or.inr rfl, Or.inr rfl, Or.inr rfl, Or.inr rfl, Or.inr rfl, Or.inr rfl, Or.inl rfl, Or.inl rfl, Or.inl rfl, trivial⟩ (vv_Md_match_94 D hD rr σ' K42 hK42 a4 a5 a6 a7 a8 a9 σ3 hf))
    · obtain ⟨r6, σ7, h8, hf⟩ := z_bd_inv hf
      rcases z_if_inv hf with ⟨h9, hf⟩ | ⟨h9, hf⟩
      · exact gx_go_ 10 [.inl 0, .inr (some (.int r2), σ3), .inl 0, .inr (some (.int r6), σ7), .inl 1] [¬ (a6 ≤ a9), E0 D 238 [.ref 109, .int a9] σ (some (.int r2)) σ3, ¬ (r2 = 0), E0 D 239 [.ref 109] σ3 (some (.int r6)) σ7, r6 = 0] 94 [.ref 109, .null, .null, .null, .int a4, .int a5, .int a6, .int a7, .int a8, .int a9, .null, .null, .null] [] σ7 rfl ⟨h1, (ww_Md_laysWay D (by omega) a9 σ r2 σ3 h4), h5, (ww_Md_isEnough D (by omega) σ3 r6 σ7 h8), h9, trivial⟩ (gx_fgt (ls' := [.ref 109, .null, .null, .null, .int a4, .int a5, .int a6, .int a7, .int a8, .int a9, .null, .null, .null]) ⟨Or.inr rfl, Or.inl rfl, Or.inl rfl, Or.inl rfl, Or.inr rfl, Or.inr rfl, Or.inr rfl, Or.inr rfl, Or.inr rfl, Or.inr rfl, Or.inl rfl, Or.inl rfl, Or.inl rfl, trivial⟩ (vv_Md_match_94 D hD rr σ' K42 hK42 a4 a5 a6 a7 a8 a9 σ7 hf))
      · obtain ⟨r10, σ11, h12, hf⟩ := z_bd_inv hf
        rcases z_if_inv hf with ⟨h13, hf⟩ | ⟨h13, hf⟩
        · exact gx_go_ 16 [.inl 0, .inr (some (.int r2), σ3), .inl 0, .inr (some (.int r6), σ7), .inl 0, .inr (some (.int r10), σ11), .inl 1] [¬ (a6 ≤ a9), E0 D 238 [.ref 109, .int a9] σ (some (.int r2)) σ3, ¬ (r2 = 0), E0 D 239 [.ref 109] σ3 (some (.int r6)) σ7, ¬ (r6 = 0), E0 D 241 [.ref 109] σ7 (some (.int r10)) σ11, a4 = 0] 61 [.ref 109, .null, .null, .null, .int a4, .int a5, .int a6, .int a7, .int a8, .int a9, .int r10, .null, .null] [.int r10] σ11 rfl ⟨h1, (ww_Md_laysWay D (by omega) a9 σ r2 σ3 h4), h5, (ww_Md_isEnough D (by omega) σ3 r6 σ7 h8), h9, (ww_Md_sleepNow D (by omega) σ7 r10 σ11 h12), h13, trivial⟩ (gx_fgt (ls' := [.ref 109, .null, .null, .null, .int a4, .int a5, .int a6, .int a7, .int a8, .int a9, .int r10, .null, .null]) ⟨Or.inr rfl, Or.inl rfl, Or.inl rfl, Or.inl rfl, Or.inr rfl, Or.inr rfl, Or.inr rfl, Or.inr rfl, Or.inr rfl, Or.inr rfl, Or.inr rfl, Or.inl rfl, Or.inl rfl, trivial⟩ (vv_Md_match_61 D hD rr σ' (Md_match_94 K42) (vv_Md_match_94 D hD rr σ' K42 hK42) a4 a5 a6 a7 a8 a9 r10 r10 σ11 hf))
        · obtain ⟨r14, σ15, h16, hf⟩ := z_bd_inv hf
          exact gx_go_ 18 [.inl 0, .inr (some (.int r2), σ3), .inl 0, .inr (some (.int r6), σ7), .inl 0, .inr (some (.int r10), σ11), .inl 0, .inr (some (.int r14), σ15)] [¬ (a6 ≤ a9), E0 D 238 [.ref 109, .int a9] σ (some (.int r2)) σ3, ¬ (r2 = 0), E0 D 239 [.ref 109] σ3 (some (.int r6)) σ7, ¬ (r6 = 0), E0 D 241 [.ref 109] σ7 (some (.int r10)) σ11, ¬ (a4 = 0), E0 D 240 [.ref 109] σ11 (some (.int r14)) σ15] 61 [.ref 109, .null, .null, .null, .int a4, .int a5, .int a6, .int a7, .int a8, .int a9, .int r10, .null, .null] [.int r14] σ15 rfl ⟨h1, (ww_Md_laysWay D (by omega) a9 σ r2 σ3 h4), h5, (ww_Md_isEnough D (by omega) σ3 r6 σ7 h8), h9, (ww_Md_sleepNow D (by omega) σ7 r10 σ11 h12), h13, (ww_Md_priceNow D (by omega) σ11 r14 σ15 h16), trivial⟩ (gx_fgt (ls' := [.ref 109, .null, .null, .null, .int a4, .int a5, .int a6, .int a7, .int a8, .int a9, .int r10, .null, .null]) ⟨Or.inr rfl, Or.inl rfl, Or.inl rfl, Or.inl rfl, Or.inr rfl, Or.inr rfl, Or.inr rfl, Or.inr rfl, Or.inr rfl, Or.inr rfl, Or.inr rfl, Or.inl rfl, Or.inl rfl, trivial⟩ (vv_Md_match_61 D hD rr σ' (Md_match_94 K42) (vv_Md_match_94 D hD rr σ' K42 hK42) a4 a5 a6 a7 a8 a9 r10 r14 σ15 hf))
set_option maxHeartbeats 16000000 in
set_option maxRecDepth 20000 in
theorem vv_Md_match_42 (D : Nat) (hD : 6 ≤ D + 1) (rr : Int32) (σ' : gx_R) : ∀ (n : Nat) (a4 : Int32) (a5 : Int32) (a6 : Int32) (a7 : Int32) (a8 : Int32) (a9 : Int32) (σ : gx_R), Md_match_42 n a4 a5 a6 a7 a8 a9 σ = some (rr, σ') → gx_Ev lay0 (E0 D) tt_242 (some (.int rr)) σ' 42 [.ref 109, .null, .null, .null, .int a4, .int a5, .int a6, .int a7, .int a8, .int a9, .null, .null, .null] [] σ := by
  intro n
  induction n with
  | zero => intro a4 a5 a6 a7 a8 a9 σ  hf; cases hf
  | succ n ih => intro a4 a5 a6 a7 a8 a9 σ  hf; exact vv_Md_match_42_B D hD rr σ'  (Md_match_42 n) ih a4 a5 a6 a7 a8 a9 σ  hf
set_option maxHeartbeats 16000000 in
set_option maxRecDepth 20000 in
theorem vv_Md_match_36 (D : Nat) (hD : 6 ≤ D + 1) (rr : Int32) (σ' : gx_R) (a4 : Int32) (a5 : Int32) (a6 : Int32) (σ : gx_R) (hf : Md_match_36 a4 a5 a6 σ = some (rr, σ')) : gx_Ev lay0 (E0 D) tt_242 (some (.int rr)) σ' 36 [.ref 109, .null, .null, .null, .int a4, .int a5, .int a6, .null, .null, .null, .null, .null, .null] [] σ := by
  unfold Md_match_36 at hf
  exact gx_go_ 6 [] [] 42 [.ref 109, .null, .null, .null, .int a4, .int a5, .int a6, .int (-1 : Int32), .int (0 : Int32), .int (0 : Int32), .null, .null, .null] [] σ rfl trivial (gx_fgt (ls' := [.ref 109, .null, .null, .null, .int a4, .int a5, .int a6, .int (-1 : Int32), .int (0 : Int32), .int (0 : Int32), .null, .null, .null]) ⟨Or.inr rfl, Or.inl rfl, Or.inl rfl, Or.inl rfl, Or.inr rfl, Or.inr rfl, Or.inr rfl, Or.inr rfl, Or.inr rfl, Or.inr rfl, Or.inl rfl, Or.inl rfl, Or.inl rfl, trivial⟩ (vv_Md_match_42 D hD rr σ' z_FU a4 a5 a6 (-1 : Int32) (0 : Int32) (0 : Int32) σ hf))
set_option maxHeartbeats 16000000 in
set_option maxRecDepth 20000 in
theorem vv_Md_match_23_B (D : Nat) (hD : 6 ≤ D + 1) (rr : Int32) (σ' : gx_R) (K23 : Int32 → Int32 → Int32 → Int32 → gx_R → Option (Int32 × gx_R)) (hK23 : ∀ (a4 : Int32) (a5 : Int32) (a6 : Int32) (a7 : Int32) (σ : gx_R), K23 a4 a5 a6 a7 σ = some (rr, σ') → gx_Ev lay0 (E0 D) tt_242 (some (.int rr)) σ' 23 [.ref 109, .null, .null, .null, .int a4, .int a5, .int a6, .int a7, .null, .null, .null, .null, .null] [] σ) (a4 : Int32) (a5 : Int32) (a6 : Int32) (a7 : Int32) (σ : gx_R) (hf : Md_match_23_B K23 a4 a5 a6 a7 σ = some (rr, σ')) : gx_Ev lay0 (E0 D) tt_242 (some (.int rr)) σ' 23 [.ref 109, .null, .null, .null, .int a4, .int a5, .int a6, .int a7, .null, .null, .null, .null, .null] [] σ := by
  unfold Md_match_23_B at hf
  rcases z_if_inv hf with ⟨h1, hf⟩ | ⟨h1, hf⟩
  · exact gx_go_ 4 [.inl 1] [(σ 109 59) ≤ a7] 36 [.ref 109, .null, .null, .null, .int a4, .int a5, .int a6, .int a7, .null, .null, .null, .null, .null] [] σ rfl ⟨h1, trivial⟩ (gx_fgt (ls' := [.ref 109, .null, .null, .null, .int a4, .int a5, .int a6, .null, .null, .null, .null, .null, .null]) ⟨Or.inr rfl, Or.inl rfl, Or.inl rfl, Or.inl rfl, Or.inr rfl, Or.inr rfl, Or.inr rfl, Or.inl rfl, Or.inl rfl, Or.inl rfl, Or.inl rfl, Or.inl rfl, Or.inl rfl, trivial⟩ (vv_Md_match_36 D hD rr σ' a4 a5 a6 σ hf))
  · exact gx_go_ 13 [.inl 0] [¬ ((σ 109 59) ≤ a7)] 23 [.ref 109, .null, .null, .null, .int a4, .int a5, .int (a6 * ((σ 109 58) + (1 : Int32))), .int (a7 + 1), .null, .null, .null, .null, .null] [] σ rfl ⟨h1, trivial⟩ (gx_fgt (ls' := [.ref 109, .null, .null, .null, .int a4, .int a5, .int (a6 * ((σ 109 58) + (1 : Int32))), .int (a7 + 1), .null, .null, .null, .null, .null]) ⟨Or.inr rfl, Or.inl rfl, Or.inl rfl, Or.inl rfl, Or.inr rfl, Or.inr rfl, Or.inr rfl, Or.inr rfl, Or.inl rfl, Or.inl rfl, Or.inl rfl, Or.inl rfl, Or.inl rfl, trivial⟩ (hK23 a4 a5 (a6 * ((σ 109 58) + (1 : Int32))) (a7 + 1) σ hf))
set_option maxHeartbeats 16000000 in
set_option maxRecDepth 20000 in
theorem vv_Md_match_23 (D : Nat) (hD : 6 ≤ D + 1) (rr : Int32) (σ' : gx_R) : ∀ (n : Nat) (a4 : Int32) (a5 : Int32) (a6 : Int32) (a7 : Int32) (σ : gx_R), Md_match_23 n a4 a5 a6 a7 σ = some (rr, σ') → gx_Ev lay0 (E0 D) tt_242 (some (.int rr)) σ' 23 [.ref 109, .null, .null, .null, .int a4, .int a5, .int a6, .int a7, .null, .null, .null, .null, .null] [] σ := by
  intro n
  induction n with
  | zero => intro a4 a5 a6 a7 σ  hf; cases hf
  | succ n ih => intro a4 a5 a6 a7 σ  hf; exact vv_Md_match_23_B D hD rr σ'  (Md_match_23 n) ih a4 a5 a6 a7 σ  hf
set_option maxHeartbeats 16000000 in
set_option maxRecDepth 20000 in
theorem vv_Md_match_19 (D : Nat) (hD : 6 ≤ D + 1) (rr : Int32) (σ' : gx_R) (a4 : Int32) (a5 : Int32) (σ : gx_R) (hf : Md_match_19 a4 a5 σ = some (rr, σ')) : gx_Ev lay0 (E0 D) tt_242 (some (.int rr)) σ' 19 [.ref 109, .null, .null, .null, .int a4, .int a5, .null, .null, .null, .null, .null, .null, .null] [] σ := by
  unfold Md_match_19 at hf
  exact gx_go_ 4 [] [] 23 [.ref 109, .null, .null, .null, .int a4, .int a5, .int (1 : Int32), .int (0 : Int32), .null, .null, .null, .null, .null] [] σ rfl trivial (gx_fgt (ls' := [.ref 109, .null, .null, .null, .int a4, .int a5, .int (1 : Int32), .int (0 : Int32), .null, .null, .null, .null, .null]) ⟨Or.inr rfl, Or.inl rfl, Or.inl rfl, Or.inl rfl, Or.inr rfl, Or.inr rfl, Or.inr rfl, Or.inr rfl, Or.inl rfl, Or.inl rfl, Or.inl rfl, Or.inl rfl, Or.inl rfl, trivial⟩ (vv_Md_match_23 D hD rr σ' z_FU a4 a5 (1 : Int32) (0 : Int32) σ hf))
set_option maxHeartbeats 16000000 in
set_option maxRecDepth 20000 in
theorem vv_Md_match_E (D : Nat) (hD : 6 ≤ D + 1) (rr : Int32) (σ' : gx_R) (a1 : Int32) (a2 : Int32) (a3 : Int32) (a4 : Int32) (a5 : Int32) (σ : gx_R) (hf : Md_match a1 a2 a3 a4 a5 σ = some (rr, σ')) : gx_Ev lay0 (E0 D) tt_242 (some (.int rr)) σ' 0 [.ref 109, .int a1, .int a2, .int a3, .int a4, .int a5, .null, .null, .null, .null, .null, .null, .null] [] σ := by
  unfold Md_match at hf
  obtain ⟨r1, σ2, h3, hf⟩ := z_bd_inv hf
  rcases z_if_inv hf with ⟨h4, hf⟩ | ⟨h4, hf⟩
  · obtain ⟨e1, e2⟩ := z_ret hf
    subst e1
    subst e2
    exact gx_end 8 [.inr (some (.int r1), σ2), .inl 1] [E0 D 237 [.ref 109, .int a1, .int a2, .int a3] σ (some (.int r1)) σ2, r1 = 0] rfl ⟨(ww_Md_laysMatch D (by omega) a1 a2 a3 σ r1 σ2 h3), h4, trivial⟩
  · rcases z_if_inv hf with ⟨h5, hf⟩ | ⟨h5, hf⟩
    · exact gx_go_ 9 [.inr (some (.int r1), σ2), .inl 0, .inl 1] [E0 D 237 [.ref 109, .int a1, .int a2, .int a3] σ (some (.int r1)) σ2, ¬ (r1 = 0), a5 = (-1 : Int32)] 19 [.ref 109, .int a1, .int a2, .int a3, .int a4, .int a5, .null, .null, .null, .null, .null, .null, .null] [] σ2 rfl ⟨(ww_Md_laysMatch D (by omega) a1 a2 a3 σ r1 σ2 h3), h4, h5, trivial⟩ (gx_fgt (ls' := [.ref 109, .null, .null, .null, .int a4, .int a5, .null, .null, .null, .null, .null, .null, .null]) ⟨Or.inr rfl, Or.inl rfl, Or.inl rfl, Or.inl rfl, Or.inr rfl, Or.inr rfl, Or.inl rfl, Or.inl rfl, Or.inl rfl, Or.inl rfl, Or.inl rfl, Or.inl rfl, Or.inl rfl, trivial⟩ (vv_Md_match_19 D hD rr σ' a4 a5 σ2 hf))
    · obtain ⟨r6, σ7, h8, hf⟩ := z_bd_inv hf
      rcases z_if_inv hf with ⟨h9, hf⟩ | ⟨h9, hf⟩
      · obtain ⟨e1, e2⟩ := z_ret hf
        subst e1
        subst e2
        exact gx_end 15 [.inr (some (.int r1), σ2), .inl 0, .inl 0, .inr (some (.int r6), σ7), .inl 1] [E0 D 237 [.ref 109, .int a1, .int a2, .int a3] σ (some (.int r1)) σ2, ¬ (r1 = 0), ¬ (a5 = (-1 : Int32)), E0 D 149 [.ref 109, .int a5] σ2 (some (.int r6)) σ7, r6 = 0] rfl ⟨(ww_Md_laysMatch D (by omega) a1 a2 a3 σ r1 σ2 h3), h4, h5, (ww_Md_isPerson D (by omega) a5 σ2 r6 σ7 h8), h9, trivial⟩
      · obtain ⟨r10, σ11, h12, hf⟩ := z_bd_inv hf
        rcases z_if_inv hf with ⟨h13, hf⟩ | ⟨h13, hf⟩
        · obtain ⟨e1, e2⟩ := z_ret hf
          subst e1
          subst e2
          exact gx_end 19 [.inr (some (.int r1), σ2), .inl 0, .inl 0, .inr (some (.int r6), σ7), .inl 0, .inr (some (.int r10), σ11), .inl 0] [E0 D 237 [.ref 109, .int a1, .int a2, .int a3] σ (some (.int r1)) σ2, ¬ (r1 = 0), ¬ (a5 = (-1 : Int32)), E0 D 149 [.ref 109, .int a5] σ2 (some (.int r6)) σ7, ¬ (r6 = 0), E0 D 146 [.int a3, .int a5] σ7 (some (.int r10)) σ11, ¬ ¬ (r10 = 0)] rfl ⟨(ww_Md_laysMatch D (by omega) a1 a2 a3 σ r1 σ2 h3), h4, h5, (ww_Md_isPerson D (by omega) a5 σ2 r6 σ7 h8), h9, (ww_Md_has D (by omega) a3 a5 σ7 r10 σ11 h12), (fun q => q h13), trivial⟩
        · exact gx_go_ 17 [.inr (some (.int r1), σ2), .inl 0, .inl 0, .inr (some (.int r6), σ7), .inl 0, .inr (some (.int r10), σ11), .inl 1] [E0 D 237 [.ref 109, .int a1, .int a2, .int a3] σ (some (.int r1)) σ2, ¬ (r1 = 0), ¬ (a5 = (-1 : Int32)), E0 D 149 [.ref 109, .int a5] σ2 (some (.int r6)) σ7, ¬ (r6 = 0), E0 D 146 [.int a3, .int a5] σ7 (some (.int r10)) σ11, ¬ (r10 = 0)] 19 [.ref 109, .int a1, .int a2, .int a3, .int a4, .int a5, .null, .null, .null, .null, .null, .null, .null] [] σ11 rfl ⟨(ww_Md_laysMatch D (by omega) a1 a2 a3 σ r1 σ2 h3), h4, h5, (ww_Md_isPerson D (by omega) a5 σ2 r6 σ7 h8), h9, (ww_Md_has D (by omega) a3 a5 σ7 r10 σ11 h12), h13, trivial⟩ (gx_fgt (ls' := [.ref 109, .null, .null, .null, .int a4, .int a5, .null, .null, .null, .null, .null, .null, .null]) ⟨Or.inr rfl, Or.inl rfl, Or.inl rfl, Or.inl rfl, Or.inr rfl, Or.inr rfl, Or.inl rfl, Or.inl rfl, Or.inl rfl, Or.inl rfl, Or.inl rfl, Or.inl rfl, Or.inl rfl, trivial⟩ (vv_Md_match_19 D hD rr σ' a4 a5 σ11 hf))
set_option maxHeartbeats 16000000 in
set_option maxRecDepth 20000 in
theorem ww_Md_match (D : Nat) (hD : 6 ≤ D) (a1 : Int32) (a2 : Int32) (a3 : Int32) (a4 : Int32) (a5 : Int32) (σ : gx_R) (rr : Int32) (σ' : gx_R) (hf : Md_match a1 a2 a3 a4 a5 σ = some (rr, σ')) : E0 D 242 [.ref 109, .int a1, .int a2, .int a3, .int a4, .int a5] σ (some (.int rr)) σ' := by
  cases D with
  | zero => omega
  | succ D => exact Or.inl ⟨Nat.le_of_ble_eq_true rfl, vv_Md_match_E D hD rr σ' a1 a2 a3 a4 a5 σ hf⟩
set_option maxHeartbeats 16000000 in
set_option maxRecDepth 20000 in
theorem vv_Md_cannot_60 (D : Nat) (hD : 2 ≤ D + 1) (rr : Int32) (σ' : gx_R) (K61 : Int32 → Int32 → Int32 → Int32 → Int32 → gx_R → Option (Int32 × gx_R)) (hK61 : ∀ (a1 : Int32) (a2 : Int32) (a3 : Int32) (a5 : Int32) (s0 : Int32) (σ : gx_R), K61 a1 a2 a3 a5 s0 σ = some (rr, σ') → gx_Ev lay0 (E0 D) tt_243 (some (.int rr)) σ' 61 [.ref 109, .int a1, .int a2, .int a3, .null, .int a5] [.int s0] σ) (a1 : Int32) (a2 : Int32) (a3 : Int32) (a4 : Int32) (a5 : Int32) (σ : gx_R) (hf : Md_cannot_60 K61 a1 a2 a3 a4 a5 σ = some (rr, σ')) : gx_Ev lay0 (E0 D) tt_243 (some (.int rr)) σ' 60 [.ref 109, .int a1, .int a2, .int a3, .int a4, .int a5] [] σ := by
  unfold Md_cannot_60 at hf
  exact gx_go_ 1 [] [] 61 [.ref 109, .int a1, .int a2, .int a3, .int a4, .int a5] [.int a4] σ rfl trivial (gx_fgt (ls' := [.ref 109, .int a1, .int a2, .int a3, .null, .int a5]) ⟨Or.inr rfl, Or.inr rfl, Or.inr rfl, Or.inr rfl, Or.inl rfl, Or.inr rfl, trivial⟩ (hK61 a1 a2 a3 a5 a4 σ hf))
set_option maxHeartbeats 16000000 in
set_option maxRecDepth 20000 in
theorem vv_Md_cannot_61 (D : Nat) (hD : 2 ≤ D + 1) (rr : Int32) (σ' : gx_R) (K33 : Int32 → Int32 → Int32 → Int32 → Int32 → gx_R → Option (Int32 × gx_R)) (hK33 : ∀ (a1 : Int32) (a2 : Int32) (a3 : Int32) (a4 : Int32) (a5 : Int32) (σ : gx_R), K33 a1 a2 a3 a4 a5 σ = some (rr, σ') → gx_Ev lay0 (E0 D) tt_243 (some (.int rr)) σ' 33 [.ref 109, .int a1, .int a2, .int a3, .int a4, .int a5] [] σ) (a1 : Int32) (a2 : Int32) (a3 : Int32) (a5 : Int32) (s0 : Int32) (σ : gx_R) (hf : Md_cannot_61 K33 a1 a2 a3 a5 s0 σ = some (rr, σ')) : gx_Ev lay0 (E0 D) tt_243 (some (.int rr)) σ' 61 [.ref 109, .int a1, .int a2, .int a3, .null, .int a5] [.int s0] σ := by
  unfold Md_cannot_61 at hf
  exact gx_go_ 3 [] [] 33 [.ref 109, .int a1, .int a2, .int a3, .int s0, .int (a5 + 1)] [] σ rfl trivial (gx_fgt (ls' := [.ref 109, .int a1, .int a2, .int a3, .int s0, .int (a5 + 1)]) ⟨Or.inr rfl, Or.inr rfl, Or.inr rfl, Or.inr rfl, Or.inr rfl, Or.inr rfl, trivial⟩ (hK33 a1 a2 a3 s0 (a5 + 1) σ hf))
set_option maxHeartbeats 16000000 in
set_option maxRecDepth 20000 in
theorem vv_Md_cannot_64 (D : Nat) (hD : 2 ≤ D + 1) (rr : Int32) (σ' : gx_R) (K25 : Int32 → Int32 → Int32 → gx_R → Option (Int32 × gx_R)) (hK25 : ∀ (a1 : Int32) (a2 : Int32) (a3 : Int32) (σ : gx_R), K25 a1 a2 a3 σ = some (rr, σ') → gx_Ev lay0 (E0 D) tt_243 (some (.int rr)) σ' 25 [.ref 109, .int a1, .int a2, .int a3, .null, .null] [] σ) (a1 : Int32) (a2 : Int32) (a3 : Int32) (a4 : Int32) (σ : gx_R) (hf : Md_cannot_64 K25 a1 a2 a3 a4 σ = some (rr, σ')) : gx_Ev lay0 (E0 D) tt_243 (some (.int rr)) σ' 64 [.ref 109, .int a1, .int a2, .int a3, .int a4, .null] [] σ := by
  unfold Md_cannot_64 at hf
  exact gx_go_ 6 [] [] 25 [.ref 109, .int a1, .int (a2 - a4), .int (a3 + 1), .int a4, .null] [] σ rfl trivial (gx_fgt (ls' := [.ref 109, .int a1, .int (a2 - a4), .int (a3 + 1), .null, .null]) ⟨Or.inr rfl, Or.inr rfl, Or.inr rfl, Or.inr rfl, Or.inl rfl, Or.inl rfl, trivial⟩ (hK25 a1 (a2 - a4) (a3 + 1) σ hf))
set_option maxHeartbeats 16000000 in
set_option maxRecDepth 20000 in
theorem vv_Md_cannot_33_B (D : Nat) (hD : 2 ≤ D + 1) (rr : Int32) (σ' : gx_R) (K25 : Int32 → Int32 → Int32 → gx_R → Option (Int32 × gx_R)) (hK25 : ∀ (a1 : Int32) (a2 : Int32) (a3 : Int32) (σ : gx_R), K25 a1 a2 a3 σ = some (rr, σ') → gx_Ev lay0 (E0 D) tt_243 (some (.int rr)) σ' 25 [.ref 109, .int a1, .int a2, .int a3, .null, .null] [] σ) (K33 : Int32 → Int32 → Int32 → Int32 → Int32 → gx_R → Option (Int32 × gx_R)) (hK33 : ∀ (a1 : Int32) (a2 : Int32) (a3 : Int32) (a4 : Int32) (a5 : Int32) (σ : gx_R), K33 a1 a2 a3 a4 a5 σ = some (rr, σ') → gx_Ev lay0 (E0 D) tt_243 (some (.int rr)) σ' 33 [.ref 109, .int a1, .int a2, .int a3, .int a4, .int a5] [] σ) (a1 : Int32) (a2 : Int32) (a3 : Int32) (a4 : Int32) (a5 : Int32) (σ : gx_R) (hf : Md_cannot_33_B K25 K33 a1 a2 a3 a4 a5 σ = some (rr, σ')) : gx_Ev lay0 (E0 D) tt_243 (some (.int rr)) σ' 33 [.ref 109, .int a1, .int a2, .int a3, .int a4, .int a5] [] σ := by
  unfold Md_cannot_33_B at hf
  rcases z_if_inv hf with ⟨h1, hf⟩ | ⟨h1, hf⟩
  · exact gx_go_ 4 [.inl 1] [(σ 109 58) ≤ a5] 64 [.ref 109, .int a1, .int a2, .int a3, .int a4, .int a5] [] σ rfl ⟨h1, trivial⟩ (gx_fgt (ls' := [.ref 109, .int a1, .int a2, .int a3, .int a4, .null]) ⟨Or.inr rfl, Or.inr rfl, Or.inr rfl, Or.inr rfl, Or.inr rfl, Or.inl rfl, trivial⟩ (vv_Md_cannot_64 D hD rr σ' K25 hK25 a1 a2 a3 a4 σ hf))
  · obtain ⟨r2, σ3, h4, hf⟩ := z_bd_inv hf
    rcases z_if_inv hf with ⟨h5, hf⟩ | ⟨h5, hf⟩
    · exact gx_go_ 8 [.inl 0, .inr (some (.int r2), σ3), .inl 1] [¬ ((σ 109 58) ≤ a5), E0 D 146 [.int a1, .int a5] σ (some (.int r2)) σ3, r2 = 0] 60 [.ref 109, .int a1, .int a2, .int a3, .int a4, .int a5] [] σ3 rfl ⟨h1, (ww_Md_has D (by omega) a1 a5 σ r2 σ3 h4), h5, trivial⟩ (gx_fgt (ls' := [.ref 109, .int a1, .int a2, .int a3, .int a4, .int a5]) ⟨Or.inr rfl, Or.inr rfl, Or.inr rfl, Or.inr rfl, Or.inr rfl, Or.inr rfl, trivial⟩ (vv_Md_cannot_60 D hD rr σ' (Md_cannot_61 K33) (vv_Md_cannot_61 D hD rr σ' K33 hK33) a1 a2 a3 a4 a5 σ3 hf))
    · obtain ⟨h6, hf⟩ := z_ck_inv hf
      rcases z_if_inv hf with ⟨h7, hf⟩ | ⟨h7, hf⟩
      · exact gx_go_ 18 [.inl 0, .inr (some (.int r2), σ3), .inl 0, .inl 1] [¬ ((σ 109 58) ≤ a5), E0 D 146 [.int a1, .int a5] σ (some (.int r2)) σ3, ¬ (r2 = 0), vp_in (((8 : Int32) * a3) + a5) 64, (σ3 143 ((((8 : Int32) * a3) + a5).toNatClampNeg)) ≤ a4] 60 [.ref 109, .int a1, .int a2, .int a3, .int a4, .int a5] [] σ3 rfl ⟨h1, (ww_Md_has D (by omega) a1 a5 σ r2 σ3 h4), h5, (z_ix_in h6), h7, trivial⟩ (gx_fgt (ls' := [.ref 109, .int a1, .int a2, .int a3, .int a4, .int a5]) ⟨Or.inr rfl, Or.inr rfl, Or.inr rfl, Or.inr rfl, Or.inr rfl, Or.inr rfl, trivial⟩ (vv_Md_cannot_60 D hD rr σ' (Md_cannot_61 K33) (vv_Md_cannot_61 D hD rr σ' K33 hK33) a1 a2 a3 a4 a5 σ3 hf))
      · obtain ⟨h8, hf⟩ := z_ck_inv hf
        exact gx_go_ 27 [.inl 0, .inr (some (.int r2), σ3), .inl 0, .inl 0] [¬ ((σ 109 58) ≤ a5), E0 D 146 [.int a1, .int a5] σ (some (.int r2)) σ3, ¬ (r2 = 0), vp_in (((8 : Int32) * a3) + a5) 64, ¬ ((σ3 143 ((((8 : Int32) * a3) + a5).toNatClampNeg)) ≤ a4), vp_in (((8 : Int32) * a3) + a5) 64] 61 [.ref 109, .int a1, .int a2, .int a3, .int a4, .int a5] [.int (σ3 143 ((((8 : Int32) * a3) + a5).toNatClampNeg))] σ3 rfl ⟨h1, (ww_Md_has D (by omega) a1 a5 σ r2 σ3 h4), h5, (z_ix_in h6), h7, (z_ix_in h8), trivial⟩ (gx_fgt (ls' := [.ref 109, .int a1, .int a2, .int a3, .null, .int a5]) ⟨Or.inr rfl, Or.inr rfl, Or.inr rfl, Or.inr rfl, Or.inl rfl, Or.inr rfl, trivial⟩ (vv_Md_cannot_61 D hD rr σ' K33 hK33 a1 a2 a3 a5 (σ3 143 ((((8 : Int32) * a3) + a5).toNatClampNeg)) σ3 hf))
set_option maxHeartbeats 16000000 in
set_option maxRecDepth 20000 in
theorem vv_Md_cannot_33 (D : Nat) (hD : 2 ≤ D + 1) (rr : Int32) (σ' : gx_R) (K25 : Int32 → Int32 → Int32 → gx_R → Option (Int32 × gx_R)) (hK25 : ∀ (a1 : Int32) (a2 : Int32) (a3 : Int32) (σ : gx_R), K25 a1 a2 a3 σ = some (rr, σ') → gx_Ev lay0 (E0 D) tt_243 (some (.int rr)) σ' 25 [.ref 109, .int a1, .int a2, .int a3, .null, .null] [] σ) : ∀ (n : Nat) (a1 : Int32) (a2 : Int32) (a3 : Int32) (a4 : Int32) (a5 : Int32) (σ : gx_R), Md_cannot_33 K25 n a1 a2 a3 a4 a5 σ = some (rr, σ') → gx_Ev lay0 (E0 D) tt_243 (some (.int rr)) σ' 33 [.ref 109, .int a1, .int a2, .int a3, .int a4, .int a5] [] σ := by
  intro n
  induction n with
  | zero => intro a1 a2 a3 a4 a5 σ  hf; cases hf
  | succ n ih => intro a1 a2 a3 a4 a5 σ  hf; exact vv_Md_cannot_33_B D hD rr σ'  K25 hK25 (Md_cannot_33 K25 n) ih a1 a2 a3 a4 a5 σ  hf
set_option maxHeartbeats 16000000 in
set_option maxRecDepth 20000 in
theorem vv_Md_cannot_70 (D : Nat) (hD : 2 ≤ D + 1) (rr : Int32) (σ' : gx_R) (a2 : Int32) (σ : gx_R) (hf : Md_cannot_70 a2 σ = some (rr, σ')) : gx_Ev lay0 (E0 D) tt_243 (some (.int rr)) σ' 70 [.null, .null, .int a2, .null, .null, .null] [] σ := by
  unfold Md_cannot_70 at hf
  rcases z_if_inv hf with ⟨h1, hf⟩ | ⟨h1, hf⟩
  · obtain ⟨e1, e2⟩ := z_ret hf
    subst e1
    subst e2
    exact gx_end 4 [.inl 1] [a2 ≤ 0, (0 : Int32) &&& 1 = (0 : Int32)] rfl ⟨h1, rfl, trivial⟩
  · obtain ⟨e1, e2⟩ := z_ret hf
    subst e1
    subst e2
    exact gx_end 5 [.inl 0] [¬ (a2 ≤ 0), (1 : Int32) &&& 1 = (1 : Int32)] rfl ⟨h1, rfl, trivial⟩
set_option maxHeartbeats 16000000 in
set_option maxRecDepth 20000 in
theorem vv_Md_cannot_19 (D : Nat) (hD : 2 ≤ D + 1) (rr : Int32) (σ' : gx_R) (K4 : Int32 → Int32 → Int32 → gx_R → Option (Int32 × gx_R)) (hK4 : ∀ (a1 : Int32) (a2 : Int32) (a3 : Int32) (σ : gx_R), K4 a1 a2 a3 σ = some (rr, σ') → gx_Ev lay0 (E0 D) tt_243 (some (.int rr)) σ' 4 [.ref 109, .int a1, .int a2, .int a3, .null, .null] [] σ) (a1 : Int32) (a3 : Int32) (s0 : Int32) (s1 : Int32) (σ : gx_R) (hf : Md_cannot_19 K4 a1 a3 s0 s1 σ = some (rr, σ')) : gx_Ev lay0 (E0 D) tt_243 (some (.int rr)) σ' 19 [.ref 109, .int a1, .null, .int a3, .null, .null] [.int s1, .int s0] σ := by
  unfold Md_cannot_19 at hf
  exact gx_go_ 4 [] [] 4 [.ref 109, .int a1, .int (s0 + s1), .int (a3 + 1), .null, .null] [] σ rfl trivial (gx_fgt (ls' := [.ref 109, .int a1, .int (s0 + s1), .int (a3 + 1), .null, .null]) ⟨Or.inr rfl, Or.inr rfl, Or.inr rfl, Or.inr rfl, Or.inl rfl, Or.inl rfl, trivial⟩ (hK4 a1 (s0 + s1) (a3 + 1) σ hf))
set_option maxHeartbeats 16000000 in
set_option maxRecDepth 20000 in
theorem vv_Md_cannot_25_B (D : Nat) (hD : 2 ≤ D + 1) (rr : Int32) (σ' : gx_R) (K25 : Int32 → Int32 → Int32 → gx_R → Option (Int32 × gx_R)) (hK25 : ∀ (a1 : Int32) (a2 : Int32) (a3 : Int32) (σ : gx_R), K25 a1 a2 a3 σ = some (rr, σ') → gx_Ev lay0 (E0 D) tt_243 (some (.int rr)) σ' 25 [.ref 109, .int a1, .int a2, .int a3, .null, .null] [] σ) (a1 : Int32) (a2 : Int32) (a3 : Int32) (σ : gx_R) (hf : Md_cannot_25_B K25 a1 a2 a3 σ = some (rr, σ')) : gx_Ev lay0 (E0 D) tt_243 (some (.int rr)) σ' 25 [.ref 109, .int a1, .int a2, .int a3, .null, .null] [] σ := by
  unfold Md_cannot_25_B at hf
  rcases z_if_inv hf with ⟨h1, hf⟩ | ⟨h1, hf⟩
  · exact gx_go_ 4 [.inl 1] [(σ 109 59) ≤ a3] 70 [.ref 109, .int a1, .int a2, .int a3, .null, .null] [] σ rfl ⟨h1, trivial⟩ (gx_fgt (ls' := [.null, .null, .int a2, .null, .null, .null]) ⟨Or.inl rfl, Or.inl rfl, Or.inr rfl, Or.inl rfl, Or.inl rfl, Or.inl rfl, trivial⟩ (vv_Md_cannot_70 D hD rr σ' a2 σ hf))
  · exact gx_go_ 8 [.inl 0] [¬ ((σ 109 59) ≤ a3)] 33 [.ref 109, .int a1, .int a2, .int a3, .int (0 : Int32), .int (0 : Int32)] [] σ rfl ⟨h1, trivial⟩ (gx_fgt (ls' := [.ref 109, .int a1, .int a2, .int a3, .int (0 : Int32), .int (0 : Int32)]) ⟨Or.inr rfl, Or.inr rfl, Or.inr rfl, Or.inr rfl, Or.inr rfl, Or.inr rfl, trivial⟩ (vv_Md_cannot_33 D hD rr σ' K25 hK25 z_FU a1 a2 a3 (0 : Int32) (0 : Int32) σ hf))
set_option maxHeartbeats 16000000 in
set_option maxRecDepth 20000 in
theorem vv_Md_cannot_25 (D : Nat) (hD : 2 ≤ D + 1) (rr : Int32) (σ' : gx_R) : ∀ (n : Nat) (a1 : Int32) (a2 : Int32) (a3 : Int32) (σ : gx_R), Md_cannot_25 n a1 a2 a3 σ = some (rr, σ') → gx_Ev lay0 (E0 D) tt_243 (some (.int rr)) σ' 25 [.ref 109, .int a1, .int a2, .int a3, .null, .null] [] σ := by
  intro n
  induction n with
  | zero => intro a1 a2 a3 σ  hf; cases hf
  | succ n ih => intro a1 a2 a3 σ  hf; exact vv_Md_cannot_25_B D hD rr σ'  (Md_cannot_25 n) ih a1 a2 a3 σ  hf
set_option maxHeartbeats 16000000 in
set_option maxRecDepth 20000 in
theorem vv_Md_cannot_23 (D : Nat) (hD : 2 ≤ D + 1) (rr : Int32) (σ' : gx_R) (a1 : Int32) (a2 : Int32) (σ : gx_R) (hf : Md_cannot_23 a1 a2 σ = some (rr, σ')) : gx_Ev lay0 (E0 D) tt_243 (some (.int rr)) σ' 23 [.ref 109, .int a1, .int a2, .null, .null, .null] [] σ := by
  unfold Md_cannot_23 at hf
  exact gx_go_ 2 [] [] 25 [.ref 109, .int a1, .int a2, .int (0 : Int32), .null, .null] [] σ rfl trivial (gx_fgt (ls' := [.ref 109, .int a1, .int a2, .int (0 : Int32), .null, .null]) ⟨Or.inr rfl, Or.inr rfl, Or.inr rfl, Or.inr rfl, Or.inl rfl, Or.inl rfl, trivial⟩ (vv_Md_cannot_25 D hD rr σ' z_FU a1 a2 (0 : Int32) σ hf))
set_option maxHeartbeats 16000000 in
set_option maxRecDepth 20000 in
theorem vv_Md_cannot_4_B (D : Nat) (hD : 2 ≤ D + 1) (rr : Int32) (σ' : gx_R) (K4 : Int32 → Int32 → Int32 → gx_R → Option (Int32 × gx_R)) (hK4 : ∀ (a1 : Int32) (a2 : Int32) (a3 : Int32) (σ : gx_R), K4 a1 a2 a3 σ = some (rr, σ') → gx_Ev lay0 (E0 D) tt_243 (some (.int rr)) σ' 4 [.ref 109, .int a1, .int a2, .int a3, .null, .null] [] σ) (a1 : Int32) (a2 : Int32) (a3 : Int32) (σ : gx_R) (hf : Md_cannot_4_B K4 a1 a2 a3 σ = some (rr, σ')) : gx_Ev lay0 (E0 D) tt_243 (some (.int rr)) σ' 4 [.ref 109, .int a1, .int a2, .int a3, .null, .null] [] σ := by
  unfold Md_cannot_4_B at hf
  rcases z_if_inv hf with ⟨h1, hf⟩ | ⟨h1, hf⟩
  · exact gx_go_ 4 [.inl 1] [(σ 109 58) ≤ a3] 23 [.ref 109, .int a1, .int a2, .int a3, .null, .null] [] σ rfl ⟨h1, trivial⟩ (gx_fgt (ls' := [.ref 109, .int a1, .int a2, .null, .null, .null]) ⟨Or.inr rfl, Or.inr rfl, Or.inr rfl, Or.inl rfl, Or.inl rfl, Or.inl rfl, trivial⟩ (vv_Md_cannot_23 D hD rr σ' a1 a2 σ hf))
  · obtain ⟨r2, σ3, h4, hf⟩ := z_bd_inv hf
    rcases z_if_inv hf with ⟨h5, hf⟩ | ⟨h5, hf⟩
    · exact gx_go_ 10 [.inl 0, .inr (some (.int r2), σ3), .inl 1] [¬ ((σ 109 58) ≤ a3), E0 D 146 [.int a1, .int a3] σ (some (.int r2)) σ3, r2 = 0] 19 [.ref 109, .int a1, .int a2, .int a3, .null, .null] [.int (0 : Int32), .int a2] σ3 rfl ⟨h1, (ww_Md_has D (by omega) a1 a3 σ r2 σ3 h4), h5, trivial⟩ (gx_fgt (ls' := [.ref 109, .int a1, .null, .int a3, .null, .null]) ⟨Or.inr rfl, Or.inr rfl, Or.inl rfl, Or.inr rfl, Or.inl rfl, Or.inl rfl, trivial⟩ (vv_Md_cannot_19 D hD rr σ' K4 hK4 a1 a3 a2 (0 : Int32) σ3 hf))
    · obtain ⟨h6, hf⟩ := z_ck_inv hf
      exact gx_go_ 14 [.inl 0, .inr (some (.int r2), σ3), .inl 0] [¬ ((σ 109 58) ≤ a3), E0 D 146 [.int a1, .int a3] σ (some (.int r2)) σ3, ¬ (r2 = 0), vp_in a3 8] 19 [.ref 109, .int a1, .int a2, .int a3, .null, .null] [.int (σ3 145 a3.toNatClampNeg), .int a2] σ3 rfl ⟨h1, (ww_Md_has D (by omega) a1 a3 σ r2 σ3 h4), h5, (z_ix_in h6), trivial⟩ (gx_fgt (ls' := [.ref 109, .int a1, .null, .int a3, .null, .null]) ⟨Or.inr rfl, Or.inr rfl, Or.inl rfl, Or.inr rfl, Or.inl rfl, Or.inl rfl, trivial⟩ (vv_Md_cannot_19 D hD rr σ' K4 hK4 a1 a3 a2 (σ3 145 a3.toNatClampNeg) σ3 hf))
set_option maxHeartbeats 16000000 in
set_option maxRecDepth 20000 in
theorem vv_Md_cannot_4 (D : Nat) (hD : 2 ≤ D + 1) (rr : Int32) (σ' : gx_R) : ∀ (n : Nat) (a1 : Int32) (a2 : Int32) (a3 : Int32) (σ : gx_R), Md_cannot_4 n a1 a2 a3 σ = some (rr, σ') → gx_Ev lay0 (E0 D) tt_243 (some (.int rr)) σ' 4 [.ref 109, .int a1, .int a2, .int a3, .null, .null] [] σ := by
  intro n
  induction n with
  | zero => intro a1 a2 a3 σ  hf; cases hf
  | succ n ih => intro a1 a2 a3 σ  hf; exact vv_Md_cannot_4_B D hD rr σ'  (Md_cannot_4 n) ih a1 a2 a3 σ  hf
set_option maxHeartbeats 16000000 in
set_option maxRecDepth 20000 in
theorem vv_Md_cannot_E (D : Nat) (hD : 2 ≤ D + 1) (rr : Int32) (σ' : gx_R) (a1 : Int32) (σ : gx_R) (hf : Md_cannot a1 σ = some (rr, σ')) : gx_Ev lay0 (E0 D) tt_243 (some (.int rr)) σ' 0 [.ref 109, .int a1, .null, .null, .null, .null] [] σ := by
  unfold Md_cannot at hf
  exact gx_go_ 4 [] [] 4 [.ref 109, .int a1, .int (0 : Int32), .int (0 : Int32), .null, .null] [] σ rfl trivial (gx_fgt (ls' := [.ref 109, .int a1, .int (0 : Int32), .int (0 : Int32), .null, .null]) ⟨Or.inr rfl, Or.inr rfl, Or.inr rfl, Or.inr rfl, Or.inl rfl, Or.inl rfl, trivial⟩ (vv_Md_cannot_4 D hD rr σ' z_FU a1 (0 : Int32) (0 : Int32) σ hf))
set_option maxHeartbeats 16000000 in
set_option maxRecDepth 20000 in
theorem ww_Md_cannot (D : Nat) (hD : 2 ≤ D) (a1 : Int32) (σ : gx_R) (rr : Int32) (σ' : gx_R) (hf : Md_cannot a1 σ = some (rr, σ')) : E0 D 243 [.ref 109, .int a1] σ (some (.int rr)) σ' := by
  cases D with
  | zero => omega
  | succ D => exact Or.inl ⟨Nat.le_of_ble_eq_true rfl, vv_Md_cannot_E D hD rr σ' a1 σ hf⟩
set_option maxHeartbeats 16000000 in
set_option maxRecDepth 20000 in
theorem vv_Md_whoCannot_41 (D : Nat) (hD : 6 ≤ D + 1) (rr : Int32) (σ' : gx_R) (K24 : Int32 → Int32 → Int32 → gx_R → Option (Int32 × gx_R)) (hK24 : ∀ (a4 : Int32) (a5 : Int32) (a6 : Int32) (σ : gx_R), K24 a4 a5 a6 σ = some (rr, σ') → gx_Ev lay0 (E0 D) tt_244 (some (.int rr)) σ' 24 [.ref 109, .null, .null, .null, .int a4, .int a5, .int a6] [] σ) (a4 : Int32) (a6 : Int32) (s0 : Int32) (s1 : Int32) (σ : gx_R) (hf : Md_whoCannot_41 K24 a4 a6 s0 s1 σ = some (rr, σ')) : gx_Ev lay0 (E0 D) tt_244 (some (.int rr)) σ' 41 [.ref 109, .null, .null, .null, .int a4, .null, .int a6] [.int s1, .int s0] σ := by
  unfold Md_whoCannot_41 at hf
  exact gx_go_ 4 [] [] 24 [.ref 109, .null, .null, .null, .int a4, .int (s0 ||| s1), .int (a6 + 1)] [] σ rfl trivial (gx_fgt (ls' := [.ref 109, .null, .null, .null, .int a4, .int (s0 ||| s1), .int (a6 + 1)]) ⟨Or.inr rfl, Or.inl rfl, Or.inl rfl, Or.inl rfl, Or.inr rfl, Or.inr rfl, Or.inr rfl, trivial⟩ (hK24 a4 (s0 ||| s1) (a6 + 1) σ hf))
set_option maxHeartbeats 16000000 in
set_option maxRecDepth 20000 in
theorem vv_Md_whoCannot_24_B (D : Nat) (hD : 6 ≤ D + 1) (rr : Int32) (σ' : gx_R) (K24 : Int32 → Int32 → Int32 → gx_R → Option (Int32 × gx_R)) (hK24 : ∀ (a4 : Int32) (a5 : Int32) (a6 : Int32) (σ : gx_R), K24 a4 a5 a6 σ = some (rr, σ') → gx_Ev lay0 (E0 D) tt_244 (some (.int rr)) σ' 24 [.ref 109, .null, .null, .null, .int a4, .int a5, .int a6] [] σ) (a4 : Int32) (a5 : Int32) (a6 : Int32) (σ : gx_R) (hf : Md_whoCannot_24_B K24 a4 a5 a6 σ = some (rr, σ')) : gx_Ev lay0 (E0 D) tt_244 (some (.int rr)) σ' 24 [.ref 109, .null, .null, .null, .int a4, .int a5, .int a6] [] σ := by
  unfold Md_whoCannot_24_B at hf
  rcases z_if_inv hf with ⟨h1, hf⟩ | ⟨h1, hf⟩
  · obtain ⟨e1, e2⟩ := z_ret hf
    subst e1
    subst e2
    exact gx_end 6 [.inl 1] [(σ 109 58) ≤ a6] rfl ⟨h1, trivial⟩
  · obtain ⟨r2, σ3, h4, hf⟩ := z_bd_inv hf
    rcases z_if_inv hf with ⟨h5, hf⟩ | ⟨h5, hf⟩
    · exact gx_go_ 10 [.inl 0, .inr (some (.int r2), σ3), .inl 1] [¬ ((σ 109 58) ≤ a6), E0 D 146 [.int a4, .int a6] σ (some (.int r2)) σ3, r2 = 0] 41 [.ref 109, .null, .null, .null, .int a4, .int a5, .int a6] [.int (0 : Int32), .int a5] σ3 rfl ⟨h1, (ww_Md_has D (by omega) a4 a6 σ r2 σ3 h4), h5, trivial⟩ (gx_fgt (ls' := [.ref 109, .null, .null, .null, .int a4, .null, .int a6]) ⟨Or.inr rfl, Or.inl rfl, Or.inl rfl, Or.inl rfl, Or.inr rfl, Or.inl rfl, Or.inr rfl, trivial⟩ (vv_Md_whoCannot_41 D hD rr σ' K24 hK24 a4 a6 a5 (0 : Int32) σ3 hf))
    · obtain ⟨h6, hf⟩ := z_ck_inv hf
      exact gx_go_ 16 [.inl 0, .inr (some (.int r2), σ3), .inl 0] [¬ ((σ 109 58) ≤ a6), E0 D 146 [.int a4, .int a6] σ (some (.int r2)) σ3, ¬ (r2 = 0), vp_in a6 8] 41 [.ref 109, .null, .null, .null, .int a4, .int a5, .int a6] [.int ((1 : Int32) <<< ((σ3 141 a6.toNatClampNeg) &&& 31)), .int a5] σ3 rfl ⟨h1, (ww_Md_has D (by omega) a4 a6 σ r2 σ3 h4), h5, (z_ix_in h6), trivial⟩ (gx_fgt (ls' := [.ref 109, .null, .null, .null, .int a4, .null, .int a6]) ⟨Or.inr rfl, Or.inl rfl, Or.inl rfl, Or.inl rfl, Or.inr rfl, Or.inl rfl, Or.inr rfl, trivial⟩ (vv_Md_whoCannot_41 D hD rr σ' K24 hK24 a4 a6 a5 ((1 : Int32) <<< ((σ3 141 a6.toNatClampNeg) &&& 31)) σ3 hf))
set_option maxHeartbeats 16000000 in
set_option maxRecDepth 20000 in
theorem vv_Md_whoCannot_24 (D : Nat) (hD : 6 ≤ D + 1) (rr : Int32) (σ' : gx_R) : ∀ (n : Nat) (a4 : Int32) (a5 : Int32) (a6 : Int32) (σ : gx_R), Md_whoCannot_24 n a4 a5 a6 σ = some (rr, σ') → gx_Ev lay0 (E0 D) tt_244 (some (.int rr)) σ' 24 [.ref 109, .null, .null, .null, .int a4, .int a5, .int a6] [] σ := by
  intro n
  induction n with
  | zero => intro a4 a5 a6 σ  hf; cases hf
  | succ n ih => intro a4 a5 a6 σ  hf; exact vv_Md_whoCannot_24_B D hD rr σ'  (Md_whoCannot_24 n) ih a4 a5 a6 σ  hf
set_option maxHeartbeats 16000000 in
set_option maxRecDepth 20000 in
theorem vv_Md_whoCannot_20 (D : Nat) (hD : 6 ≤ D + 1) (rr : Int32) (σ' : gx_R) (a4 : Int32) (σ : gx_R) (hf : Md_whoCannot_20 a4 σ = some (rr, σ')) : gx_Ev lay0 (E0 D) tt_244 (some (.int rr)) σ' 20 [.ref 109, .null, .null, .null, .int a4, .null, .null] [] σ := by
  unfold Md_whoCannot_20 at hf
  exact gx_go_ 4 [] [] 24 [.ref 109, .null, .null, .null, .int a4, .int (0 : Int32), .int (0 : Int32)] [] σ rfl trivial (gx_fgt (ls' := [.ref 109, .null, .null, .null, .int a4, .int (0 : Int32), .int (0 : Int32)]) ⟨Or.inr rfl, Or.inl rfl, Or.inl rfl, Or.inl rfl, Or.inr rfl, Or.inr rfl, Or.inr rfl, trivial⟩ (vv_Md_whoCannot_24 D hD rr σ' z_FU a4 (0 : Int32) (0 : Int32) σ hf))
set_option maxHeartbeats 16000000 in
set_option maxRecDepth 20000 in
theorem vv_Md_whoCannot_10_B (D : Nat) (hD : 6 ≤ D + 1) (rr : Int32) (σ' : gx_R) (K10 : Int32 → gx_R → Option (Int32 × gx_R)) (hK10 : ∀ (a4 : Int32) (σ : gx_R), K10 a4 σ = some (rr, σ') → gx_Ev lay0 (E0 D) tt_244 (some (.int rr)) σ' 10 [.ref 109, .null, .null, .null, .int a4, .null, .null] [] σ) (a4 : Int32) (σ : gx_R) (hf : Md_whoCannot_10_B K10 a4 σ = some (rr, σ')) : gx_Ev lay0 (E0 D) tt_244 (some (.int rr)) σ' 10 [.ref 109, .null, .null, .null, .int a4, .null, .null] [] σ := by
  unfold Md_whoCannot_10_B at hf
  rcases z_if_inv hf with ⟨h1, hf⟩ | ⟨h1, hf⟩
  · obtain ⟨e1, e2⟩ := z_ret hf
    subst e1
    subst e2
    exact gx_end 8 [.inl 1] [((1 : Int32) <<< ((σ 109 58) &&& 31)) ≤ a4] rfl ⟨h1, trivial⟩
  · obtain ⟨r2, σ3, h4, hf⟩ := z_bd_inv hf
    rcases z_if_inv hf with ⟨h5, hf⟩ | ⟨h5, hf⟩
    · exact gx_go_ 12 [.inl 0, .inr (some (.int r2), σ3), .inl 1] [¬ (((1 : Int32) <<< ((σ 109 58) &&& 31)) ≤ a4), E0 D 243 [.ref 109, .int a4] σ (some (.int r2)) σ3, r2 = 0] 10 [.ref 109, .null, .null, .null, .int (a4 + 1), .null, .null] [] σ3 rfl ⟨h1, (ww_Md_cannot D (by omega) a4 σ r2 σ3 h4), h5, trivial⟩ (gx_fgt (ls' := [.ref 109, .null, .null, .null, .int (a4 + 1), .null, .null]) ⟨Or.inr rfl, Or.inl rfl, Or.inl rfl, Or.inl rfl, Or.inr rfl, Or.inl rfl, Or.inl rfl, trivial⟩ (hK10 (a4 + 1) σ3 hf))
    · exact gx_go_ 10 [.inl 0, .inr (some (.int r2), σ3), .inl 0] [¬ (((1 : Int32) <<< ((σ 109 58) &&& 31)) ≤ a4), E0 D 243 [.ref 109, .int a4] σ (some (.int r2)) σ3, ¬ (r2 = 0)] 20 [.ref 109, .null, .null, .null, .int a4, .null, .null] [] σ3 rfl ⟨h1, (ww_Md_cannot D (by omega) a4 σ r2 σ3 h4), h5, trivial⟩ (gx_fgt (ls' := [.ref 109, .null, .null, .null, .int a4, .null, .null]) ⟨Or.inr rfl, Or.inl rfl, Or.inl rfl, Or.inl rfl, Or.inr rfl, Or.inl rfl, Or.inl rfl, trivial⟩ (vv_Md_whoCannot_20 D hD rr σ' a4 σ3 hf))
set_option maxHeartbeats 16000000 in
set_option maxRecDepth 20000 in
theorem vv_Md_whoCannot_10 (D : Nat) (hD : 6 ≤ D + 1) (rr : Int32) (σ' : gx_R) : ∀ (n : Nat) (a4 : Int32) (σ : gx_R), Md_whoCannot_10 n a4 σ = some (rr, σ') → gx_Ev lay0 (E0 D) tt_244 (some (.int rr)) σ' 10 [.ref 109, .null, .null, .null, .int a4, .null, .null] [] σ := by
  intro n
  induction n with
  | zero => intro a4 σ  hf; cases hf
  | succ n ih => intro a4 σ  hf; exact vv_Md_whoCannot_10_B D hD rr σ'  (Md_whoCannot_10 n) ih a4 σ  hf
set_option maxHeartbeats 16000000 in
set_option maxRecDepth 20000 in
theorem vv_Md_whoCannot_E (D : Nat) (hD : 6 ≤ D + 1) (rr : Int32) (σ' : gx_R) (a1 : Int32) (a2 : Int32) (a3 : Int32) (σ : gx_R) (hf : Md_whoCannot a1 a2 a3 σ = some (rr, σ')) : gx_Ev lay0 (E0 D) tt_244 (some (.int rr)) σ' 0 [.ref 109, .int a1, .int a2, .int a3, .null, .null, .null] [] σ := by
  unfold Md_whoCannot at hf
  obtain ⟨r1, σ2, h3, hf⟩ := z_bd_inv hf
  rcases z_if_inv hf with ⟨h4, hf⟩ | ⟨h4, hf⟩
  · obtain ⟨e1, e2⟩ := z_ret hf
    subst e1
    subst e2
    exact gx_end 8 [.inr (some (.int r1), σ2), .inl 0] [E0 D 237 [.ref 109, .int a1, .int a2, .int a3] σ (some (.int r1)) σ2, ¬ ¬ (r1 = 0)] rfl ⟨(ww_Md_laysMatch D (by omega) a1 a2 a3 σ r1 σ2 h3), (fun q => q h4), trivial⟩
  · exact gx_go_ 8 [.inr (some (.int r1), σ2), .inl 1] [E0 D 237 [.ref 109, .int a1, .int a2, .int a3] σ (some (.int r1)) σ2, ¬ (r1 = 0)] 10 [.ref 109, .int a1, .int a2, .int a3, .int (1 : Int32), .null, .null] [] σ2 rfl ⟨(ww_Md_laysMatch D (by omega) a1 a2 a3 σ r1 σ2 h3), h4, trivial⟩ (gx_fgt (ls' := [.ref 109, .null, .null, .null, .int (1 : Int32), .null, .null]) ⟨Or.inr rfl, Or.inl rfl, Or.inl rfl, Or.inl rfl, Or.inr rfl, Or.inl rfl, Or.inl rfl, trivial⟩ (vv_Md_whoCannot_10 D hD rr σ' z_FU (1 : Int32) σ2 hf))
set_option maxHeartbeats 16000000 in
set_option maxRecDepth 20000 in
theorem ww_Md_whoCannot (D : Nat) (hD : 6 ≤ D) (a1 : Int32) (a2 : Int32) (a3 : Int32) (σ : gx_R) (rr : Int32) (σ' : gx_R) (hf : Md_whoCannot a1 a2 a3 σ = some (rr, σ')) : E0 D 244 [.ref 109, .int a1, .int a2, .int a3] σ (some (.int rr)) σ' := by
  cases D with
  | zero => omega
  | succ D => exact Or.inl ⟨Nat.le_of_ble_eq_true rfl, vv_Md_whoCannot_E D hD rr σ' a1 a2 a3 σ hf⟩
set_option maxHeartbeats 16000000 in
set_option maxRecDepth 20000 in
theorem vv_Md_behind_74 (D : Nat) (hD : 3 ≤ D + 1) (rr : Int32) (σ' : gx_R) (K75 : Int32 → Int32 → Int32 → Int32 → Int32 → Int32 → gx_R → Option (Int32 × gx_R)) (hK75 : ∀ (a2 : Int32) (a3 : Int32) (a4 : Int32) (a5 : Int32) (a7 : Int32) (s0 : Int32) (σ : gx_R), K75 a2 a3 a4 a5 a7 s0 σ = some (rr, σ') → gx_Ev lay0 (E0 D) tt_245 (some (.int rr)) σ' 75 [.ref 109, .null, .int a2, .int a3, .int a4, .int a5, .null, .int a7] [.int s0] σ) (a2 : Int32) (a3 : Int32) (a4 : Int32) (a5 : Int32) (a7 : Int32) (σ : gx_R) (hf : Md_behind_74 K75 a2 a3 a4 a5 a7 σ = some (rr, σ')) : gx_Ev lay0 (E0 D) tt_245 (some (.int rr)) σ' 74 [.ref 109, .null, .int a2, .int a3, .int a4, .int a5, .null, .int a7] [] σ := by
  unfold Md_behind_74 at hf
  exact gx_go_ 1 [] [] 75 [.ref 109, .null, .int a2, .int a3, .int a4, .int a5, .null, .int a7] [.int (0 : Int32)] σ rfl trivial (gx_fgt (ls' := [.ref 109, .null, .int a2, .int a3, .int a4, .int a5, .null, .int a7]) ⟨Or.inr rfl, Or.inl rfl, Or.inr rfl, Or.inr rfl, Or.inr rfl, Or.inr rfl, Or.inl rfl, Or.inr rfl, trivial⟩ (hK75 a2 a3 a4 a5 a7 (0 : Int32) σ hf))
set_option maxHeartbeats 16000000 in
set_option maxRecDepth 20000 in
theorem vv_Md_behind_94 (D : Nat) (hD : 3 ≤ D + 1) (rr : Int32) (σ' : gx_R) (K39 : Int32 → Int32 → Int32 → Int32 → gx_R → Option (Int32 × gx_R)) (hK39 : ∀ (a2 : Int32) (a3 : Int32) (a4 : Int32) (a5 : Int32) (σ : gx_R), K39 a2 a3 a4 a5 σ = some (rr, σ') → gx_Ev lay0 (E0 D) tt_245 (some (.int rr)) σ' 39 [.ref 109, .null, .int a2, .int a3, .int a4, .int a5, .null, .null] [] σ) (a2 : Int32) (a3 : Int32) (a4 : Int32) (a5 : Int32) (σ : gx_R) (hf : Md_behind_94 K39 a2 a3 a4 a5 σ = some (rr, σ')) : gx_Ev lay0 (E0 D) tt_245 (some (.int rr)) σ' 94 [.ref 109, .null, .int a2, .int a3, .int a4, .int a5, .null, .null] [] σ := by
  unfold Md_behind_94 at hf
  exact gx_go_ 2 [] [] 39 [.ref 109, .null, .int a2, .int a3, .int a4, .int (a5 + 1), .null, .null] [] σ rfl trivial (gx_fgt (ls' := [.ref 109, .null, .int a2, .int a3, .int a4, .int (a5 + 1), .null, .null]) ⟨Or.inr rfl, Or.inl rfl, Or.inr rfl, Or.inr rfl, Or.inr rfl, Or.inr rfl, Or.inl rfl, Or.inl rfl, trivial⟩ (hK39 a2 a3 a4 (a5 + 1) σ hf))
set_option maxHeartbeats 16000000 in
set_option maxRecDepth 20000 in
theorem vv_Md_behind_72 (D : Nat) (hD : 3 ≤ D + 1) (rr : Int32) (σ' : gx_R) (K75 : Int32 → Int32 → Int32 → Int32 → Int32 → Int32 → gx_R → Option (Int32 × gx_R)) (hK75 : ∀ (a2 : Int32) (a3 : Int32) (a4 : Int32) (a5 : Int32) (a7 : Int32) (s0 : Int32) (σ : gx_R), K75 a2 a3 a4 a5 a7 s0 σ = some (rr, σ') → gx_Ev lay0 (E0 D) tt_245 (some (.int rr)) σ' 75 [.ref 109, .null, .int a2, .int a3, .int a4, .int a5, .null, .int a7] [.int s0] σ) (a2 : Int32) (a3 : Int32) (a4 : Int32) (a5 : Int32) (a7 : Int32) (σ : gx_R) (hf : Md_behind_72 K75 a2 a3 a4 a5 a7 σ = some (rr, σ')) : gx_Ev lay0 (E0 D) tt_245 (some (.int rr)) σ' 72 [.ref 109, .null, .int a2, .int a3, .int a4, .int a5, .null, .int a7] [] σ := by
  unfold Md_behind_72 at hf
  exact gx_go_ 2 [] [] 75 [.ref 109, .null, .int a2, .int a3, .int a4, .int a5, .null, .int a7] [.int (1 : Int32)] σ rfl trivial (gx_fgt (ls' := [.ref 109, .null, .int a2, .int a3, .int a4, .int a5, .null, .int a7]) ⟨Or.inr rfl, Or.inl rfl, Or.inr rfl, Or.inr rfl, Or.inr rfl, Or.inr rfl, Or.inl rfl, Or.inr rfl, trivial⟩ (hK75 a2 a3 a4 a5 a7 (1 : Int32) σ hf))
set_option maxHeartbeats 16000000 in
set_option maxRecDepth 20000 in
theorem vv_Md_behind_75 (D : Nat) (hD : 3 ≤ D + 1) (rr : Int32) (σ' : gx_R) (K49 : Int32 → Int32 → Int32 → Int32 → Int32 → Int32 → gx_R → Option (Int32 × gx_R)) (hK49 : ∀ (a2 : Int32) (a3 : Int32) (a4 : Int32) (a5 : Int32) (a6 : Int32) (a7 : Int32) (σ : gx_R), K49 a2 a3 a4 a5 a6 a7 σ = some (rr, σ') → gx_Ev lay0 (E0 D) tt_245 (some (.int rr)) σ' 49 [.ref 109, .null, .int a2, .int a3, .int a4, .int a5, .int a6, .int a7] [] σ) (a2 : Int32) (a3 : Int32) (a4 : Int32) (a5 : Int32) (a7 : Int32) (s0 : Int32) (σ : gx_R) (hf : Md_behind_75 K49 a2 a3 a4 a5 a7 s0 σ = some (rr, σ')) : gx_Ev lay0 (E0 D) tt_245 (some (.int rr)) σ' 75 [.ref 109, .null, .int a2, .int a3, .int a4, .int a5, .null, .int a7] [.int s0] σ := by
  unfold Md_behind_75 at hf
  exact gx_go_ 3 [] [] 49 [.ref 109, .null, .int a2, .int a3, .int a4, .int a5, .int s0, .int (a7 + 1)] [] σ rfl trivial (gx_fgt (ls' := [.ref 109, .null, .int a2, .int a3, .int a4, .int a5, .int s0, .int (a7 + 1)]) ⟨Or.inr rfl, Or.inl rfl, Or.inr rfl, Or.inr rfl, Or.inr rfl, Or.inr rfl, Or.inr rfl, Or.inr rfl, trivial⟩ (hK49 a2 a3 a4 a5 s0 (a7 + 1) σ hf))
set_option maxHeartbeats 16000000 in
set_option maxRecDepth 20000 in
theorem vv_Md_behind_78 (D : Nat) (hD : 3 ≤ D + 1) (rr : Int32) (σ' : gx_R) (K39 : Int32 → Int32 → Int32 → Int32 → gx_R → Option (Int32 × gx_R)) (hK39 : ∀ (a2 : Int32) (a3 : Int32) (a4 : Int32) (a5 : Int32) (σ : gx_R), K39 a2 a3 a4 a5 σ = some (rr, σ') → gx_Ev lay0 (E0 D) tt_245 (some (.int rr)) σ' 39 [.ref 109, .null, .int a2, .int a3, .int a4, .int a5, .null, .null] [] σ) (a2 : Int32) (a3 : Int32) (a4 : Int32) (a5 : Int32) (a6 : Int32) (σ : gx_R) (hf : Md_behind_78 K39 a2 a3 a4 a5 a6 σ = some (rr, σ')) : gx_Ev lay0 (E0 D) tt_245 (some (.int rr)) σ' 78 [.ref 109, .null, .int a2, .int a3, .int a4, .int a5, .int a6, .null] [] σ := by
  unfold Md_behind_78 at hf
  obtain ⟨h1, hf⟩ := z_ck_inv hf
  rcases z_if_inv hf with ⟨h2, hf⟩ | ⟨h2, hf⟩
  · rcases z_if_inv hf with ⟨h3, hf⟩ | ⟨h3, hf⟩
    · exact gx_go_ 8 [.inl 0, .inl 1] [vp_in a5 8, ¬ ¬ ((σ 148 a5.toNatClampNeg) = (-1 : Int32)), a6 = 0] 94 [.ref 109, .null, .int a2, .int a3, .int a4, .int a5, .int a6, .null] [] σ rfl ⟨(z_ix_in h1), (fun q => q h2), h3, trivial⟩ (gx_fgt (ls' := [.ref 109, .null, .int a2, .int a3, .int a4, .int a5, .null, .null]) ⟨Or.inr rfl, Or.inl rfl, Or.inr rfl, Or.inr rfl, Or.inr rfl, Or.inr rfl, Or.inl rfl, Or.inl rfl, trivial⟩ (vv_Md_behind_94 D hD rr σ' K39 hK39 a2 a3 a4 a5 σ hf))
    · obtain ⟨h4, hf⟩ := z_ck_inv hf
      exact gx_go_ 16 [.inl 0, .inl 0] [vp_in a5 8, ¬ ¬ ((σ 148 a5.toNatClampNeg) = (-1 : Int32)), ¬ (a6 = 0), vp_in a5 8] 94 [.ref 109, .null, .int a2, .int (a3 + 1), .int a4, .int a5, .int a6, .null] [] (gx_up σ 148 a5.toNatClampNeg (a4 + (1 : Int32))) rfl ⟨(z_ix_in h1), (fun q => q h2), h3, (z_ix_in h4), trivial⟩ (gx_fgt (ls' := [.ref 109, .null, .int a2, .int (a3 + 1), .int a4, .int a5, .null, .null]) ⟨Or.inr rfl, Or.inl rfl, Or.inr rfl, Or.inr rfl, Or.inr rfl, Or.inr rfl, Or.inl rfl, Or.inl rfl, trivial⟩ (vv_Md_behind_94 D hD rr σ' K39 hK39 a2 (a3 + 1) a4 a5 (gx_up σ 148 a5.toNatClampNeg (a4 + (1 : Int32))) hf))
  · exact gx_go_ 6 [.inl 1] [vp_in a5 8, ¬ ((σ 148 a5.toNatClampNeg) = (-1 : Int32))] 94 [.ref 109, .null, .int a2, .int a3, .int a4, .int a5, .int a6, .null] [] σ rfl ⟨(z_ix_in h1), h2, trivial⟩ (gx_fgt (ls' := [.ref 109, .null, .int a2, .int a3, .int a4, .int a5, .null, .null]) ⟨Or.inr rfl, Or.inl rfl, Or.inr rfl, Or.inr rfl, Or.inr rfl, Or.inr rfl, Or.inl rfl, Or.inl rfl, trivial⟩ (vv_Md_behind_94 D hD rr σ' K39 hK39 a2 a3 a4 a5 σ hf))
set_option maxHeartbeats 16000000 in
set_option maxRecDepth 20000 in
theorem vv_Md_behind_49_B (D : Nat) (hD : 3 ≤ D + 1) (rr : Int32) (σ' : gx_R) (K39 : Int32 → Int32 → Int32 → Int32 → gx_R → Option (Int32 × gx_R)) (hK39 : ∀ (a2 : Int32) (a3 : Int32) (a4 : Int32) (a5 : Int32) (σ : gx_R), K39 a2 a3 a4 a5 σ = some (rr, σ') → gx_Ev lay0 (E0 D) tt_245 (some (.int rr)) σ' 39 [.ref 109, .null, .int a2, .int a3, .int a4, .int a5, .null, .null] [] σ) (K49 : Int32 → Int32 → Int32 → Int32 → Int32 → Int32 → gx_R → Option (Int32 × gx_R)) (hK49 : ∀ (a2 : Int32) (a3 : Int32) (a4 : Int32) (a5 : Int32) (a6 : Int32) (a7 : Int32) (σ : gx_R), K49 a2 a3 a4 a5 a6 a7 σ = some (rr, σ') → gx_Ev lay0 (E0 D) tt_245 (some (.int rr)) σ' 49 [.ref 109, .null, .int a2, .int a3, .int a4, .int a5, .int a6, .int a7] [] σ) (a2 : Int32) (a3 : Int32) (a4 : Int32) (a5 : Int32) (a6 : Int32) (a7 : Int32) (σ : gx_R) (hf : Md_behind_49_B K39 K49 a2 a3 a4 a5 a6 a7 σ = some (rr, σ')) : gx_Ev lay0 (E0 D) tt_245 (some (.int rr)) σ' 49 [.ref 109, .null, .int a2, .int a3, .int a4, .int a5, .int a6, .int a7] [] σ := by
  unfold Md_behind_49_B at hf
  rcases z_if_inv hf with ⟨h1, hf⟩ | ⟨h1, hf⟩
  · exact gx_go_ 6 [.inl 1] [vp_in (0 : Int32) 8880, (σ 110 ((0 : Int32).toNatClampNeg)) ≤ a7] 78 [.ref 109, .null, .int a2, .int a3, .int a4, .int a5, .int a6, .int a7] [] σ rfl ⟨(z_ix_in rfl), h1, trivial⟩ (gx_fgt (ls' := [.ref 109, .null, .int a2, .int a3, .int a4, .int a5, .int a6, .null]) ⟨Or.inr rfl, Or.inl rfl, Or.inr rfl, Or.inr rfl, Or.inr rfl, Or.inr rfl, Or.inr rfl, Or.inl rfl, trivial⟩ (vv_Md_behind_78 D hD rr σ' K39 hK39 a2 a3 a4 a5 a6 σ hf))
  · rcases z_if_inv hf with ⟨h2, hf⟩ | ⟨h2, hf⟩
    · obtain ⟨h3, hf⟩ := z_ck_inv hf
      rcases z_if_inv hf with ⟨h4, hf⟩ | ⟨h4, hf⟩
      · obtain ⟨h5, hf⟩ := z_ck_inv hf
        obtain ⟨r6, σ7, h8, hf⟩ := z_bd_inv hf
        rcases z_if_inv hf with ⟨h9, hf⟩ | ⟨h9, hf⟩
        · exact gx_go_ 23 [.inl 0, .inl 0, .inl 0, .inr (some (.int r6), σ7), .inl 1] [vp_in (0 : Int32) 8880, ¬ ((σ 110 ((0 : Int32).toNatClampNeg)) ≤ a7), ¬ ¬ (a6 = 0), vp_in a7 8, ¬ ¬ ((σ 148 a7.toNatClampNeg) = a4), vp_in ((26 : Int32) + a5) 8880, E0 D 146 [.int (σ 110 (((26 : Int32) + a5).toNatClampNeg)), .int a7] σ (some (.int r6)) σ7, r6 = 0] 74 [.ref 109, .null, .int a2, .int a3, .int a4, .int a5, .int a6, .int a7] [] σ7 rfl ⟨(z_ix_in rfl), h1, (fun q => q h2), (z_ix_in h3), (fun q => q h4), (z_ix_in h5), (ww_Md_has D (by omega) (σ 110 (((26 : Int32) + a5).toNatClampNeg)) a7 σ r6 σ7 h8), h9, trivial⟩ (gx_fgt (ls' := [.ref 109, .null, .int a2, .int a3, .int a4, .int a5, .null, .int a7]) ⟨Or.inr rfl, Or.inl rfl, Or.inr rfl, Or.inr rfl, Or.inr rfl, Or.inr rfl, Or.inl rfl, Or.inr rfl, trivial⟩ (vv_Md_behind_74 D hD rr σ' (Md_behind_75 K49) (vv_Md_behind_75 D hD rr σ' K49 hK49) a2 a3 a4 a5 a7 σ7 hf))
        · exact gx_go_ 23 [.inl 0, .inl 0, .inl 0, .inr (some (.int r6), σ7), .inl 0] [vp_in (0 : Int32) 8880, ¬ ((σ 110 ((0 : Int32).toNatClampNeg)) ≤ a7), ¬ ¬ (a6 = 0), vp_in a7 8, ¬ ¬ ((σ 148 a7.toNatClampNeg) = a4), vp_in ((26 : Int32) + a5) 8880, E0 D 146 [.int (σ 110 (((26 : Int32) + a5).toNatClampNeg)), .int a7] σ (some (.int r6)) σ7, ¬ (r6 = 0)] 72 [.ref 109, .null, .int a2, .int a3, .int a4, .int a5, .int a6, .int a7] [] σ7 rfl ⟨(z_ix_in rfl), h1, (fun q => q h2), (z_ix_in h3), (fun q => q h4), (z_ix_in h5), (ww_Md_has D (by omega) (σ 110 (((26 : Int32) + a5).toNatClampNeg)) a7 σ r6 σ7 h8), h9, trivial⟩ (gx_fgt (ls' := [.ref 109, .null, .int a2, .int a3, .int a4, .int a5, .null, .int a7]) ⟨Or.inr rfl, Or.inl rfl, Or.inr rfl, Or.inr rfl, Or.inr rfl, Or.inr rfl, Or.inl rfl, Or.inr rfl, trivial⟩ (vv_Md_behind_72 D hD rr σ' (Md_behind_75 K49) (vv_Md_behind_75 D hD rr σ' K49 hK49) a2 a3 a4 a5 a7 σ7 hf))
      · exact gx_go_ 14 [.inl 0, .inl 0, .inl 1] [vp_in (0 : Int32) 8880, ¬ ((σ 110 ((0 : Int32).toNatClampNeg)) ≤ a7), ¬ ¬ (a6 = 0), vp_in a7 8, ¬ ((σ 148 a7.toNatClampNeg) = a4)] 74 [.ref 109, .null, .int a2, .int a3, .int a4, .int a5, .int a6, .int a7] [] σ rfl ⟨(z_ix_in rfl), h1, (fun q => q h2), (z_ix_in h3), h4, trivial⟩ (gx_fgt (ls' := [.ref 109, .null, .int a2, .int a3, .int a4, .int a5, .null, .int a7]) ⟨Or.inr rfl, Or.inl rfl, Or.inr rfl, Or.inr rfl, Or.inr rfl, Or.inr rfl, Or.inl rfl, Or.inr rfl, trivial⟩ (vv_Md_behind_74 D hD rr σ' (Md_behind_75 K49) (vv_Md_behind_75 D hD rr σ' K49 hK49) a2 a3 a4 a5 a7 σ hf))
    · exact gx_go_ 8 [.inl 0, .inl 1] [vp_in (0 : Int32) 8880, ¬ ((σ 110 ((0 : Int32).toNatClampNeg)) ≤ a7), ¬ (a6 = 0)] 72 [.ref 109, .null, .int a2, .int a3, .int a4, .int a5, .int a6, .int a7] [] σ rfl ⟨(z_ix_in rfl), h1, h2, trivial⟩ (gx_fgt (ls' := [.ref 109, .null, .int a2, .int a3, .int a4, .int a5, .null, .int a7]) ⟨Or.inr rfl, Or.inl rfl, Or.inr rfl, Or.inr rfl, Or.inr rfl, Or.inr rfl, Or.inl rfl, Or.inr rfl, trivial⟩ (vv_Md_behind_72 D hD rr σ' (Md_behind_75 K49) (vv_Md_behind_75 D hD rr σ' K49 hK49) a2 a3 a4 a5 a7 σ hf))
set_option maxHeartbeats 16000000 in
set_option maxRecDepth 20000 in
theorem vv_Md_behind_49 (D : Nat) (hD : 3 ≤ D + 1) (rr : Int32) (σ' : gx_R) (K39 : Int32 → Int32 → Int32 → Int32 → gx_R → Option (Int32 × gx_R)) (hK39 : ∀ (a2 : Int32) (a3 : Int32) (a4 : Int32) (a5 : Int32) (σ : gx_R), K39 a2 a3 a4 a5 σ = some (rr, σ') → gx_Ev lay0 (E0 D) tt_245 (some (.int rr)) σ' 39 [.ref 109, .null, .int a2, .int a3, .int a4, .int a5, .null, .null] [] σ) : ∀ (n : Nat) (a2 : Int32) (a3 : Int32) (a4 : Int32) (a5 : Int32) (a6 : Int32) (a7 : Int32) (σ : gx_R), Md_behind_49 K39 n a2 a3 a4 a5 a6 a7 σ = some (rr, σ') → gx_Ev lay0 (E0 D) tt_245 (some (.int rr)) σ' 49 [.ref 109, .null, .int a2, .int a3, .int a4, .int a5, .int a6, .int a7] [] σ := by
  intro n
  induction n with
  | zero => intro a2 a3 a4 a5 a6 a7 σ  hf; cases hf
  | succ n ih => intro a2 a3 a4 a5 a6 a7 σ  hf; exact vv_Md_behind_49_B D hD rr σ'  K39 hK39 (Md_behind_49 K39 n) ih a2 a3 a4 a5 a6 a7 σ  hf
set_option maxHeartbeats 16000000 in
set_option maxRecDepth 20000 in
theorem vv_Md_behind_96 (D : Nat) (hD : 3 ≤ D + 1) (rr : Int32) (σ' : gx_R) (K34 : Int32 → Int32 → Int32 → gx_R → Option (Int32 × gx_R)) (hK34 : ∀ (a2 : Int32) (a3 : Int32) (a4 : Int32) (σ : gx_R), K34 a2 a3 a4 σ = some (rr, σ') → gx_Ev lay0 (E0 D) tt_245 (some (.int rr)) σ' 34 [.ref 109, .null, .int a2, .int a3, .int a4, .null, .null, .null] [] σ) (a2 : Int32) (a3 : Int32) (a4 : Int32) (σ : gx_R) (hf : Md_behind_96 K34 a2 a3 a4 σ = some (rr, σ')) : gx_Ev lay0 (E0 D) tt_245 (some (.int rr)) σ' 96 [.ref 109, .null, .int a2, .int a3, .int a4, .null, .null, .null] [] σ := by
  unfold Md_behind_96 at hf
  exact gx_go_ 2 [] [] 34 [.ref 109, .null, .int a2, .int a3, .int (a4 + 1), .null, .null, .null] [] σ rfl trivial (gx_fgt (ls' := [.ref 109, .null, .int a2, .int a3, .int (a4 + 1), .null, .null, .null]) ⟨Or.inr rfl, Or.inl rfl, Or.inr rfl, Or.inr rfl, Or.inr rfl, Or.inl rfl, Or.inl rfl, Or.inl rfl, trivial⟩ (hK34 a2 a3 (a4 + 1) σ hf))
set_option maxHeartbeats 16000000 in
set_option maxRecDepth 20000 in
theorem vv_Md_behind_39_B (D : Nat) (hD : 3 ≤ D + 1) (rr : Int32) (σ' : gx_R) (K34 : Int32 → Int32 → Int32 → gx_R → Option (Int32 × gx_R)) (hK34 : ∀ (a2 : Int32) (a3 : Int32) (a4 : Int32) (σ : gx_R), K34 a2 a3 a4 σ = some (rr, σ') → gx_Ev lay0 (E0 D) tt_245 (some (.int rr)) σ' 34 [.ref 109, .null, .int a2, .int a3, .int a4, .null, .null, .null] [] σ) (K39 : Int32 → Int32 → Int32 → Int32 → gx_R → Option (Int32 × gx_R)) (hK39 : ∀ (a2 : Int32) (a3 : Int32) (a4 : Int32) (a5 : Int32) (σ : gx_R), K39 a2 a3 a4 a5 σ = some (rr, σ') → gx_Ev lay0 (E0 D) tt_245 (some (.int rr)) σ' 39 [.ref 109, .null, .int a2, .int a3, .int a4, .int a5, .null, .null] [] σ) (a2 : Int32) (a3 : Int32) (a4 : Int32) (a5 : Int32) (σ : gx_R) (hf : Md_behind_39_B K34 K39 a2 a3 a4 a5 σ = some (rr, σ')) : gx_Ev lay0 (E0 D) tt_245 (some (.int rr)) σ' 39 [.ref 109, .null, .int a2, .int a3, .int a4, .int a5, .null, .null] [] σ := by
  unfold Md_behind_39_B at hf
  rcases z_if_inv hf with ⟨h1, hf⟩ | ⟨h1, hf⟩
  · exact gx_go_ 6 [.inl 1] [vp_in (0 : Int32) 8880, (σ 110 ((0 : Int32).toNatClampNeg)) ≤ a5] 96 [.ref 109, .null, .int a2, .int a3, .int a4, .int a5, .null, .null] [] σ rfl ⟨(z_ix_in rfl), h1, trivial⟩ (gx_fgt (ls' := [.ref 109, .null, .int a2, .int a3, .int a4, .null, .null, .null]) ⟨Or.inr rfl, Or.inl rfl, Or.inr rfl, Or.inr rfl, Or.inr rfl, Or.inl rfl, Or.inl rfl, Or.inl rfl, trivial⟩ (vv_Md_behind_96 D hD rr σ' K34 hK34 a2 a3 a4 σ hf))
  · exact gx_go_ 10 [.inl 0] [vp_in (0 : Int32) 8880, ¬ ((σ 110 ((0 : Int32).toNatClampNeg)) ≤ a5)] 49 [.ref 109, .null, .int a2, .int a3, .int a4, .int a5, .int (0 : Int32), .int (0 : Int32)] [] σ rfl ⟨(z_ix_in rfl), h1, trivial⟩ (gx_fgt (ls' := [.ref 109, .null, .int a2, .int a3, .int a4, .int a5, .int (0 : Int32), .int (0 : Int32)]) ⟨Or.inr rfl, Or.inl rfl, Or.inr rfl, Or.inr rfl, Or.inr rfl, Or.inr rfl, Or.inr rfl, Or.inr rfl, trivial⟩ (vv_Md_behind_49 D hD rr σ' K39 hK39 z_FU a2 a3 a4 a5 (0 : Int32) (0 : Int32) σ hf))
set_option maxHeartbeats 16000000 in
set_option maxRecDepth 20000 in
theorem vv_Md_behind_39 (D : Nat) (hD : 3 ≤ D + 1) (rr : Int32) (σ' : gx_R) (K34 : Int32 → Int32 → Int32 → gx_R → Option (Int32 × gx_R)) (hK34 : ∀ (a2 : Int32) (a3 : Int32) (a4 : Int32) (σ : gx_R), K34 a2 a3 a4 σ = some (rr, σ') → gx_Ev lay0 (E0 D) tt_245 (some (.int rr)) σ' 34 [.ref 109, .null, .int a2, .int a3, .int a4, .null, .null, .null] [] σ) : ∀ (n : Nat) (a2 : Int32) (a3 : Int32) (a4 : Int32) (a5 : Int32) (σ : gx_R), Md_behind_39 K34 n a2 a3 a4 a5 σ = some (rr, σ') → gx_Ev lay0 (E0 D) tt_245 (some (.int rr)) σ' 39 [.ref 109, .null, .int a2, .int a3, .int a4, .int a5, .null, .null] [] σ := by
  intro n
  induction n with
  | zero => intro a2 a3 a4 a5 σ  hf; cases hf
  | succ n ih => intro a2 a3 a4 a5 σ  hf; exact vv_Md_behind_39_B D hD rr σ'  K34 hK34 (Md_behind_39 K34 n) ih a2 a3 a4 a5 σ  hf
set_option maxHeartbeats 16000000 in
set_option maxRecDepth 20000 in
theorem vv_Md_behind_98 (D : Nat) (hD : 3 ≤ D + 1) (rr : Int32) (σ' : gx_R) (a2 : Int32) (a3 : Int32) (σ : gx_R) (hf : Md_behind_98 a2 a3 σ = some (rr, σ')) : gx_Ev lay0 (E0 D) tt_245 (some (.int rr)) σ' 98 [.ref 109, .null, .int a2, .int a3, .null, .null, .null, .null] [] σ := by
  unfold Md_behind_98 at hf
  rcases z_if_inv hf with ⟨h1, hf⟩ | ⟨h1, hf⟩
  · obtain ⟨e1, e2⟩ := z_ret hf
    subst e1
    subst e2
    exact gx_end 6 [.inl 0] [¬ ¬ (a2 = (-1 : Int32))] rfl ⟨(fun q => q h1), trivial⟩
  · obtain ⟨h2, hf⟩ := z_ck_inv hf
    obtain ⟨e1, e2⟩ := z_ret hf
    subst e1
    subst e2
    exact gx_end 8 [.inl 1] [¬ (a2 = (-1 : Int32)), vp_in a2 8] rfl ⟨h1, (z_ix_in h2), trivial⟩
set_option maxHeartbeats 16000000 in
set_option maxRecDepth 20000 in
theorem vv_Md_behind_27 (D : Nat) (hD : 3 ≤ D + 1) (rr : Int32) (σ' : gx_R) (K15 : Int32 → Int32 → Int32 → gx_R → Option (Int32 × gx_R)) (hK15 : ∀ (a1 : Int32) (a2 : Int32) (a3 : Int32) (σ : gx_R), K15 a1 a2 a3 σ = some (rr, σ') → gx_Ev lay0 (E0 D) tt_245 (some (.int rr)) σ' 15 [.ref 109, .int a1, .int a2, .int a3, .null, .null, .null, .null] [] σ) (a1 : Int32) (a2 : Int32) (a3 : Int32) (s1 : Int32) (s2 : Int32) (σ : gx_R) (hf : Md_behind_27 K15 a1 a2 a3 s1 s2 σ = some (rr, σ')) : gx_Ev lay0 (E0 D) tt_245 (some (.int rr)) σ' 27 [.ref 109, .int a1, .int a2, .int a3, .null, .null, .null, .null] [.int s2, .int s1, .ref 148] σ := by
  unfold Md_behind_27 at hf
  obtain ⟨h1, hf⟩ := z_ck_inv hf
  exact gx_go_ 3 [] [vp_in s1 8] 15 [.ref 109, .int a1, .int a2, .int (a3 + 1), .null, .null, .null, .null] [] (gx_up σ 148 s1.toNatClampNeg s2) rfl ⟨(z_ix_in h1), trivial⟩ (gx_fgt (ls' := [.ref 109, .int a1, .int a2, .int (a3 + 1), .null, .null, .null, .null]) ⟨Or.inr rfl, Or.inr rfl, Or.inr rfl, Or.inr rfl, Or.inl rfl, Or.inl rfl, Or.inl rfl, Or.inl rfl, trivial⟩ (hK15 a1 a2 (a3 + 1) (gx_up σ 148 s1.toNatClampNeg s2) hf))
set_option maxHeartbeats 16000000 in
set_option maxRecDepth 20000 in
theorem vv_Md_behind_34_B (D : Nat) (hD : 3 ≤ D + 1) (rr : Int32) (σ' : gx_R) (K34 : Int32 → Int32 → Int32 → gx_R → Option (Int32 × gx_R)) (hK34 : ∀ (a2 : Int32) (a3 : Int32) (a4 : Int32) (σ : gx_R), K34 a2 a3 a4 σ = some (rr, σ') → gx_Ev lay0 (E0 D) tt_245 (some (.int rr)) σ' 34 [.ref 109, .null, .int a2, .int a3, .int a4, .null, .null, .null] [] σ) (a2 : Int32) (a3 : Int32) (a4 : Int32) (σ : gx_R) (hf : Md_behind_34_B K34 a2 a3 a4 σ = some (rr, σ')) : gx_Ev lay0 (E0 D) tt_245 (some (.int rr)) σ' 34 [.ref 109, .null, .int a2, .int a3, .int a4, .null, .null, .null] [] σ := by
  unfold Md_behind_34_B at hf
  rcases z_if_inv hf with ⟨h1, hf⟩ | ⟨h1, hf⟩
  · exact gx_go_ 3 [.inl 1] [(8 : Int32) ≤ a4] 98 [.ref 109, .null, .int a2, .int a3, .int a4, .null, .null, .null] [] σ rfl ⟨h1, trivial⟩ (gx_fgt (ls' := [.ref 109, .null, .int a2, .int a3, .null, .null, .null, .null]) ⟨Or.inr rfl, Or.inl rfl, Or.inr rfl, Or.inr rfl, Or.inl rfl, Or.inl rfl, Or.inl rfl, Or.inl rfl, trivial⟩ (vv_Md_behind_98 D hD rr σ' a2 a3 σ hf))
  · exact gx_go_ 5 [.inl 0] [¬ ((8 : Int32) ≤ a4)] 39 [.ref 109, .null, .int a2, .int a3, .int a4, .int (0 : Int32), .null, .null] [] σ rfl ⟨h1, trivial⟩ (gx_fgt (ls' := [.ref 109, .null, .int a2, .int a3, .int a4, .int (0 : Int32), .null, .null]) ⟨Or.inr rfl, Or.inl rfl, Or.inr rfl, Or.inr rfl, Or.inr rfl, Or.inr rfl, Or.inl rfl, Or.inl rfl, trivial⟩ (vv_Md_behind_39 D hD rr σ' K34 hK34 z_FU a2 a3 a4 (0 : Int32) σ hf))
set_option maxHeartbeats 16000000 in
set_option maxRecDepth 20000 in
theorem vv_Md_behind_34 (D : Nat) (hD : 3 ≤ D + 1) (rr : Int32) (σ' : gx_R) : ∀ (n : Nat) (a2 : Int32) (a3 : Int32) (a4 : Int32) (σ : gx_R), Md_behind_34 n a2 a3 a4 σ = some (rr, σ') → gx_Ev lay0 (E0 D) tt_245 (some (.int rr)) σ' 34 [.ref 109, .null, .int a2, .int a3, .int a4, .null, .null, .null] [] σ := by
  intro n
  induction n with
  | zero => intro a2 a3 a4 σ  hf; cases hf
  | succ n ih => intro a2 a3 a4 σ  hf; exact vv_Md_behind_34_B D hD rr σ'  (Md_behind_34 n) ih a2 a3 a4 σ  hf
set_option maxHeartbeats 16000000 in
set_option maxRecDepth 20000 in
theorem vv_Md_behind_30 (D : Nat) (hD : 3 ≤ D + 1) (rr : Int32) (σ' : gx_R) (a2 : Int32) (σ : gx_R) (hf : Md_behind_30 a2 σ = some (rr, σ')) : gx_Ev lay0 (E0 D) tt_245 (some (.int rr)) σ' 30 [.ref 109, .null, .int a2, .null, .null, .null, .null, .null] [] σ := by
  unfold Md_behind_30 at hf
  exact gx_go_ 4 [] [] 34 [.ref 109, .null, .int a2, .int (0 : Int32), .int (0 : Int32), .null, .null, .null] [] σ rfl trivial (gx_fgt (ls' := [.ref 109, .null, .int a2, .int (0 : Int32), .int (0 : Int32), .null, .null, .null]) ⟨Or.inr rfl, Or.inl rfl, Or.inr rfl, Or.inr rfl, Or.inr rfl, Or.inl rfl, Or.inl rfl, Or.inl rfl, trivial⟩ (vv_Md_behind_34 D hD rr σ' z_FU a2 (0 : Int32) (0 : Int32) σ hf))
set_option maxHeartbeats 16000000 in
set_option maxRecDepth 20000 in
theorem vv_Md_behind_15_B (D : Nat) (hD : 3 ≤ D + 1) (rr : Int32) (σ' : gx_R) (K15 : Int32 → Int32 → Int32 → gx_R → Option (Int32 × gx_R)) (hK15 : ∀ (a1 : Int32) (a2 : Int32) (a3 : Int32) (σ : gx_R), K15 a1 a2 a3 σ = some (rr, σ') → gx_Ev lay0 (E0 D) tt_245 (some (.int rr)) σ' 15 [.ref 109, .int a1, .int a2, .int a3, .null, .null, .null, .null] [] σ) (a1 : Int32) (a2 : Int32) (a3 : Int32) (σ : gx_R) (hf : Md_behind_15_B K15 a1 a2 a3 σ = some (rr, σ')) : gx_Ev lay0 (E0 D) tt_245 (some (.int rr)) σ' 15 [.ref 109, .int a1, .int a2, .int a3, .null, .null, .null, .null] [] σ := by
  unfold Md_behind_15_B at hf
  rcases z_if_inv hf with ⟨h1, hf⟩ | ⟨h1, hf⟩
  · exact gx_go_ 3 [.inl 1] [(8 : Int32) ≤ a3] 30 [.ref 109, .int a1, .int a2, .int a3, .null, .null, .null, .null] [] σ rfl ⟨h1, trivial⟩ (gx_fgt (ls' := [.ref 109, .null, .int a2, .null, .null, .null, .null, .null]) ⟨Or.inr rfl, Or.inl rfl, Or.inr rfl, Or.inl rfl, Or.inl rfl, Or.inl rfl, Or.inl rfl, Or.inl rfl, trivial⟩ (vv_Md_behind_30 D hD rr σ' a2 σ hf))
  · rcases z_if_inv hf with ⟨h2, hf⟩ | ⟨h2, hf⟩
    · exact gx_go_ 11 [.inl 0, .inl 0] [¬ ((8 : Int32) ≤ a3), ¬ ¬ (a3 = a1)] 27 [.ref 109, .int a1, .int a2, .int a3, .null, .null, .null, .null] [.int (0 : Int32), .int a3, .ref 148] σ rfl ⟨h1, (fun q => q h2), trivial⟩ (gx_fgt (ls' := [.ref 109, .int a1, .int a2, .int a3, .null, .null, .null, .null]) ⟨Or.inr rfl, Or.inr rfl, Or.inr rfl, Or.inr rfl, Or.inl rfl, Or.inl rfl, Or.inl rfl, Or.inl rfl, trivial⟩ (vv_Md_behind_27 D hD rr σ' K15 hK15 a1 a2 a3 a3 (0 : Int32) σ hf))
    · exact gx_go_ 10 [.inl 0, .inl 1] [¬ ((8 : Int32) ≤ a3), ¬ (a3 = a1)] 27 [.ref 109, .int a1, .int a2, .int a3, .null, .null, .null, .null] [.int (-1 : Int32), .int a3, .ref 148] σ rfl ⟨h1, h2, trivial⟩ (gx_fgt (ls' := [.ref 109, .int a1, .int a2, .int a3, .null, .null, .null, .null]) ⟨Or.inr rfl, Or.inr rfl, Or.inr rfl, Or.inr rfl, Or.inl rfl, Or.inl rfl, Or.inl rfl, Or.inl rfl, trivial⟩ (vv_Md_behind_27 D hD rr σ' K15 hK15 a1 a2 a3 a3 (-1 : Int32) σ hf))
set_option maxHeartbeats 16000000 in
set_option maxRecDepth 20000 in
theorem vv_Md_behind_15 (D : Nat) (hD : 3 ≤ D + 1) (rr : Int32) (σ' : gx_R) : ∀ (n : Nat) (a1 : Int32) (a2 : Int32) (a3 : Int32) (σ : gx_R), Md_behind_15 n a1 a2 a3 σ = some (rr, σ') → gx_Ev lay0 (E0 D) tt_245 (some (.int rr)) σ' 15 [.ref 109, .int a1, .int a2, .int a3, .null, .null, .null, .null] [] σ := by
  intro n
  induction n with
  | zero => intro a1 a2 a3 σ  hf; cases hf
  | succ n ih => intro a1 a2 a3 σ  hf; exact vv_Md_behind_15_B D hD rr σ'  (Md_behind_15 n) ih a1 a2 a3 σ  hf
set_option maxHeartbeats 16000000 in
set_option maxRecDepth 20000 in
theorem vv_Md_behind_13 (D : Nat) (hD : 3 ≤ D + 1) (rr : Int32) (σ' : gx_R) (a1 : Int32) (a2 : Int32) (σ : gx_R) (hf : Md_behind_13 a1 a2 σ = some (rr, σ')) : gx_Ev lay0 (E0 D) tt_245 (some (.int rr)) σ' 13 [.ref 109, .int a1, .int a2, .null, .null, .null, .null, .null] [] σ := by
  unfold Md_behind_13 at hf
  exact gx_go_ 2 [] [] 15 [.ref 109, .int a1, .int a2, .int (0 : Int32), .null, .null, .null, .null] [] σ rfl trivial (gx_fgt (ls' := [.ref 109, .int a1, .int a2, .int (0 : Int32), .null, .null, .null, .null]) ⟨Or.inr rfl, Or.inr rfl, Or.inr rfl, Or.inr rfl, Or.inl rfl, Or.inl rfl, Or.inl rfl, Or.inl rfl, trivial⟩ (vv_Md_behind_15 D hD rr σ' z_FU a1 a2 (0 : Int32) σ hf))
set_option maxHeartbeats 16000000 in
set_option maxRecDepth 20000 in
theorem vv_Md_behind_E (D : Nat) (hD : 3 ≤ D + 1) (rr : Int32) (σ' : gx_R) (a1 : Int32) (a2 : Int32) (σ : gx_R) (hf : Md_behind a1 a2 σ = some (rr, σ')) : gx_Ev lay0 (E0 D) tt_245 (some (.int rr)) σ' 0 [.ref 109, .int a1, .int a2, .null, .null, .null, .null, .null] [] σ := by
  unfold Md_behind at hf
  obtain ⟨r1, σ2, h3, hf⟩ := z_bd_inv hf
  rcases z_if_inv hf with ⟨h4, hf⟩ | ⟨h4, hf⟩
  · obtain ⟨e1, e2⟩ := z_ret hf
    subst e1
    subst e2
    exact gx_end 6 [.inr (some (.int r1), σ2), .inl 1] [E0 D 149 [.ref 109, .int a1] σ (some (.int r1)) σ2, r1 = 0] rfl ⟨(ww_Md_isPerson D (by omega) a1 σ r1 σ2 h3), h4, trivial⟩
  · rcases z_if_inv hf with ⟨h5, hf⟩ | ⟨h5, hf⟩
    · exact gx_go_ 7 [.inr (some (.int r1), σ2), .inl 0, .inl 1] [E0 D 149 [.ref 109, .int a1] σ (some (.int r1)) σ2, ¬ (r1 = 0), a2 = (-1 : Int32)] 13 [.ref 109, .int a1, .int a2, .null, .null, .null, .null, .null] [] σ2 rfl ⟨(ww_Md_isPerson D (by omega) a1 σ r1 σ2 h3), h4, h5, trivial⟩ (gx_fgt (ls' := [.ref 109, .int a1, .int a2, .null, .null, .null, .null, .null]) ⟨Or.inr rfl, Or.inr rfl, Or.inr rfl, Or.inl rfl, Or.inl rfl, Or.inl rfl, Or.inl rfl, Or.inl rfl, trivial⟩ (vv_Md_behind_13 D hD rr σ' a1 a2 σ2 hf))
    · obtain ⟨r6, σ7, h8, hf⟩ := z_bd_inv hf
      rcases z_if_inv hf with ⟨h9, hf⟩ | ⟨h9, hf⟩
      · obtain ⟨e1, e2⟩ := z_ret hf
        subst e1
        subst e2
        exact gx_end 13 [.inr (some (.int r1), σ2), .inl 0, .inl 0, .inr (some (.int r6), σ7), .inl 0] [E0 D 149 [.ref 109, .int a1] σ (some (.int r1)) σ2, ¬ (r1 = 0), ¬ (a2 = (-1 : Int32)), E0 D 149 [.ref 109, .int a2] σ2 (some (.int r6)) σ7, ¬ ¬ (r6 = 0)] rfl ⟨(ww_Md_isPerson D (by omega) a1 σ r1 σ2 h3), h4, h5, (ww_Md_isPerson D (by omega) a2 σ2 r6 σ7 h8), (fun q => q h9), trivial⟩
      · exact gx_go_ 11 [.inr (some (.int r1), σ2), .inl 0, .inl 0, .inr (some (.int r6), σ7), .inl 1] [E0 D 149 [.ref 109, .int a1] σ (some (.int r1)) σ2, ¬ (r1 = 0), ¬ (a2 = (-1 : Int32)), E0 D 149 [.ref 109, .int a2] σ2 (some (.int r6)) σ7, ¬ (r6 = 0)] 13 [.ref 109, .int a1, .int a2, .null, .null, .null, .null, .null] [] σ7 rfl ⟨(ww_Md_isPerson D (by omega) a1 σ r1 σ2 h3), h4, h5, (ww_Md_isPerson D (by omega) a2 σ2 r6 σ7 h8), h9, trivial⟩ (gx_fgt (ls' := [.ref 109, .int a1, .int a2, .null, .null, .null, .null, .null]) ⟨Or.inr rfl, Or.inr rfl, Or.inr rfl, Or.inl rfl, Or.inl rfl, Or.inl rfl, Or.inl rfl, Or.inl rfl, trivial⟩ (vv_Md_behind_13 D hD rr σ' a1 a2 σ7 hf))
set_option maxHeartbeats 16000000 in
set_option maxRecDepth 20000 in
theorem ww_Md_behind (D : Nat) (hD : 3 ≤ D) (a1 : Int32) (a2 : Int32) (σ : gx_R) (rr : Int32) (σ' : gx_R) (hf : Md_behind a1 a2 σ = some (rr, σ')) : E0 D 245 [.ref 109, .int a1, .int a2] σ (some (.int rr)) σ' := by
  cases D with
  | zero => omega
  | succ D => exact Or.inl ⟨Nat.le_of_ble_eq_true rfl, vv_Md_behind_E D hD rr σ' a1 a2 σ hf⟩
