set_option maxHeartbeats 16000000 in
set_option maxRecDepth 20000 in
theorem vv_Sf_lowestOf_2_B (D : Nat) (hD : 1 ≤ D + 1) (rr : Int32) (σ' : gx_R) (K2 : Int32 → Int32 → gx_R → Option (Int32 × gx_R)) (hK2 : ∀ (a0 : Int32) (a1 : Int32) (σ : gx_R), K2 a0 a1 σ = some (rr, σ') → gx_Ev lay0 (E0 D) tt_141 (some (.int rr)) σ' 2 [.int a0, .int a1] [] σ) (a0 : Int32) (a1 : Int32) (σ : gx_R) (hf : Sf_lowestOf_2_B K2 a0 a1 σ = some (rr, σ')) : gx_Ev lay0 (E0 D) tt_141 (some (.int rr)) σ' 2 [.int a0, .int a1] [] σ := by
  unfold Sf_lowestOf_2_B at hf
  rcases z_if_inv hf with ⟨h1, hf⟩ | ⟨h1, hf⟩
  · obtain ⟨e1, e2⟩ := z_ret hf
    subst e1
    subst e2
    exact gx_end 5 [.inl 1] [(8 : Int32) ≤ a1] rfl ⟨h1, trivial⟩
  · rcases z_if_inv hf with ⟨h2, hf⟩ | ⟨h2, hf⟩
    · obtain ⟨e1, e2⟩ := z_ret hf
      subst e1
      subst e2
      exact gx_end 12 [.inl 0, .inl 0] [¬ ((8 : Int32) ≤ a1), ¬ ¬ (((a0 >>> (a1 &&& 31)) &&& (1 : Int32)) = (1 : Int32))] rfl ⟨h1, (fun q => q h2), trivial⟩
    · exact gx_go_ 12 [.inl 0, .inl 1] [¬ ((8 : Int32) ≤ a1), ¬ (((a0 >>> (a1 &&& 31)) &&& (1 : Int32)) = (1 : Int32))] 2 [.int a0, .int (a1 + 1)] [] σ rfl ⟨h1, h2, trivial⟩ (gx_fgt (ls' := [.int a0, .int (a1 + 1)]) ⟨Or.inr rfl, Or.inr rfl, trivial⟩ (hK2 a0 (a1 + 1) σ hf))
set_option maxHeartbeats 16000000 in
set_option maxRecDepth 20000 in
theorem vv_Sf_lowestOf_2 (D : Nat) (hD : 1 ≤ D + 1) (rr : Int32) (σ' : gx_R) : ∀ (n : Nat) (a0 : Int32) (a1 : Int32) (σ : gx_R), Sf_lowestOf_2 n a0 a1 σ = some (rr, σ') → gx_Ev lay0 (E0 D) tt_141 (some (.int rr)) σ' 2 [.int a0, .int a1] [] σ := by
  intro n
  induction n with
  | zero => intro a0 a1 σ  hf; cases hf
  | succ n ih => intro a0 a1 σ  hf; exact vv_Sf_lowestOf_2_B D hD rr σ'  (Sf_lowestOf_2 n) ih a0 a1 σ  hf
set_option maxHeartbeats 16000000 in
set_option maxRecDepth 20000 in
theorem vv_Sf_lowestOf_E (D : Nat) (hD : 1 ≤ D + 1) (rr : Int32) (σ' : gx_R) (a0 : Int32) (σ : gx_R) (hf : Sf_lowestOf a0 σ = some (rr, σ')) : gx_Ev lay0 (E0 D) tt_141 (some (.int rr)) σ' 0 [.int a0, .null] [] σ := by
  unfold Sf_lowestOf at hf
  exact gx_go_ 2 [] [] 2 [.int a0, .int (0 : Int32)] [] σ rfl trivial (gx_fgt (ls' := [.int a0, .int (0 : Int32)]) ⟨Or.inr rfl, Or.inr rfl, trivial⟩ (vv_Sf_lowestOf_2 D hD rr σ' z_FU a0 (0 : Int32) σ hf))
set_option maxHeartbeats 16000000 in
set_option maxRecDepth 20000 in
theorem ww_Sf_lowestOf (D : Nat) (hD : 1 ≤ D) (a0 : Int32) (σ : gx_R) (rr : Int32) (σ' : gx_R) (hf : Sf_lowestOf a0 σ = some (rr, σ')) : E0 D 141 [.int a0] σ (some (.int rr)) σ' := by
  cases D with
  | zero => omega
  | succ D => exact Or.inl ⟨Nat.le_of_ble_eq_true rfl, vv_Sf_lowestOf_E D hD rr σ' a0 σ hf⟩
set_option maxHeartbeats 16000000 in
set_option maxRecDepth 20000 in
theorem vv_Sf_takeTurn_73 (D : Nat) (hD : 7 ≤ D + 1) (rr : Int32) (σ' : gx_R) (σ : gx_R) (hf : Sf_takeTurn_73  σ = some (rr, σ')) : gx_Ev lay0 (E0 D) tt_138 (some (.int rr)) σ' 73 [.null, .null, .null, .null, .null, .null] [] σ := by
  unfold Sf_takeTurn_73 at hf
  obtain ⟨e1, e2⟩ := z_ret hf
  subst e1
  subst e2
  exact gx_end 3 [] [] rfl trivial
set_option maxHeartbeats 16000000 in
set_option maxRecDepth 20000 in
theorem vv_Sf_takeTurn_88 (D : Nat) (hD : 7 ≤ D + 1) (rr : Int32) (σ' : gx_R) (a2 : Int32) (a3 : Int32) (σ : gx_R) (hf : Sf_takeTurn_88 a2 a3 σ = some (rr, σ')) : gx_Ev lay0 (E0 D) tt_138 (some (.int rr)) σ' 88 [.ref 0, .ref 9, .int a2, .int a3, .null, .null] [] σ := by
  unfold Sf_takeTurn_88 at hf
  rcases z_if_inv hf with ⟨h1, hf⟩ | ⟨h1, hf⟩
  · obtain ⟨r2, σ3, h4, hf⟩ := z_bd_inv hf
    rcases z_if_inv hf with ⟨h5, hf⟩ | ⟨h5, hf⟩
    · obtain ⟨e1, e2⟩ := z_ret hf
      subst e1
      subst e2
      exact gx_end 10 [.inl 0, .inr (some (.int r2), σ3), .inl 1] [¬ ¬ (a2 = (4 : Int32)), E0 D 135 [.ref 0, .int a3, .int (2 : Int32)] σ (some (.int r2)) σ3, r2 = 0] rfl ⟨(fun q => q h1), (ww_Sf_isDoing D (by omega) a3 (2 : Int32) σ r2 σ3 h4), h5, trivial⟩
    · obtain ⟨r6, σ7, h8, hf⟩ := z_bd_inv hf
      obtain ⟨⟨⟩, σ10, h11, hf⟩ := z_bd_inv hf
      obtain ⟨e1, e2⟩ := z_ret hf
      subst e1
      subst e2
      exact gx_end 17 [.inl 0, .inr (some (.int r2), σ3), .inl 0, .inr (some (.int r6), σ7), .inr (none, σ10)] [¬ ¬ (a2 = (4 : Int32)), E0 D 135 [.ref 0, .int a3, .int (2 : Int32)] σ (some (.int r2)) σ3, ¬ (r2 = 0), E0 D 40 [.ref 53, .ref 9, .int a3] σ3 (some (.int r6)) σ7, E0 D 10 [.ref 9, .int r6] σ7 (none) σ10] rfl ⟨(fun q => q h1), (ww_Sf_isDoing D (by omega) a3 (2 : Int32) σ r2 σ3 h4), h5, (ww_Cl_wokenBy D (by omega) a3 σ3 r6 σ7 h8), (ww_Ni_makeIdle D (by omega) 9 r6 σ7 () σ10 (Or.inl rfl) h11), trivial⟩
  · obtain ⟨e1, e2⟩ := z_ret hf
    subst e1
    subst e2
    exact gx_end 5 [.inl 1] [¬ (a2 = (4 : Int32))] rfl ⟨h1, trivial⟩
set_option maxHeartbeats 16000000 in
set_option maxRecDepth 20000 in
theorem vv_Sf_takeTurn_74 (D : Nat) (hD : 7 ≤ D + 1) (rr : Int32) (σ' : gx_R) (a2 : Int32) (a3 : Int32) (a4 : Int32) (σ : gx_R) (hf : Sf_takeTurn_74 a2 a3 a4 σ = some (rr, σ')) : gx_Ev lay0 (E0 D) tt_138 (some (.int rr)) σ' 74 [.ref 0, .ref 9, .int a2, .int a3, .int a4, .null] [] σ := by
  unfold Sf_takeTurn_74 at hf
  rcases z_if_inv hf with ⟨h1, hf⟩ | ⟨h1, hf⟩
  · obtain ⟨r2, σ3, h4, hf⟩ := z_bd_inv hf
    rcases z_if_inv hf with ⟨h5, hf⟩ | ⟨h5, hf⟩
    · exact gx_go_ 8 [.inl 0, .inr (some (.int r2), σ3), .inl 1] [¬ ¬ (a2 = (3 : Int32)), E0 D 135 [.ref 0, .int a3, .int (0 : Int32)] σ (some (.int r2)) σ3, r2 = 0] 88 [.ref 0, .ref 9, .int a2, .int a3, .int a4, .null] [] σ3 rfl ⟨(fun q => q h1), (ww_Sf_isDoing D (by omega) a3 (0 : Int32) σ r2 σ3 h4), h5, trivial⟩ (gx_fgt (ls' := [.ref 0, .ref 9, .int a2, .int a3, .null, .null]) ⟨Or.inr rfl, Or.inr rfl, Or.inr rfl, Or.inr rfl, Or.inl rfl, Or.inl rfl, trivial⟩ (vv_Sf_takeTurn_88 D hD rr σ' a2 a3 σ3 hf))
    · obtain ⟨⟨⟩, σ7, h8, hf⟩ := z_bd_inv hf
      obtain ⟨e1, e2⟩ := z_ret hf
      subst e1
      subst e2
      exact gx_end 16 [.inl 0, .inr (some (.int r2), σ3), .inl 0, .inr (none, σ7)] [¬ ¬ (a2 = (3 : Int32)), E0 D 135 [.ref 0, .int a3, .int (0 : Int32)] σ (some (.int r2)) σ3, ¬ (r2 = 0), E0 D 9 [.ref 9, .int a3, .int (1 : Int32), .int a4] σ3 (none) σ7] rfl ⟨(fun q => q h1), (ww_Sf_isDoing D (by omega) a3 (0 : Int32) σ r2 σ3 h4), h5, (ww_Ni_begin D (by omega) 9 a3 (1 : Int32) a4 σ3 () σ7 (Or.inl rfl) h8), trivial⟩
  · exact gx_go_ 3 [.inl 1] [¬ (a2 = (3 : Int32))] 88 [.ref 0, .ref 9, .int a2, .int a3, .int a4, .null] [] σ rfl ⟨h1, trivial⟩ (gx_fgt (ls' := [.ref 0, .ref 9, .int a2, .int a3, .null, .null]) ⟨Or.inr rfl, Or.inr rfl, Or.inr rfl, Or.inr rfl, Or.inl rfl, Or.inl rfl, trivial⟩ (vv_Sf_takeTurn_88 D hD rr σ' a2 a3 σ hf))
set_option maxHeartbeats 16000000 in
set_option maxRecDepth 20000 in
theorem vv_Sf_takeTurn_44 (D : Nat) (hD : 7 ≤ D + 1) (rr : Int32) (σ' : gx_R) (a2 : Int32) (a3 : Int32) (s0 : Int32) (σ : gx_R) (hf : Sf_takeTurn_44 a2 a3 s0 σ = some (rr, σ')) : gx_Ev lay0 (E0 D) tt_138 (some (.int rr)) σ' 44 [.ref 0, .ref 9, .int a2, .int a3, .null, .null] [.int s0] σ := by
  unfold Sf_takeTurn_44 at hf
  rcases z_if_inv hf with ⟨h1, hf⟩ | ⟨h1, hf⟩
  · exact gx_go_ 4 [.inl 1] [(3 : Int32) ≤ a2] 74 [.ref 0, .ref 9, .int a2, .int a3, .int s0, .null] [] σ rfl ⟨h1, trivial⟩ (gx_fgt (ls' := [.ref 0, .ref 9, .int a2, .int a3, .int s0, .null]) ⟨Or.inr rfl, Or.inr rfl, Or.inr rfl, Or.inr rfl, Or.inr rfl, Or.inl rfl, trivial⟩ (vv_Sf_takeTurn_74 D hD rr σ' a2 a3 s0 σ hf))
  · obtain ⟨r2, σ3, h4, hf⟩ := z_bd_inv hf
    rcases z_if_inv hf with ⟨h5, hf⟩ | ⟨h5, hf⟩
    · exact gx_go_ 9 [.inl 0, .inr (some (.int r2), σ3), .inl 1] [¬ ((3 : Int32) ≤ a2), E0 D 135 [.ref 0, .int a3, .int (0 : Int32)] σ (some (.int r2)) σ3, r2 = 0] 74 [.ref 0, .ref 9, .int a2, .int a3, .int s0, .null] [] σ3 rfl ⟨h1, (ww_Sf_isDoing D (by omega) a3 (0 : Int32) σ r2 σ3 h4), h5, trivial⟩ (gx_fgt (ls' := [.ref 0, .ref 9, .int a2, .int a3, .int s0, .null]) ⟨Or.inr rfl, Or.inr rfl, Or.inr rfl, Or.inr rfl, Or.inr rfl, Or.inl rfl, trivial⟩ (vv_Sf_takeTurn_74 D hD rr σ' a2 a3 s0 σ3 hf))
    · obtain ⟨h6, hf⟩ := z_ck_inv hf
      obtain ⟨r7, σ8, h9, hf⟩ := z_bd_inv hf
      obtain ⟨r10, σ11, h12, hf⟩ := z_bd_inv hf
      rcases z_if_inv hf with ⟨h13, hf⟩ | ⟨h13, hf⟩
      · exact gx_go_ 24 [.inl 0, .inr (some (.int r2), σ3), .inl 0, .inr (some (.int r7), σ8), .inr (some (.int r10), σ11), .inl 1] [¬ ((3 : Int32) ≤ a2), E0 D 135 [.ref 0, .int a3, .int (0 : Int32)] σ (some (.int r2)) σ3, ¬ (r2 = 0), vp_in a3 8, E0 D 7 [.ref 9, .int (1 : Int32)] σ3 (some (.int r7)) σ8, E0 D 141 [.int ((σ3 5 a3.toNatClampNeg) &&& r7)] σ8 (some (.int r10)) σ11, r10 = (-1 : Int32)] 73 [.ref 0, .ref 9, .int a2, .int a3, .int s0, .int r10] [] σ11 rfl ⟨h1, (ww_Sf_isDoing D (by omega) a3 (0 : Int32) σ r2 σ3 h4), h5, (z_ix_in h6), (ww_Ni_those D (by omega) 9 (1 : Int32) σ3 r7 σ8 (Or.inl rfl) h9), (ww_Sf_lowestOf D (by omega) ((σ3 5 a3.toNatClampNeg) &&& r7) σ8 r10 σ11 h12), h13, trivial⟩ (gx_fgt (ls' := [.null, .null, .null, .null, .null, .null]) ⟨Or.inl rfl, Or.inl rfl, Or.inl rfl, Or.inl rfl, Or.inl rfl, Or.inl rfl, trivial⟩ (vv_Sf_takeTurn_73 D hD rr σ' σ11 hf))
      · obtain ⟨⟨⟩, σ15, h16, hf⟩ := z_bd_inv hf
        exact gx_go_ 29 [.inl 0, .inr (some (.int r2), σ3), .inl 0, .inr (some (.int r7), σ8), .inr (some (.int r10), σ11), .inl 0, .inr (none, σ15)] [¬ ((3 : Int32) ≤ a2), E0 D 135 [.ref 0, .int a3, .int (0 : Int32)] σ (some (.int r2)) σ3, ¬ (r2 = 0), vp_in a3 8, E0 D 7 [.ref 9, .int (1 : Int32)] σ3 (some (.int r7)) σ8, E0 D 141 [.int ((σ3 5 a3.toNatClampNeg) &&& r7)] σ8 (some (.int r10)) σ11, ¬ (r10 = (-1 : Int32)), E0 D 9 [.ref 9, .int a3, .int (2 : Int32), .int r10] σ11 (none) σ15] 73 [.ref 0, .ref 9, .int a2, .int a3, .int s0, .int r10] [] σ15 rfl ⟨h1, (ww_Sf_isDoing D (by omega) a3 (0 : Int32) σ r2 σ3 h4), h5, (z_ix_in h6), (ww_Ni_those D (by omega) 9 (1 : Int32) σ3 r7 σ8 (Or.inl rfl) h9), (ww_Sf_lowestOf D (by omega) ((σ3 5 a3.toNatClampNeg) &&& r7) σ8 r10 σ11 h12), h13, (ww_Ni_begin D (by omega) 9 a3 (2 : Int32) r10 σ11 () σ15 (Or.inl rfl) h16), trivial⟩ (gx_fgt (ls' := [.null, .null, .null, .null, .null, .null]) ⟨Or.inl rfl, Or.inl rfl, Or.inl rfl, Or.inl rfl, Or.inl rfl, Or.inl rfl, trivial⟩ (vv_Sf_takeTurn_73 D hD rr σ' σ15 hf))
set_option maxHeartbeats 16000000 in
set_option maxRecDepth 20000 in
theorem vv_Sf_takeTurn_26 (D : Nat) (hD : 7 ≤ D + 1) (rr : Int32) (σ' : gx_R) (a2 : Int32) (σ : gx_R) (hf : Sf_takeTurn_26 a2 σ = some (rr, σ')) : gx_Ev lay0 (E0 D) tt_138 (some (.int rr)) σ' 26 [.ref 0, .ref 9, .int a2, .null, .null, .null] [] σ := by
  unfold Sf_takeTurn_26 at hf
  obtain ⟨r1, σ2, h3, hf⟩ := z_bd_inv hf
  rcases z_if_inv hf with ⟨h4, hf⟩ | ⟨h4, hf⟩
  · obtain ⟨r5, σ6, h7, hf⟩ := z_bd_inv hf
    exact gx_go_ 17 [.inr (some (.int r1), σ2), .inl 0, .inr (some (.int r5), σ6)] [E0 D 11 [.ref 9, .int (σ 2 0)] σ (some (.int r1)) σ2, ¬ ¬ (a2 = (3 : Int32)), E0 D 11 [.ref 9, .int (σ2 2 1)] σ2 (some (.int r5)) σ6] 44 [.ref 0, .ref 9, .int a2, .int r1, .null, .null] [.int r5] σ6 rfl ⟨(ww_Ni_draw D (by omega) 9 (σ 2 0) σ r1 σ2 (Or.inl rfl) h3), (fun q => q h4), (ww_Ni_draw D (by omega) 9 (σ2 2 1) σ2 r5 σ6 (Or.inl rfl) h7), trivial⟩ (gx_fgt (ls' := [.ref 0, .ref 9, .int a2, .int r1, .null, .null]) ⟨Or.inr rfl, Or.inr rfl, Or.inr rfl, Or.inr rfl, Or.inl rfl, Or.inl rfl, trivial⟩ (vv_Sf_takeTurn_44 D hD rr σ' a2 r1 r5 σ6 hf))
  · exact gx_go_ 11 [.inr (some (.int r1), σ2), .inl 1] [E0 D 11 [.ref 9, .int (σ 2 0)] σ (some (.int r1)) σ2, ¬ (a2 = (3 : Int32))] 44 [.ref 0, .ref 9, .int a2, .int r1, .null, .null] [.int (-1 : Int32)] σ2 rfl ⟨(ww_Ni_draw D (by omega) 9 (σ 2 0) σ r1 σ2 (Or.inl rfl) h3), h4, trivial⟩ (gx_fgt (ls' := [.ref 0, .ref 9, .int a2, .int r1, .null, .null]) ⟨Or.inr rfl, Or.inr rfl, Or.inr rfl, Or.inr rfl, Or.inl rfl, Or.inl rfl, trivial⟩ (vv_Sf_takeTurn_44 D hD rr σ' a2 r1 (-1 : Int32) σ2 hf))
set_option maxHeartbeats 16000000 in
set_option maxRecDepth 20000 in
theorem vv_Sf_takeTurn_E (D : Nat) (hD : 7 ≤ D + 1) (rr : Int32) (σ' : gx_R) (σ : gx_R) (hf : Sf_takeTurn  σ = some (rr, σ')) : gx_Ev lay0 (E0 D) tt_138 (some (.int rr)) σ' 0 [.ref 0, .null, .null, .null, .null, .null] [] σ := by
  unfold Sf_takeTurn at hf
  obtain ⟨r1, σ2, h3, hf⟩ := z_bd_inv hf
  rcases z_if_inv hf with ⟨h4, hf⟩ | ⟨h4, hf⟩
  · rcases z_if_inv hf with ⟨h5, hf⟩ | ⟨h5, hf⟩
    · rcases z_if_inv hf with ⟨h6, hf⟩ | ⟨h6, hf⟩
      · obtain ⟨e1, e2⟩ := z_ret hf
        subst e1
        subst e2
        exact gx_end 21 [.inr (some (.int r1), σ2), .inl 1, .inl 0, .inl 0] [E0 D 11 [.ref 9, .int (8 : Int32)] σ (some (.int r1)) σ2, r1 ≤ (4 : Int32), ¬ ¬ (r1 = (3 : Int32)), ¬ ¬ ((σ2 2 1) = 0)] rfl ⟨(ww_Ni_draw D (by omega) 9 (8 : Int32) σ r1 σ2 (Or.inl rfl) h3), h4, (fun q => q h5), (fun q => q h6), trivial⟩
      · exact gx_go_ 19 [.inr (some (.int r1), σ2), .inl 1, .inl 0, .inl 1] [E0 D 11 [.ref 9, .int (8 : Int32)] σ (some (.int r1)) σ2, r1 ≤ (4 : Int32), ¬ ¬ (r1 = (3 : Int32)), ¬ ((σ2 2 1) = 0)] 26 [.ref 0, .ref 9, .int r1, .null, .null, .null] [] σ2 rfl ⟨(ww_Ni_draw D (by omega) 9 (8 : Int32) σ r1 σ2 (Or.inl rfl) h3), h4, (fun q => q h5), h6, trivial⟩ (gx_fgt (ls' := [.ref 0, .ref 9, .int r1, .null, .null, .null]) ⟨Or.inr rfl, Or.inr rfl, Or.inr rfl, Or.inl rfl, Or.inl rfl, Or.inl rfl, trivial⟩ (vv_Sf_takeTurn_26 D hD rr σ' r1 σ2 hf))
    · exact gx_go_ 14 [.inr (some (.int r1), σ2), .inl 1, .inl 1] [E0 D 11 [.ref 9, .int (8 : Int32)] σ (some (.int r1)) σ2, r1 ≤ (4 : Int32), ¬ (r1 = (3 : Int32))] 26 [.ref 0, .ref 9, .int r1, .null, .null, .null] [] σ2 rfl ⟨(ww_Ni_draw D (by omega) 9 (8 : Int32) σ r1 σ2 (Or.inl rfl) h3), h4, h5, trivial⟩ (gx_fgt (ls' := [.ref 0, .ref 9, .int r1, .null, .null, .null]) ⟨Or.inr rfl, Or.inr rfl, Or.inr rfl, Or.inl rfl, Or.inl rfl, Or.inl rfl, trivial⟩ (vv_Sf_takeTurn_26 D hD rr σ' r1 σ2 hf))
  · obtain ⟨r7, σ8, h9, hf⟩ := z_bd_inv hf
    obtain ⟨e1, e2⟩ := z_ret hf
    subst e1
    subst e2
    exact gx_end 16 [.inr (some (.int r1), σ2), .inl 0, .inr (some (.int r7), σ8)] [E0 D 11 [.ref 9, .int (8 : Int32)] σ (some (.int r1)) σ2, ¬ (r1 ≤ (4 : Int32)), E0 D 137 [.ref 0, .int (1 : Int32), .int (0 : Int32)] σ2 (some (.int r7)) σ8] rfl ⟨(ww_Ni_draw D (by omega) 9 (8 : Int32) σ r1 σ2 (Or.inl rfl) h3), h4, (ww_Sf_passHours D (by omega) (1 : Int32) (0 : Int32) σ2 r7 σ8 h9), trivial⟩
set_option maxHeartbeats 16000000 in
set_option maxRecDepth 20000 in
theorem ww_Sf_takeTurn (D : Nat) (hD : 7 ≤ D) (σ : gx_R) (rr : Int32) (σ' : gx_R) (hf : Sf_takeTurn  σ = some (rr, σ')) : E0 D 138 [.ref 0] σ (some (.int rr)) σ' := by
  cases D with
  | zero => omega
  | succ D => exact Or.inl ⟨Nat.le_of_ble_eq_true rfl, vv_Sf_takeTurn_E D hD rr σ' σ hf⟩
set_option maxHeartbeats 16000000 in
set_option maxRecDepth 20000 in
theorem vv_Sf_year_44_B (D : Nat) (hD : 8 ≤ D + 1) (rr : Int32) (σ' : gx_R) (K44 : Int32 → Int32 → Int32 → gx_R → Option (Int32 × gx_R)) (hK44 : ∀ (a2 : Int32) (a4 : Int32) (a5 : Int32) (σ : gx_R), K44 a2 a4 a5 σ = some (rr, σ') → gx_Ev lay0 (E0 D) tt_105 (some (.int rr)) σ' 44 [.ref 0, .null, .int a2, .null, .int a4, .int a5] [] σ) (a2 : Int32) (a4 : Int32) (a5 : Int32) (σ : gx_R) (hf : Sf_year_44_B K44 a2 a4 a5 σ = some (rr, σ')) : gx_Ev lay0 (E0 D) tt_105 (some (.int rr)) σ' 44 [.ref 0, .null, .int a2, .null, .int a4, .int a5] [] σ := by
  unfold Sf_year_44_B at hf
  rcases z_if_inv hf with ⟨h1, hf⟩ | ⟨h1, hf⟩
  · obtain ⟨e1, e2⟩ := z_ret hf
    subst e1
    subst e2
    exact gx_end 5 [.inl 1] [a2 ≤ a5] rfl ⟨h1, trivial⟩
  · obtain ⟨r2, σ3, h4, hf⟩ := z_bd_inv hf
    exact gx_go_ 10 [.inl 0, .inr (some (.int r2), σ3)] [¬ (a2 ≤ a5), E0 D 138 [.ref 0] σ (some (.int r2)) σ3] 44 [.ref 0, .null, .int a2, .null, .int (a4 + r2), .int (a5 + 1)] [] σ3 rfl ⟨h1, (ww_Sf_takeTurn D (by omega) σ r2 σ3 h4), trivial⟩ (gx_fgt (ls' := [.ref 0, .null, .int a2, .null, .int (a4 + r2), .int (a5 + 1)]) ⟨Or.inr rfl, Or.inl rfl, Or.inr rfl, Or.inl rfl, Or.inr rfl, Or.inr rfl, trivial⟩ (hK44 a2 (a4 + r2) (a5 + 1) σ3 hf))
set_option maxHeartbeats 16000000 in
set_option maxRecDepth 20000 in
theorem vv_Sf_year_44 (D : Nat) (hD : 8 ≤ D + 1) (rr : Int32) (σ' : gx_R) : ∀ (n : Nat) (a2 : Int32) (a4 : Int32) (a5 : Int32) (σ : gx_R), Sf_year_44 n a2 a4 a5 σ = some (rr, σ') → gx_Ev lay0 (E0 D) tt_105 (some (.int rr)) σ' 44 [.ref 0, .null, .int a2, .null, .int a4, .int a5] [] σ := by
  intro n
  induction n with
  | zero => intro a2 a4 a5 σ  hf; cases hf
  | succ n ih => intro a2 a4 a5 σ  hf; exact vv_Sf_year_44_B D hD rr σ'  (Sf_year_44 n) ih a2 a4 a5 σ  hf
set_option maxHeartbeats 16000000 in
set_option maxRecDepth 20000 in
theorem vv_Sf_year_13 (D : Nat) (hD : 8 ≤ D + 1) (rr : Int32) (σ' : gx_R) (K14 : Int32 → Int32 → Int32 → gx_R → Option (Int32 × gx_R)) (hK14 : ∀ (a1 : Int32) (a2 : Int32) (s0 : Int32) (σ : gx_R), K14 a1 a2 s0 σ = some (rr, σ') → gx_Ev lay0 (E0 D) tt_105 (some (.int rr)) σ' 14 [.ref 0, .int a1, .int a2, .null, .null, .null] [.int s0] σ) (a1 : Int32) (a2 : Int32) (σ : gx_R) (hf : Sf_year_13 K14 a1 a2 σ = some (rr, σ')) : gx_Ev lay0 (E0 D) tt_105 (some (.int rr)) σ' 13 [.ref 0, .int a1, .int a2, .null, .null, .null] [] σ := by
  unfold Sf_year_13 at hf
  exact gx_go_ 1 [] [] 14 [.ref 0, .int a1, .int a2, .null, .null, .null] [.int (0 : Int32)] σ rfl trivial (gx_fgt (ls' := [.ref 0, .int a1, .int a2, .null, .null, .null]) ⟨Or.inr rfl, Or.inr rfl, Or.inr rfl, Or.inl rfl, Or.inl rfl, Or.inl rfl, trivial⟩ (hK14 a1 a2 (0 : Int32) σ hf))
set_option maxHeartbeats 16000000 in
set_option maxRecDepth 20000 in
theorem vv_Sf_year_14 (D : Nat) (hD : 8 ≤ D + 1) (rr : Int32) (σ' : gx_R) (a1 : Int32) (a2 : Int32) (s0 : Int32) (σ : gx_R) (hf : Sf_year_14 a1 a2 s0 σ = some (rr, σ')) : gx_Ev lay0 (E0 D) tt_105 (some (.int rr)) σ' 14 [.ref 0, .int a1, .int a2, .null, .null, .null] [.int s0] σ := by
  unfold Sf_year_14 at hf
  rcases z_if_inv hf with ⟨h1, hf⟩ | ⟨h1, hf⟩
  · obtain ⟨e1, e2⟩ := z_ret hf
    subst e1
    subst e2
    exact gx_end 5 [.inl 1] [s0 = 0] rfl ⟨h1, trivial⟩
  · rcases z_if_inv hf with ⟨h2, hf⟩ | ⟨h2, hf⟩
    · obtain ⟨e1, e2⟩ := z_ret hf
      subst e1
      subst e2
      exact gx_end 10 [.inl 0, .inl 0] [¬ (s0 = 0), ¬ ¬ ((σ 2 0) = 0)] rfl ⟨h1, (fun q => q h2), trivial⟩
    · obtain ⟨⟨⟩, σ4, h5, hf⟩ := z_bd_inv hf
      exact gx_go_ 28 [.inl 0, .inl 1, .inr (none, σ4)] [¬ (s0 = 0), ¬ ((σ 2 0) = 0), E0 D 19 [.ref 16, .ref 9] σ (none) σ4] 44 [.ref 0, .int a1, .int a2, .int s0, .int (0 : Int32), .int (0 : Int32)] [] (gx_up σ4 9 7 ((a1 * (2 : Int32)) + (43 : Int32))) rfl ⟨h1, h2, (ww_St_push D (by omega) σ () σ4 h5), trivial⟩ (gx_fgt (ls' := [.ref 0, .null, .int a2, .null, .int (0 : Int32), .int (0 : Int32)]) ⟨Or.inr rfl, Or.inl rfl, Or.inr rfl, Or.inl rfl, Or.inr rfl, Or.inr rfl, trivial⟩ (vv_Sf_year_44 D hD rr σ' z_FU a2 (0 : Int32) (0 : Int32) (gx_up σ4 9 7 ((a1 * (2 : Int32)) + (43 : Int32))) hf))
set_option maxHeartbeats 16000000 in
set_option maxRecDepth 20000 in
theorem vv_Sf_year_E (D : Nat) (hD : 8 ≤ D + 1) (rr : Int32) (σ' : gx_R) (a1 : Int32) (a2 : Int32) (σ : gx_R) (hf : Sf_year a1 a2 σ = some (rr, σ')) : gx_Ev lay0 (E0 D) tt_105 (some (.int rr)) σ' 0 [.ref 0, .int a1, .int a2, .null, .null, .null] [] σ := by
  unfold Sf_year at hf
  rcases z_if_inv hf with ⟨h1, hf⟩ | ⟨h1, hf⟩
  · exact gx_go_ 2 [.inl 1] [a1 < 0] 13 [.ref 0, .int a1, .int a2, .null, .null, .null] [] σ rfl ⟨h1, trivial⟩ (gx_fgt (ls' := [.ref 0, .int a1, .int a2, .null, .null, .null]) ⟨Or.inr rfl, Or.inr rfl, Or.inr rfl, Or.inl rfl, Or.inl rfl, Or.inl rfl, trivial⟩ (vv_Sf_year_13 D hD rr σ' (Sf_year_14) (vv_Sf_year_14 D hD rr σ') a1 a2 σ hf))
  · rcases z_if_inv hf with ⟨h2, hf⟩ | ⟨h2, hf⟩
    · exact gx_go_ 5 [.inl 0, .inl 1] [¬ (a1 < 0), (9999 : Int32) < a1] 13 [.ref 0, .int a1, .int a2, .null, .null, .null] [] σ rfl ⟨h1, h2, trivial⟩ (gx_fgt (ls' := [.ref 0, .int a1, .int a2, .null, .null, .null]) ⟨Or.inr rfl, Or.inr rfl, Or.inr rfl, Or.inl rfl, Or.inl rfl, Or.inl rfl, trivial⟩ (vv_Sf_year_13 D hD rr σ' (Sf_year_14) (vv_Sf_year_14 D hD rr σ') a1 a2 σ hf))
    · rcases z_if_inv hf with ⟨h3, hf⟩ | ⟨h3, hf⟩
      · exact gx_go_ 8 [.inl 0, .inl 0, .inl 1] [¬ (a1 < 0), ¬ ((9999 : Int32) < a1), a2 < (1 : Int32)] 13 [.ref 0, .int a1, .int a2, .null, .null, .null] [] σ rfl ⟨h1, h2, h3, trivial⟩ (gx_fgt (ls' := [.ref 0, .int a1, .int a2, .null, .null, .null]) ⟨Or.inr rfl, Or.inr rfl, Or.inr rfl, Or.inl rfl, Or.inl rfl, Or.inl rfl, trivial⟩ (vv_Sf_year_13 D hD rr σ' (Sf_year_14) (vv_Sf_year_14 D hD rr σ') a1 a2 σ hf))
      · rcases z_if_inv hf with ⟨h4, hf⟩ | ⟨h4, hf⟩
        · exact gx_go_ 11 [.inl 0, .inl 0, .inl 0, .inl 1] [¬ (a1 < 0), ¬ ((9999 : Int32) < a1), ¬ (a2 < (1 : Int32)), (30 : Int32) < a2] 13 [.ref 0, .int a1, .int a2, .null, .null, .null] [] σ rfl ⟨h1, h2, h3, h4, trivial⟩ (gx_fgt (ls' := [.ref 0, .int a1, .int a2, .null, .null, .null]) ⟨Or.inr rfl, Or.inr rfl, Or.inr rfl, Or.inl rfl, Or.inl rfl, Or.inl rfl, trivial⟩ (vv_Sf_year_13 D hD rr σ' (Sf_year_14) (vv_Sf_year_14 D hD rr σ') a1 a2 σ hf))
        · exact gx_go_ 13 [.inl 0, .inl 0, .inl 0, .inl 0] [¬ (a1 < 0), ¬ ((9999 : Int32) < a1), ¬ (a2 < (1 : Int32)), ¬ ((30 : Int32) < a2)] 14 [.ref 0, .int a1, .int a2, .null, .null, .null] [.int (1 : Int32)] σ rfl ⟨h1, h2, h3, h4, trivial⟩ (gx_fgt (ls' := [.ref 0, .int a1, .int a2, .null, .null, .null]) ⟨Or.inr rfl, Or.inr rfl, Or.inr rfl, Or.inl rfl, Or.inl rfl, Or.inl rfl, trivial⟩ (vv_Sf_year_14 D hD rr σ' a1 a2 (1 : Int32) σ hf))
set_option maxHeartbeats 16000000 in
set_option maxRecDepth 20000 in
theorem ww_Sf_year (D : Nat) (hD : 8 ≤ D) (a1 : Int32) (a2 : Int32) (σ : gx_R) (rr : Int32) (σ' : gx_R) (hf : Sf_year a1 a2 σ = some (rr, σ')) : E0 D 105 [.ref 0, .int a1, .int a2] σ (some (.int rr)) σ' := by
  cases D with
  | zero => omega
  | succ D => exact Or.inl ⟨Nat.le_of_ble_eq_true rfl, vv_Sf_year_E D hD rr σ' a1 a2 σ hf⟩
set_option maxHeartbeats 16000000 in
set_option maxRecDepth 20000 in
theorem vv_Sf_putBytes_2_B (D : Nat) (hD : 1 ≤ D + 1) (rr : Unit) (σ' : gx_R) (K2 : Int32 → Int32 → gx_R → Option (Unit × gx_R)) (hK2 : ∀ (a1 : Int32) (a2 : Int32) (σ : gx_R), K2 a1 a2 σ = some (rr, σ') → gx_Ev lay0 (E0 D) tt_140 none σ' 2 [.ref 0, .int a1, .int a2] [] σ) (a1 : Int32) (a2 : Int32) (σ : gx_R) (hf : Sf_putBytes_2_B K2 a1 a2 σ = some (rr, σ')) : gx_Ev lay0 (E0 D) tt_140 none σ' 2 [.ref 0, .int a1, .int a2] [] σ := by
  unfold Sf_putBytes_2_B at hf
  rcases z_if_inv hf with ⟨h1, hf⟩ | ⟨h1, hf⟩
  · obtain ⟨e1, e2⟩ := z_ret hf
    subst e1
    subst e2
    exact gx_end 3 [.inl 1] [a2 < 0] rfl ⟨h1, trivial⟩
  · rcases z_if_inv hf with ⟨h2, hf⟩ | ⟨h2, hf⟩
    · obtain ⟨e1, e2⟩ := z_ret hf
      subst e1
      subst e2
      exact gx_end 9 [.inl 0, .inl 1] [¬ (a2 < 0), (nI 300) ≤ (σ 0 4)] rfl ⟨h1, h2, trivial⟩
    · obtain ⟨h3, hf⟩ := z_ck_inv hf
      exact gx_go_ 26 [.inl 0, .inl 0] [¬ (a2 < 0), ¬ ((nI 300) ≤ (σ 0 4)), vp_in (σ 0 4) 300] 2 [.ref 0, .int a1, .int (a2 + (-8))] [] (gx_up (gx_up σ 38 (σ 0 4).toNatClampNeg ((a1 >>> (a2 &&& 31)) &&& (255 : Int32))) 0 4 (((gx_up σ 38 (σ 0 4).toNatClampNeg ((a1 >>> (a2 &&& 31)) &&& (255 : Int32))) 0 4) + (1 : Int32))) rfl ⟨h1, h2, (z_ix_in h3), trivial⟩ (gx_fgt (ls' := [.ref 0, .int a1, .int (a2 + (-8))]) ⟨Or.inr rfl, Or.inr rfl, Or.inr rfl, trivial⟩ (hK2 a1 (a2 + (-8)) (gx_up (gx_up σ 38 (σ 0 4).toNatClampNeg ((a1 >>> (a2 &&& 31)) &&& (255 : Int32))) 0 4 (((gx_up σ 38 (σ 0 4).toNatClampNeg ((a1 >>> (a2 &&& 31)) &&& (255 : Int32))) 0 4) + (1 : Int32))) hf))
set_option maxHeartbeats 16000000 in
set_option maxRecDepth 20000 in
theorem vv_Sf_putBytes_2 (D : Nat) (hD : 1 ≤ D + 1) (rr : Unit) (σ' : gx_R) : ∀ (n : Nat) (a1 : Int32) (a2 : Int32) (σ : gx_R), Sf_putBytes_2 n a1 a2 σ = some (rr, σ') → gx_Ev lay0 (E0 D) tt_140 none σ' 2 [.ref 0, .int a1, .int a2] [] σ := by
  intro n
  induction n with
  | zero => intro a1 a2 σ  hf; cases hf
  | succ n ih => intro a1 a2 σ  hf; exact vv_Sf_putBytes_2_B D hD rr σ'  (Sf_putBytes_2 n) ih a1 a2 σ  hf
set_option maxHeartbeats 16000000 in
set_option maxRecDepth 20000 in
theorem vv_Sf_putBytes_E (D : Nat) (hD : 1 ≤ D + 1) (rr : Unit) (σ' : gx_R) (a1 : Int32) (σ : gx_R) (hf : Sf_putBytes a1 σ = some (rr, σ')) : gx_Ev lay0 (E0 D) tt_140 none σ' 0 [.ref 0, .int a1, .null] [] σ := by
  unfold Sf_putBytes at hf
  exact gx_go_ 2 [] [] 2 [.ref 0, .int a1, .int (24 : Int32)] [] σ rfl trivial (gx_fgt (ls' := [.ref 0, .int a1, .int (24 : Int32)]) ⟨Or.inr rfl, Or.inr rfl, Or.inr rfl, trivial⟩ (vv_Sf_putBytes_2 D hD rr σ' z_FU a1 (24 : Int32) σ hf))
set_option maxHeartbeats 16000000 in
set_option maxRecDepth 20000 in
theorem ww_Sf_putBytes (D : Nat) (hD : 1 ≤ D) (a1 : Int32) (σ : gx_R) (rr : Unit) (σ' : gx_R) (hf : Sf_putBytes a1 σ = some (rr, σ')) : E0 D 140 [.ref 0, .int a1] σ none σ' := by
  cases D with
  | zero => omega
  | succ D => exact Or.inl ⟨Nat.le_of_ble_eq_true rfl, vv_Sf_putBytes_E D hD rr σ' a1 σ hf⟩
set_option maxHeartbeats 16000000 in
set_option maxRecDepth 20000 in
theorem vv_Sf_feed_E (D : Nat) (hD : 2 ≤ D + 1) (rr : Int32) (σ' : gx_R) (a1 : Int32) (a2 : Int32) (a3 : Int32) (a4 : Int32) (a5 : Int32) (σ : gx_R) (hf : Sf_feed a1 a2 a3 a4 a5 σ = some (rr, σ')) : gx_Ev lay0 (E0 D) tt_106 (some (.int rr)) σ' 0 [.ref 0, .int a1, .int a2, .int a3, .int a4, .int a5] [] σ := by
  unfold Sf_feed at hf
  rcases z_if_inv hf with ⟨h1, hf⟩ | ⟨h1, hf⟩
  · obtain ⟨⟨⟩, σ3, h4, hf⟩ := z_bd_inv hf
    obtain ⟨⟨⟩, σ6, h7, hf⟩ := z_bd_inv hf
    obtain ⟨⟨⟩, σ9, h10, hf⟩ := z_bd_inv hf
    obtain ⟨⟨⟩, σ12, h13, hf⟩ := z_bd_inv hf
    obtain ⟨⟨⟩, σ15, h16, hf⟩ := z_bd_inv hf
    obtain ⟨e1, e2⟩ := z_ret hf
    subst e1
    subst e2
    exact gx_end 22 [.inl 1, .inr (none, σ3), .inr (none, σ6), .inr (none, σ9), .inr (none, σ12), .inr (none, σ15)] [(σ 0 4) ≤ (280 : Int32), E0 D 140 [.ref 0, .int a1] σ (none) σ3, E0 D 140 [.ref 0, .int a2] σ3 (none) σ6, E0 D 140 [.ref 0, .int a3] σ6 (none) σ9, E0 D 140 [.ref 0, .int a4] σ9 (none) σ12, E0 D 140 [.ref 0, .int a5] σ12 (none) σ15] rfl ⟨h1, (ww_Sf_putBytes D (by omega) a1 σ () σ3 h4), (ww_Sf_putBytes D (by omega) a2 σ3 () σ6 h7), (ww_Sf_putBytes D (by omega) a3 σ6 () σ9 h10), (ww_Sf_putBytes D (by omega) a4 σ9 () σ12 h13), (ww_Sf_putBytes D (by omega) a5 σ12 () σ15 h16), trivial⟩
  · obtain ⟨e1, e2⟩ := z_ret hf
    subst e1
    subst e2
    exact gx_end 6 [.inl 0] [¬ ((σ 0 4) ≤ (280 : Int32))] rfl ⟨h1, trivial⟩
set_option maxHeartbeats 16000000 in
set_option maxRecDepth 20000 in
theorem ww_Sf_feed (D : Nat) (hD : 2 ≤ D) (a1 : Int32) (a2 : Int32) (a3 : Int32) (a4 : Int32) (a5 : Int32) (σ : gx_R) (rr : Int32) (σ' : gx_R) (hf : Sf_feed a1 a2 a3 a4 a5 σ = some (rr, σ')) : E0 D 106 [.ref 0, .int a1, .int a2, .int a3, .int a4, .int a5] σ (some (.int rr)) σ' := by
  cases D with
  | zero => omega
  | succ D => exact Or.inl ⟨Nat.le_of_ble_eq_true rfl, vv_Sf_feed_E D hD rr σ' a1 a2 a3 a4 a5 σ hf⟩
set_option maxHeartbeats 16000000 in
set_option maxRecDepth 20000 in
theorem vv_Sf_end_E (D : Nat) (hD : 1 ≤ D + 1) (rr : Int32) (σ' : gx_R) (a1 : Int32) (σ : gx_R) (hf : Sf_end a1 σ = some (rr, σ')) : gx_Ev lay0 (E0 D) tt_107 (some (.int rr)) σ' 0 [.ref 0, .int a1] [] σ := by
  unfold Sf_end at hf
  rcases z_if_inv hf with ⟨h1, hf⟩ | ⟨h1, hf⟩
  · obtain ⟨e1, e2⟩ := z_ret hf
    subst e1
    subst e2
    exact gx_end 4 [.inl 1] [a1 < 0] rfl ⟨h1, trivial⟩
  · rcases z_if_inv hf with ⟨h2, hf⟩ | ⟨h2, hf⟩
    · obtain ⟨e1, e2⟩ := z_ret hf
      subst e1
      subst e2
      exact gx_end 11 [.inl 0, .inl 1] [¬ (a1 < 0), a1 ≤ (σ 0 4)] rfl ⟨h1, h2, trivial⟩
    · obtain ⟨e1, e2⟩ := z_ret hf
      subst e1
      subst e2
      exact gx_end 8 [.inl 0, .inl 0] [¬ (a1 < 0), ¬ (a1 ≤ (σ 0 4))] rfl ⟨h1, h2, trivial⟩
set_option maxHeartbeats 16000000 in
set_option maxRecDepth 20000 in
theorem ww_Sf_end (D : Nat) (hD : 1 ≤ D) (a1 : Int32) (σ : gx_R) (rr : Int32) (σ' : gx_R) (hf : Sf_end a1 σ = some (rr, σ')) : E0 D 107 [.ref 0, .int a1] σ (some (.int rr)) σ' := by
  cases D with
  | zero => omega
  | succ D => exact Or.inl ⟨Nat.le_of_ble_eq_true rfl, vv_Sf_end_E D hD rr σ' a1 σ hf⟩
set_option maxHeartbeats 16000000 in
set_option maxRecDepth 20000 in
theorem vv_Sf_text_E (D : Nat) (hD : 126 ≤ D + 1) (rr : Int32) (σ' : gx_R) (σ : gx_R) (hf : Sf_text  σ = some (rr, σ')) : gx_Ev lay0 (E0 D) tt_108 (some (.int rr)) σ' 0 [.ref 0, .null, .null] [] σ := by
  unfold Sf_text at hf
  rcases z_if_inv hf with ⟨h1, hf⟩ | ⟨h1, hf⟩
  · obtain ⟨e1, e2⟩ := z_ret hf
    subst e1
    subst e2
    exact gx_end 8 [.inl 1] [(σ 1 4) < 0] rfl ⟨h1, trivial⟩
  · rcases z_if_inv hf with ⟨h2, hf⟩ | ⟨h2, hf⟩
    · obtain ⟨r3, σ4, h5, hf⟩ := z_bd_inv hf
      rcases z_if_inv hf with ⟨h6, hf⟩ | ⟨h6, hf⟩
      · obtain ⟨e1, e2⟩ := z_ret hf
        subst e1
        subst e2
        exact gx_end 24 [.inl 0, .inl 1, .inr (some (.int r3), σ4), .inl 0] [¬ ((σ 1 4) < 0), (σ 1 4) < (nI 4), E0 D 70 [.ref 39, .int (σ 0 4)] σ (some (.int r3)) σ4, ¬ ¬ (r3 = 0)] rfl ⟨h1, h2, (ww_Re_read D (by omega) (σ 0 4) σ r3 σ4 h5), (fun q => q h6), trivial⟩
      · obtain ⟨h7, hf⟩ := z_ck_inv hf
        rcases z_ix4 h7 with h7 | h7 | h7 | h7
        · have he : (81 + 7 * (σ 1 4).toNatClampNeg) = 81 := by rw [h7]; rfl
          rw [he] at hf
          obtain ⟨⟨⟩, σ12, h13, hf⟩ := z_bd_inv hf
          obtain ⟨e1, e2⟩ := z_ret hf
          subst e1
          subst e2
          exact gx_end 38 [.inl 0, .inl 1, .inr (some (.int r3), σ4), .inl 1, .inl 0, .inr (none, σ12)] [¬ ((σ 1 4) < 0), (σ 1 4) < (nI 4), E0 D 70 [.ref 39, .int (σ 0 4)] σ (some (.int r3)) σ4, ¬ (r3 = 0), (σ 1 4) = nI 0 ∧ 0 < 4 ∧ 4 < 2 ^ 31, E0 D 18 [.ref 81, .ref 43] (gx_up σ4 0 4 (0 : Int32)) (none) σ12] rfl ⟨h1, h2, (ww_Re_read D (by omega) (σ 0 4) σ r3 σ4 h5), h6, ⟨h7, by decide, by decide⟩, (ww_Te_copy D (by omega) 81 (gx_up σ4 0 4 (0 : Int32)) () σ12 (Or.inl rfl) h13), trivial⟩
        · have he : (81 + 7 * (σ 1 4).toNatClampNeg) = 88 := by rw [h7]; rfl
          rw [he] at hf
          obtain ⟨⟨⟩, σ15, h16, hf⟩ := z_bd_inv hf
          obtain ⟨e1, e2⟩ := z_ret hf
          subst e1
          subst e2
          exact gx_end 38 [.inl 0, .inl 1, .inr (some (.int r3), σ4), .inl 1, .inl 1, .inr (none, σ15)] [¬ ((σ 1 4) < 0), (σ 1 4) < (nI 4), E0 D 70 [.ref 39, .int (σ 0 4)] σ (some (.int r3)) σ4, ¬ (r3 = 0), (σ 1 4) = nI 1 ∧ 1 < 4 ∧ 4 < 2 ^ 31, E0 D 18 [.ref 88, .ref 43] (gx_up σ4 0 4 (0 : Int32)) (none) σ15] rfl ⟨h1, h2, (ww_Re_read D (by omega) (σ 0 4) σ r3 σ4 h5), h6, ⟨h7, by decide, by decide⟩, (ww_Te_copy D (by omega) 88 (gx_up σ4 0 4 (0 : Int32)) () σ15 (Or.inr (Or.inl rfl)) h16), trivial⟩
        · have he : (81 + 7 * (σ 1 4).toNatClampNeg) = 95 := by rw [h7]; rfl
          rw [he] at hf
          obtain ⟨⟨⟩, σ18, h19, hf⟩ := z_bd_inv hf
          obtain ⟨e1, e2⟩ := z_ret hf
          subst e1
          subst e2
          exact gx_end 38 [.inl 0, .inl 1, .inr (some (.int r3), σ4), .inl 1, .inl 2, .inr (none, σ18)] [¬ ((σ 1 4) < 0), (σ 1 4) < (nI 4), E0 D 70 [.ref 39, .int (σ 0 4)] σ (some (.int r3)) σ4, ¬ (r3 = 0), (σ 1 4) = nI 2 ∧ 2 < 4 ∧ 4 < 2 ^ 31, E0 D 18 [.ref 95, .ref 43] (gx_up σ4 0 4 (0 : Int32)) (none) σ18] rfl ⟨h1, h2, (ww_Re_read D (by omega) (σ 0 4) σ r3 σ4 h5), h6, ⟨h7, by decide, by decide⟩, (ww_Te_copy D (by omega) 95 (gx_up σ4 0 4 (0 : Int32)) () σ18 (Or.inr (Or.inr (Or.inl rfl))) h19), trivial⟩
        · have he : (81 + 7 * (σ 1 4).toNatClampNeg) = 102 := by rw [h7]; rfl
          rw [he] at hf
          obtain ⟨⟨⟩, σ21, h22, hf⟩ := z_bd_inv hf
          obtain ⟨e1, e2⟩ := z_ret hf
          subst e1
          subst e2
          exact gx_end 38 [.inl 0, .inl 1, .inr (some (.int r3), σ4), .inl 1, .inl 3, .inr (none, σ21)] [¬ ((σ 1 4) < 0), (σ 1 4) < (nI 4), E0 D 70 [.ref 39, .int (σ 0 4)] σ (some (.int r3)) σ4, ¬ (r3 = 0), (σ 1 4) = nI 3 ∧ 3 < 4 ∧ 4 < 2 ^ 31, E0 D 18 [.ref 102, .ref 43] (gx_up σ4 0 4 (0 : Int32)) (none) σ21] rfl ⟨h1, h2, (ww_Re_read D (by omega) (σ 0 4) σ r3 σ4 h5), h6, ⟨h7, by decide, by decide⟩, (ww_Te_copy D (by omega) 102 (gx_up σ4 0 4 (0 : Int32)) () σ21 (Or.inr (Or.inr (Or.inr rfl))) h22), trivial⟩
    · obtain ⟨e1, e2⟩ := z_ret hf
      subst e1
      subst e2
      exact gx_end 13 [.inl 0, .inl 0] [¬ ((σ 1 4) < 0), ¬ ((σ 1 4) < (nI 4))] rfl ⟨h1, h2, trivial⟩
set_option maxHeartbeats 16000000 in
set_option maxRecDepth 20000 in
theorem ww_Sf_text (D : Nat) (hD : 126 ≤ D) (σ : gx_R) (rr : Int32) (σ' : gx_R) (hf : Sf_text  σ = some (rr, σ')) : E0 D 108 [.ref 0] σ (some (.int rr)) σ' := by
  cases D with
  | zero => omega
  | succ D => exact Or.inl ⟨Nat.le_of_ble_eq_true rfl, vv_Sf_text_E D hD rr σ' σ hf⟩
set_option maxHeartbeats 16000000 in
set_option maxRecDepth 20000 in
theorem vv_Sf_fault_E (D : Nat) (hD : 1 ≤ D + 1) (rr : Int32) (σ' : gx_R) (a1 : Int32) (σ : gx_R) (hf : Sf_fault a1 σ = some (rr, σ')) : gx_Ev lay0 (E0 D) tt_109 (some (.int rr)) σ' 0 [.ref 0, .int a1] [] σ := by
  unfold Sf_fault at hf
  rcases z_if_inv hf with ⟨h1, hf⟩ | ⟨h1, hf⟩
  · obtain ⟨e1, e2⟩ := z_ret hf
    subst e1
    subst e2
    exact gx_end 6 [.inl 0] [¬ ¬ (a1 = 0)] rfl ⟨(fun q => q h1), trivial⟩
  · rcases z_if_inv hf with ⟨h2, hf⟩ | ⟨h2, hf⟩
    · obtain ⟨e1, e2⟩ := z_ret hf
      subst e1
      subst e2
      exact gx_end 10 [.inl 1, .inl 0] [¬ (a1 = 0), ¬ ¬ (a1 = (1 : Int32))] rfl ⟨h1, (fun q => q h2), trivial⟩
    · obtain ⟨e1, e2⟩ := z_ret hf
      subst e1
      subst e2
      exact gx_end 7 [.inl 1, .inl 1] [¬ (a1 = 0), ¬ (a1 = (1 : Int32))] rfl ⟨h1, h2, trivial⟩
set_option maxHeartbeats 16000000 in
set_option maxRecDepth 20000 in
theorem ww_Sf_fault (D : Nat) (hD : 1 ≤ D) (a1 : Int32) (σ : gx_R) (rr : Int32) (σ' : gx_R) (hf : Sf_fault a1 σ = some (rr, σ')) : E0 D 109 [.ref 0, .int a1] σ (some (.int rr)) σ' := by
  cases D with
  | zero => omega
  | succ D => exact Or.inl ⟨Nat.le_of_ble_eq_true rfl, vv_Sf_fault_E D hD rr σ' a1 σ hf⟩
set_option maxHeartbeats 16000000 in
set_option maxRecDepth 20000 in
theorem vv_Sf_by_E (D : Nat) (hD : 1 ≤ D + 1) (rr : Int32) (σ' : gx_R) (a1 : Int32) (σ : gx_R) (hf : Sf_by a1 σ = some (rr, σ')) : gx_Ev lay0 (E0 D) tt_110 (some (.int rr)) σ' 0 [.ref 0, .int a1] [] σ := by
  unfold Sf_by at hf
  rcases z_if_inv hf with ⟨h1, hf⟩ | ⟨h1, hf⟩
  · obtain ⟨e1, e2⟩ := z_ret hf
    subst e1
    subst e2
    exact gx_end 5 [.inl 1] [a1 < (-1 : Int32), (0 : Int32) &&& 1 = (0 : Int32)] rfl ⟨h1, rfl, trivial⟩
  · rcases z_if_inv hf with ⟨h2, hf⟩ | ⟨h2, hf⟩
    · obtain ⟨e1, e2⟩ := z_ret hf
      subst e1
      subst e2
      exact gx_end 14 [.inl 0, .inl 1] [¬ (a1 < (-1 : Int32)), a1 < (σ 1 4), (1 : Int32) &&& 1 = (1 : Int32)] rfl ⟨h1, h2, rfl, trivial⟩
    · obtain ⟨e1, e2⟩ := z_ret hf
      subst e1
      subst e2
      exact gx_end 10 [.inl 0, .inl 0] [¬ (a1 < (-1 : Int32)), ¬ (a1 < (σ 1 4)), (0 : Int32) &&& 1 = (0 : Int32)] rfl ⟨h1, h2, rfl, trivial⟩
set_option maxHeartbeats 16000000 in
set_option maxRecDepth 20000 in
theorem ww_Sf_by (D : Nat) (hD : 1 ≤ D) (a1 : Int32) (σ : gx_R) (rr : Int32) (σ' : gx_R) (hf : Sf_by a1 σ = some (rr, σ')) : E0 D 110 [.ref 0, .int a1] σ (some (.int rr)) σ' := by
  cases D with
  | zero => omega
  | succ D => exact Or.inl ⟨Nat.le_of_ble_eq_true rfl, vv_Sf_by_E D hD rr σ' a1 σ hf⟩
set_option maxHeartbeats 16000000 in
set_option maxRecDepth 20000 in
theorem vv_Sf_perform_E_81 (D : Nat) (hD : 7 ≤ D + 1) (rr : Int32) (σ' : gx_R) (a2 : Int32) (σ : gx_R) (hf : Sf_perform 81 a2 σ = some (rr, σ')) : gx_Ev lay0 (E0 D) tt_139 (some (.int rr)) σ' 0 [.ref 0, .ref 81, .int a2, .null, .null, .null] [] σ := by
  unfold Sf_perform at hf
  obtain ⟨h1, hf⟩ := z_ck_inv hf
  obtain ⟨h2, hf⟩ := z_ck_inv hf
  obtain ⟨h3, hf⟩ := z_ck_inv hf
  rcases z_if_inv hf with ⟨h4, hf⟩ | ⟨h4, hf⟩
  · obtain ⟨r5, σ6, h7, hf⟩ := z_bd_inv hf
    obtain ⟨h8, hf⟩ := z_ck_inv hf
    obtain ⟨e1, e2⟩ := z_ret hf
    subst e1
    subst e2
    exact gx_end 20 [.inl 1, .inr (some (.int r5), σ6)] [vp_in a2 24, vp_in a2 24, vp_in a2 24, (σ 82 a2.toNatClampNeg).toInt = 4 + (0 : Nat), E0 D 99 [.ref 0, .int (σ 83 a2.toNatClampNeg), .int (σ 84 a2.toNatClampNeg)] σ (some (.int r5)) σ6, r5 &&& 1 = r5] rfl ⟨(z_ix_in h1), (z_ix_in h2), (z_ix_in h3), (z_sw_in h4 (by decide)), (ww_Sf_wake D (by omega) (σ 83 a2.toNatClampNeg) (σ 84 a2.toNatClampNeg) σ r5 σ6 h7), (z_bo_in h8), trivial⟩
  · skip
    rcases z_if_inv hf with ⟨h9, hf⟩ | ⟨h9, hf⟩
    · obtain ⟨r10, σ11, h12, hf⟩ := z_bd_inv hf
      obtain ⟨h13, hf⟩ := z_ck_inv hf
      obtain ⟨e1, e2⟩ := z_ret hf
      subst e1
      subst e2
      exact gx_end 20 [.inl 2, .inr (some (.int r10), σ11)] [vp_in a2 24, vp_in a2 24, vp_in a2 24, (σ 82 a2.toNatClampNeg).toInt = 4 + (1 : Nat), E0 D 100 [.ref 0, .int (σ 83 a2.toNatClampNeg), .int (σ 84 a2.toNatClampNeg)] σ (some (.int r10)) σ11, r10 &&& 1 = r10] rfl ⟨(z_ix_in h1), (z_ix_in h2), (z_ix_in h3), (z_sw_in h9 (by decide)), (ww_Sf_sleep D (by omega) (σ 83 a2.toNatClampNeg) (σ 84 a2.toNatClampNeg) σ r10 σ11 h12), (z_bo_in h13), trivial⟩
    · skip
      rcases z_if_inv hf with ⟨h14, hf⟩ | ⟨h14, hf⟩
      · obtain ⟨r15, σ16, h17, hf⟩ := z_bd_inv hf
        obtain ⟨h18, hf⟩ := z_ck_inv hf
        obtain ⟨e1, e2⟩ := z_ret hf
        subst e1
        subst e2
        exact gx_end 19 [.inl 3, .inr (some (.int r15), σ16)] [vp_in a2 24, vp_in a2 24, vp_in a2 24, (σ 82 a2.toNatClampNeg).toInt = 4 + (2 : Nat), E0 D 101 [.ref 0, .int (σ 83 a2.toNatClampNeg)] σ (some (.int r15)) σ16, r15 &&& 1 = r15] rfl ⟨(z_ix_in h1), (z_ix_in h2), (z_ix_in h3), (z_sw_in h14 (by decide)), (ww_Sf_idle D (by omega) (σ 83 a2.toNatClampNeg) σ r15 σ16 h17), (z_bo_in h18), trivial⟩
      · skip
        rcases z_if_inv hf with ⟨h19, hf⟩ | ⟨h19, hf⟩
        · obtain ⟨r20, σ21, h22, hf⟩ := z_bd_inv hf
          rcases z_if_inv hf with ⟨h23, hf⟩ | ⟨h23, hf⟩
          · obtain ⟨e1, e2⟩ := z_ret hf
            subst e1
            subst e2
            exact gx_end 22 [.inl 4, .inr (some (.int r20), σ21), .inl 1] [vp_in a2 24, vp_in a2 24, vp_in a2 24, (σ 82 a2.toNatClampNeg).toInt = 4 + (3 : Nat), E0 D 102 [.ref 0, .int (σ 83 a2.toNatClampNeg)] σ (some (.int r20)) σ21, r20 = (-1 : Int32), (0 : Int32) &&& 1 = (0 : Int32)] rfl ⟨(z_ix_in h1), (z_ix_in h2), (z_ix_in h3), (z_sw_in h19 (by decide)), (ww_Sf_call D (by omega) (σ 83 a2.toNatClampNeg) σ r20 σ21 h22), h23, rfl, trivial⟩
          · obtain ⟨e1, e2⟩ := z_ret hf
            subst e1
            subst e2
            exact gx_end 23 [.inl 4, .inr (some (.int r20), σ21), .inl 0] [vp_in a2 24, vp_in a2 24, vp_in a2 24, (σ 82 a2.toNatClampNeg).toInt = 4 + (3 : Nat), E0 D 102 [.ref 0, .int (σ 83 a2.toNatClampNeg)] σ (some (.int r20)) σ21, ¬ (r20 = (-1 : Int32)), (1 : Int32) &&& 1 = (1 : Int32)] rfl ⟨(z_ix_in h1), (z_ix_in h2), (z_ix_in h3), (z_sw_in h19 (by decide)), (ww_Sf_call D (by omega) (σ 83 a2.toNatClampNeg) σ r20 σ21 h22), h23, rfl, trivial⟩
        · skip
          rcases z_if_inv hf with ⟨h24, hf⟩ | ⟨h24, hf⟩
          · obtain ⟨h25, hf⟩ := z_ck_inv hf
            obtain ⟨r26, σ27, h28, hf⟩ := z_bd_inv hf
            rcases z_if_inv hf with ⟨h29, hf⟩ | ⟨h29, hf⟩
            · obtain ⟨e1, e2⟩ := z_ret hf
              subst e1
              subst e2
              exact gx_end 27 [.inl 5, .inr (some (.int r26), σ27), .inl 1] [vp_in a2 24, vp_in a2 24, vp_in a2 24, (σ 82 a2.toNatClampNeg).toInt = 4 + (4 : Nat), vp_in a2 24, E0 D 103 [.ref 0, .int (σ 83 a2.toNatClampNeg), .int (σ 84 a2.toNatClampNeg), .int (σ 85 a2.toNatClampNeg)] σ (some (.int r26)) σ27, r26 = (-1 : Int32), (0 : Int32) &&& 1 = (0 : Int32)] rfl ⟨(z_ix_in h1), (z_ix_in h2), (z_ix_in h3), (z_sw_in h24 (by decide)), (z_ix_in h25), (ww_Sf_repay D (by omega) (σ 83 a2.toNatClampNeg) (σ 84 a2.toNatClampNeg) (σ 85 a2.toNatClampNeg) σ r26 σ27 h28), h29, rfl, trivial⟩
            · obtain ⟨e1, e2⟩ := z_ret hf
              subst e1
              subst e2
              exact gx_end 28 [.inl 5, .inr (some (.int r26), σ27), .inl 0] [vp_in a2 24, vp_in a2 24, vp_in a2 24, (σ 82 a2.toNatClampNeg).toInt = 4 + (4 : Nat), vp_in a2 24, E0 D 103 [.ref 0, .int (σ 83 a2.toNatClampNeg), .int (σ 84 a2.toNatClampNeg), .int (σ 85 a2.toNatClampNeg)] σ (some (.int r26)) σ27, ¬ (r26 = (-1 : Int32)), (1 : Int32) &&& 1 = (1 : Int32)] rfl ⟨(z_ix_in h1), (z_ix_in h2), (z_ix_in h3), (z_sw_in h24 (by decide)), (z_ix_in h25), (ww_Sf_repay D (by omega) (σ 83 a2.toNatClampNeg) (σ 84 a2.toNatClampNeg) (σ 85 a2.toNatClampNeg) σ r26 σ27 h28), h29, rfl, trivial⟩
          · skip
            refine gx_go_ 14 [] [vp_in a2 24, vp_in a2 24, vp_in a2 24] 14 [.ref 0, .ref 81, .int a2, .int (σ 83 a2.toNatClampNeg), .int (σ 84 a2.toNatClampNeg), .null] [.int (σ 82 a2.toNatClampNeg)] σ rfl ⟨(z_ix_in h1), (z_ix_in h2), (z_ix_in h3), trivial⟩ ?_
            refine gx_sw (td := 52) (tt := [15, 20, 25, 29, 38]) (lo := 4) rfl rfl ?_
            rw [gx_swt_df (td := 52) (tt := [15, 20, 25, 29, 38]) (lo := 4) ⟨Or.inr (z_sw_ne h4 (by decide)), Or.inr (z_sw_ne h9 (by decide)), Or.inr (z_sw_ne h14 (by decide)), Or.inr (z_sw_ne h19 (by decide)), Or.inr (z_sw_ne h24 (by decide)), trivial⟩]
            obtain ⟨r31, σ32, h33, hf⟩ := z_bd_inv hf
            rcases z_if_inv hf with ⟨h34, hf⟩ | ⟨h34, hf⟩
            · obtain ⟨e1, e2⟩ := z_ret hf
              subst e1
              subst e2
              exact gx_end 21 [.inr (some (.int r31), σ32), .inl 0] [E0 D 137 [.ref 0, .int (σ 83 a2.toNatClampNeg), .int (1 : Int32)] σ (some (.int r31)) σ32, ¬ ¬ ((σ32 9 6) = ((σ 9 6) + (σ 83 a2.toNatClampNeg))), (1 : Int32) &&& 1 = (1 : Int32)] rfl ⟨(ww_Sf_passHours D (by omega) (σ 83 a2.toNatClampNeg) (1 : Int32) σ r31 σ32 h33), (fun q => q h34), rfl, trivial⟩
            · obtain ⟨e1, e2⟩ := z_ret hf
              subst e1
              subst e2
              exact gx_end 20 [.inr (some (.int r31), σ32), .inl 1] [E0 D 137 [.ref 0, .int (σ 83 a2.toNatClampNeg), .int (1 : Int32)] σ (some (.int r31)) σ32, ¬ ((σ32 9 6) = ((σ 9 6) + (σ 83 a2.toNatClampNeg))), (0 : Int32) &&& 1 = (0 : Int32)] rfl ⟨(ww_Sf_passHours D (by omega) (σ 83 a2.toNatClampNeg) (1 : Int32) σ r31 σ32 h33), h34, rfl, trivial⟩
set_option maxHeartbeats 16000000 in
set_option maxRecDepth 20000 in
theorem ww_Sf_perform_81 (D : Nat) (hD : 7 ≤ D) (a2 : Int32) (σ : gx_R) (rr : Int32) (σ' : gx_R) (hf : Sf_perform 81 a2 σ = some (rr, σ')) : E0 D 139 [.ref 0, .ref 81, .int a2] σ (some (.int rr)) σ' := by
  cases D with
  | zero => omega
  | succ D => exact Or.inl ⟨Nat.le_of_ble_eq_true rfl, vv_Sf_perform_E_81 D hD rr σ' a2 σ hf⟩
set_option maxHeartbeats 16000000 in
set_option maxRecDepth 20000 in
theorem vv_Sf_perform_E_88 (D : Nat) (hD : 7 ≤ D + 1) (rr : Int32) (σ' : gx_R) (a2 : Int32) (σ : gx_R) (hf : Sf_perform 88 a2 σ = some (rr, σ')) : gx_Ev lay0 (E0 D) tt_139 (some (.int rr)) σ' 0 [.ref 0, .ref 88, .int a2, .null, .null, .null] [] σ := by
  unfold Sf_perform at hf
  obtain ⟨h1, hf⟩ := z_ck_inv hf
  obtain ⟨h2, hf⟩ := z_ck_inv hf
  obtain ⟨h3, hf⟩ := z_ck_inv hf
  rcases z_if_inv hf with ⟨h4, hf⟩ | ⟨h4, hf⟩
  · obtain ⟨r5, σ6, h7, hf⟩ := z_bd_inv hf
    obtain ⟨h8, hf⟩ := z_ck_inv hf
    obtain ⟨e1, e2⟩ := z_ret hf
    subst e1
    subst e2
    exact gx_end 20 [.inl 1, .inr (some (.int r5), σ6)] [vp_in a2 24, vp_in a2 24, vp_in a2 24, (σ 89 a2.toNatClampNeg).toInt = 4 + (0 : Nat), E0 D 99 [.ref 0, .int (σ 90 a2.toNatClampNeg), .int (σ 91 a2.toNatClampNeg)] σ (some (.int r5)) σ6, r5 &&& 1 = r5] rfl ⟨(z_ix_in h1), (z_ix_in h2), (z_ix_in h3), (z_sw_in h4 (by decide)), (ww_Sf_wake D (by omega) (σ 90 a2.toNatClampNeg) (σ 91 a2.toNatClampNeg) σ r5 σ6 h7), (z_bo_in h8), trivial⟩
  · skip
    rcases z_if_inv hf with ⟨h9, hf⟩ | ⟨h9, hf⟩
    · obtain ⟨r10, σ11, h12, hf⟩ := z_bd_inv hf
      obtain ⟨h13, hf⟩ := z_ck_inv hf
      obtain ⟨e1, e2⟩ := z_ret hf
      subst e1
      subst e2
      exact gx_end 20 [.inl 2, .inr (some (.int r10), σ11)] [vp_in a2 24, vp_in a2 24, vp_in a2 24, (σ 89 a2.toNatClampNeg).toInt = 4 + (1 : Nat), E0 D 100 [.ref 0, .int (σ 90 a2.toNatClampNeg), .int (σ 91 a2.toNatClampNeg)] σ (some (.int r10)) σ11, r10 &&& 1 = r10] rfl ⟨(z_ix_in h1), (z_ix_in h2), (z_ix_in h3), (z_sw_in h9 (by decide)), (ww_Sf_sleep D (by omega) (σ 90 a2.toNatClampNeg) (σ 91 a2.toNatClampNeg) σ r10 σ11 h12), (z_bo_in h13), trivial⟩
    · skip
      rcases z_if_inv hf with ⟨h14, hf⟩ | ⟨h14, hf⟩
      · obtain ⟨r15, σ16, h17, hf⟩ := z_bd_inv hf
        obtain ⟨h18, hf⟩ := z_ck_inv hf
        obtain ⟨e1, e2⟩ := z_ret hf
        subst e1
        subst e2
        exact gx_end 19 [.inl 3, .inr (some (.int r15), σ16)] [vp_in a2 24, vp_in a2 24, vp_in a2 24, (σ 89 a2.toNatClampNeg).toInt = 4 + (2 : Nat), E0 D 101 [.ref 0, .int (σ 90 a2.toNatClampNeg)] σ (some (.int r15)) σ16, r15 &&& 1 = r15] rfl ⟨(z_ix_in h1), (z_ix_in h2), (z_ix_in h3), (z_sw_in h14 (by decide)), (ww_Sf_idle D (by omega) (σ 90 a2.toNatClampNeg) σ r15 σ16 h17), (z_bo_in h18), trivial⟩
      · skip
        rcases z_if_inv hf with ⟨h19, hf⟩ | ⟨h19, hf⟩
        · obtain ⟨r20, σ21, h22, hf⟩ := z_bd_inv hf
          rcases z_if_inv hf with ⟨h23, hf⟩ | ⟨h23, hf⟩
          · obtain ⟨e1, e2⟩ := z_ret hf
            subst e1
            subst e2
            exact gx_end 22 [.inl 4, .inr (some (.int r20), σ21), .inl 1] [vp_in a2 24, vp_in a2 24, vp_in a2 24, (σ 89 a2.toNatClampNeg).toInt = 4 + (3 : Nat), E0 D 102 [.ref 0, .int (σ 90 a2.toNatClampNeg)] σ (some (.int r20)) σ21, r20 = (-1 : Int32), (0 : Int32) &&& 1 = (0 : Int32)] rfl ⟨(z_ix_in h1), (z_ix_in h2), (z_ix_in h3), (z_sw_in h19 (by decide)), (ww_Sf_call D (by omega) (σ 90 a2.toNatClampNeg) σ r20 σ21 h22), h23, rfl, trivial⟩
          · obtain ⟨e1, e2⟩ := z_ret hf
            subst e1
            subst e2
            exact gx_end 23 [.inl 4, .inr (some (.int r20), σ21), .inl 0] [vp_in a2 24, vp_in a2 24, vp_in a2 24, (σ 89 a2.toNatClampNeg).toInt = 4 + (3 : Nat), E0 D 102 [.ref 0, .int (σ 90 a2.toNatClampNeg)] σ (some (.int r20)) σ21, ¬ (r20 = (-1 : Int32)), (1 : Int32) &&& 1 = (1 : Int32)] rfl ⟨(z_ix_in h1), (z_ix_in h2), (z_ix_in h3), (z_sw_in h19 (by decide)), (ww_Sf_call D (by omega) (σ 90 a2.toNatClampNeg) σ r20 σ21 h22), h23, rfl, trivial⟩
        · skip
          rcases z_if_inv hf with ⟨h24, hf⟩ | ⟨h24, hf⟩
          · obtain ⟨h25, hf⟩ := z_ck_inv hf
            obtain ⟨r26, σ27, h28, hf⟩ := z_bd_inv hf
            rcases z_if_inv hf with ⟨h29, hf⟩ | ⟨h29, hf⟩
            · obtain ⟨e1, e2⟩ := z_ret hf
              subst e1
              subst e2
              exact gx_end 27 [.inl 5, .inr (some (.int r26), σ27), .inl 1] [vp_in a2 24, vp_in a2 24, vp_in a2 24, (σ 89 a2.toNatClampNeg).toInt = 4 + (4 : Nat), vp_in a2 24, E0 D 103 [.ref 0, .int (σ 90 a2.toNatClampNeg), .int (σ 91 a2.toNatClampNeg), .int (σ 92 a2.toNatClampNeg)] σ (some (.int r26)) σ27, r26 = (-1 : Int32), (0 : Int32) &&& 1 = (0 : Int32)] rfl ⟨(z_ix_in h1), (z_ix_in h2), (z_ix_in h3), (z_sw_in h24 (by decide)), (z_ix_in h25), (ww_Sf_repay D (by omega) (σ 90 a2.toNatClampNeg) (σ 91 a2.toNatClampNeg) (σ 92 a2.toNatClampNeg) σ r26 σ27 h28), h29, rfl, trivial⟩
            · obtain ⟨e1, e2⟩ := z_ret hf
              subst e1
              subst e2
              exact gx_end 28 [.inl 5, .inr (some (.int r26), σ27), .inl 0] [vp_in a2 24, vp_in a2 24, vp_in a2 24, (σ 89 a2.toNatClampNeg).toInt = 4 + (4 : Nat), vp_in a2 24, E0 D 103 [.ref 0, .int (σ 90 a2.toNatClampNeg), .int (σ 91 a2.toNatClampNeg), .int (σ 92 a2.toNatClampNeg)] σ (some (.int r26)) σ27, ¬ (r26 = (-1 : Int32)), (1 : Int32) &&& 1 = (1 : Int32)] rfl ⟨(z_ix_in h1), (z_ix_in h2), (z_ix_in h3), (z_sw_in h24 (by decide)), (z_ix_in h25), (ww_Sf_repay D (by omega) (σ 90 a2.toNatClampNeg) (σ 91 a2.toNatClampNeg) (σ 92 a2.toNatClampNeg) σ r26 σ27 h28), h29, rfl, trivial⟩
          · skip
            refine gx_go_ 14 [] [vp_in a2 24, vp_in a2 24, vp_in a2 24] 14 [.ref 0, .ref 88, .int a2, .int (σ 90 a2.toNatClampNeg), .int (σ 91 a2.toNatClampNeg), .null] [.int (σ 89 a2.toNatClampNeg)] σ rfl ⟨(z_ix_in h1), (z_ix_in h2), (z_ix_in h3), trivial⟩ ?_
            refine gx_sw (td := 52) (tt := [15, 20, 25, 29, 38]) (lo := 4) rfl rfl ?_
            rw [gx_swt_df (td := 52) (tt := [15, 20, 25, 29, 38]) (lo := 4) ⟨Or.inr (z_sw_ne h4 (by decide)), Or.inr (z_sw_ne h9 (by decide)), Or.inr (z_sw_ne h14 (by decide)), Or.inr (z_sw_ne h19 (by decide)), Or.inr (z_sw_ne h24 (by decide)), trivial⟩]
            obtain ⟨r31, σ32, h33, hf⟩ := z_bd_inv hf
            rcases z_if_inv hf with ⟨h34, hf⟩ | ⟨h34, hf⟩
            · obtain ⟨e1, e2⟩ := z_ret hf
              subst e1
              subst e2
              exact gx_end 21 [.inr (some (.int r31), σ32), .inl 0] [E0 D 137 [.ref 0, .int (σ 90 a2.toNatClampNeg), .int (1 : Int32)] σ (some (.int r31)) σ32, ¬ ¬ ((σ32 9 6) = ((σ 9 6) + (σ 90 a2.toNatClampNeg))), (1 : Int32) &&& 1 = (1 : Int32)] rfl ⟨(ww_Sf_passHours D (by omega) (σ 90 a2.toNatClampNeg) (1 : Int32) σ r31 σ32 h33), (fun q => q h34), rfl, trivial⟩
            · obtain ⟨e1, e2⟩ := z_ret hf
              subst e1
              subst e2
              exact gx_end 20 [.inr (some (.int r31), σ32), .inl 1] [E0 D 137 [.ref 0, .int (σ 90 a2.toNatClampNeg), .int (1 : Int32)] σ (some (.int r31)) σ32, ¬ ((σ32 9 6) = ((σ 9 6) + (σ 90 a2.toNatClampNeg))), (0 : Int32) &&& 1 = (0 : Int32)] rfl ⟨(ww_Sf_passHours D (by omega) (σ 90 a2.toNatClampNeg) (1 : Int32) σ r31 σ32 h33), h34, rfl, trivial⟩
set_option maxHeartbeats 16000000 in
set_option maxRecDepth 20000 in
theorem ww_Sf_perform_88 (D : Nat) (hD : 7 ≤ D) (a2 : Int32) (σ : gx_R) (rr : Int32) (σ' : gx_R) (hf : Sf_perform 88 a2 σ = some (rr, σ')) : E0 D 139 [.ref 0, .ref 88, .int a2] σ (some (.int rr)) σ' := by
  cases D with
  | zero => omega
  | succ D => exact Or.inl ⟨Nat.le_of_ble_eq_true rfl, vv_Sf_perform_E_88 D hD rr σ' a2 σ hf⟩
set_option maxHeartbeats 16000000 in
set_option maxRecDepth 20000 in
theorem vv_Sf_perform_E_95 (D : Nat) (hD : 7 ≤ D + 1) (rr : Int32) (σ' : gx_R) (a2 : Int32) (σ : gx_R) (hf : Sf_perform 95 a2 σ = some (rr, σ')) : gx_Ev lay0 (E0 D) tt_139 (some (.int rr)) σ' 0 [.ref 0, .ref 95, .int a2, .null, .null, .null] [] σ := by
  unfold Sf_perform at hf
  obtain ⟨h1, hf⟩ := z_ck_inv hf
  obtain ⟨h2, hf⟩ := z_ck_inv hf
  obtain ⟨h3, hf⟩ := z_ck_inv hf
  rcases z_if_inv hf with ⟨h4, hf⟩ | ⟨h4, hf⟩
  · obtain ⟨r5, σ6, h7, hf⟩ := z_bd_inv hf
    obtain ⟨h8, hf⟩ := z_ck_inv hf
    obtain ⟨e1, e2⟩ := z_ret hf
    subst e1
    subst e2
    exact gx_end 20 [.inl 1, .inr (some (.int r5), σ6)] [vp_in a2 24, vp_in a2 24, vp_in a2 24, (σ 96 a2.toNatClampNeg).toInt = 4 + (0 : Nat), E0 D 99 [.ref 0, .int (σ 97 a2.toNatClampNeg), .int (σ 98 a2.toNatClampNeg)] σ (some (.int r5)) σ6, r5 &&& 1 = r5] rfl ⟨(z_ix_in h1), (z_ix_in h2), (z_ix_in h3), (z_sw_in h4 (by decide)), (ww_Sf_wake D (by omega) (σ 97 a2.toNatClampNeg) (σ 98 a2.toNatClampNeg) σ r5 σ6 h7), (z_bo_in h8), trivial⟩
  · skip
    rcases z_if_inv hf with ⟨h9, hf⟩ | ⟨h9, hf⟩
    · obtain ⟨r10, σ11, h12, hf⟩ := z_bd_inv hf
      obtain ⟨h13, hf⟩ := z_ck_inv hf
      obtain ⟨e1, e2⟩ := z_ret hf
      subst e1
      subst e2
      exact gx_end 20 [.inl 2, .inr (some (.int r10), σ11)] [vp_in a2 24, vp_in a2 24, vp_in a2 24, (σ 96 a2.toNatClampNeg).toInt = 4 + (1 : Nat), E0 D 100 [.ref 0, .int (σ 97 a2.toNatClampNeg), .int (σ 98 a2.toNatClampNeg)] σ (some (.int r10)) σ11, r10 &&& 1 = r10] rfl ⟨(z_ix_in h1), (z_ix_in h2), (z_ix_in h3), (z_sw_in h9 (by decide)), (ww_Sf_sleep D (by omega) (σ 97 a2.toNatClampNeg) (σ 98 a2.toNatClampNeg) σ r10 σ11 h12), (z_bo_in h13), trivial⟩
    · skip
      rcases z_if_inv hf with ⟨h14, hf⟩ | ⟨h14, hf⟩
      · obtain ⟨r15, σ16, h17, hf⟩ := z_bd_inv hf
        obtain ⟨h18, hf⟩ := z_ck_inv hf
        obtain ⟨e1, e2⟩ := z_ret hf
        subst e1
        subst e2
        exact gx_end 19 [.inl 3, .inr (some (.int r15), σ16)] [vp_in a2 24, vp_in a2 24, vp_in a2 24, (σ 96 a2.toNatClampNeg).toInt = 4 + (2 : Nat), E0 D 101 [.ref 0, .int (σ 97 a2.toNatClampNeg)] σ (some (.int r15)) σ16, r15 &&& 1 = r15] rfl ⟨(z_ix_in h1), (z_ix_in h2), (z_ix_in h3), (z_sw_in h14 (by decide)), (ww_Sf_idle D (by omega) (σ 97 a2.toNatClampNeg) σ r15 σ16 h17), (z_bo_in h18), trivial⟩
      · skip
        rcases z_if_inv hf with ⟨h19, hf⟩ | ⟨h19, hf⟩
        · obtain ⟨r20, σ21, h22, hf⟩ := z_bd_inv hf
          rcases z_if_inv hf with ⟨h23, hf⟩ | ⟨h23, hf⟩
          · obtain ⟨e1, e2⟩ := z_ret hf
            subst e1
            subst e2
            exact gx_end 22 [.inl 4, .inr (some (.int r20), σ21), .inl 1] [vp_in a2 24, vp_in a2 24, vp_in a2 24, (σ 96 a2.toNatClampNeg).toInt = 4 + (3 : Nat), E0 D 102 [.ref 0, .int (σ 97 a2.toNatClampNeg)] σ (some (.int r20)) σ21, r20 = (-1 : Int32), (0 : Int32) &&& 1 = (0 : Int32)] rfl ⟨(z_ix_in h1), (z_ix_in h2), (z_ix_in h3), (z_sw_in h19 (by decide)), (ww_Sf_call D (by omega) (σ 97 a2.toNatClampNeg) σ r20 σ21 h22), h23, rfl, trivial⟩
          · obtain ⟨e1, e2⟩ := z_ret hf
            subst e1
            subst e2
            exact gx_end 23 [.inl 4, .inr (some (.int r20), σ21), .inl 0] [vp_in a2 24, vp_in a2 24, vp_in a2 24, (σ 96 a2.toNatClampNeg).toInt = 4 + (3 : Nat), E0 D 102 [.ref 0, .int (σ 97 a2.toNatClampNeg)] σ (some (.int r20)) σ21, ¬ (r20 = (-1 : Int32)), (1 : Int32) &&& 1 = (1 : Int32)] rfl ⟨(z_ix_in h1), (z_ix_in h2), (z_ix_in h3), (z_sw_in h19 (by decide)), (ww_Sf_call D (by omega) (σ 97 a2.toNatClampNeg) σ r20 σ21 h22), h23, rfl, trivial⟩
        · skip
          rcases z_if_inv hf with ⟨h24, hf⟩ | ⟨h24, hf⟩
          · obtain ⟨h25, hf⟩ := z_ck_inv hf
            obtain ⟨r26, σ27, h28, hf⟩ := z_bd_inv hf
            rcases z_if_inv hf with ⟨h29, hf⟩ | ⟨h29, hf⟩
            · obtain ⟨e1, e2⟩ := z_ret hf
              subst e1
              subst e2
              exact gx_end 27 [.inl 5, .inr (some (.int r26), σ27), .inl 1] [vp_in a2 24, vp_in a2 24, vp_in a2 24, (σ 96 a2.toNatClampNeg).toInt = 4 + (4 : Nat), vp_in a2 24, E0 D 103 [.ref 0, .int (σ 97 a2.toNatClampNeg), .int (σ 98 a2.toNatClampNeg), .int (σ 99 a2.toNatClampNeg)] σ (some (.int r26)) σ27, r26 = (-1 : Int32), (0 : Int32) &&& 1 = (0 : Int32)] rfl ⟨(z_ix_in h1), (z_ix_in h2), (z_ix_in h3), (z_sw_in h24 (by decide)), (z_ix_in h25), (ww_Sf_repay D (by omega) (σ 97 a2.toNatClampNeg) (σ 98 a2.toNatClampNeg) (σ 99 a2.toNatClampNeg) σ r26 σ27 h28), h29, rfl, trivial⟩
            · obtain ⟨e1, e2⟩ := z_ret hf
              subst e1
              subst e2
              exact gx_end 28 [.inl 5, .inr (some (.int r26), σ27), .inl 0] [vp_in a2 24, vp_in a2 24, vp_in a2 24, (σ 96 a2.toNatClampNeg).toInt = 4 + (4 : Nat), vp_in a2 24, E0 D 103 [.ref 0, .int (σ 97 a2.toNatClampNeg), .int (σ 98 a2.toNatClampNeg), .int (σ 99 a2.toNatClampNeg)] σ (some (.int r26)) σ27, ¬ (r26 = (-1 : Int32)), (1 : Int32) &&& 1 = (1 : Int32)] rfl ⟨(z_ix_in h1), (z_ix_in h2), (z_ix_in h3), (z_sw_in h24 (by decide)), (z_ix_in h25), (ww_Sf_repay D (by omega) (σ 97 a2.toNatClampNeg) (σ 98 a2.toNatClampNeg) (σ 99 a2.toNatClampNeg) σ r26 σ27 h28), h29, rfl, trivial⟩
          · skip
            refine gx_go_ 14 [] [vp_in a2 24, vp_in a2 24, vp_in a2 24] 14 [.ref 0, .ref 95, .int a2, .int (σ 97 a2.toNatClampNeg), .int (σ 98 a2.toNatClampNeg), .null] [.int (σ 96 a2.toNatClampNeg)] σ rfl ⟨(z_ix_in h1), (z_ix_in h2), (z_ix_in h3), trivial⟩ ?_
            refine gx_sw (td := 52) (tt := [15, 20, 25, 29, 38]) (lo := 4) rfl rfl ?_
            rw [gx_swt_df (td := 52) (tt := [15, 20, 25, 29, 38]) (lo := 4) ⟨Or.inr (z_sw_ne h4 (by decide)), Or.inr (z_sw_ne h9 (by decide)), Or.inr (z_sw_ne h14 (by decide)), Or.inr (z_sw_ne h19 (by decide)), Or.inr (z_sw_ne h24 (by decide)), trivial⟩]
            obtain ⟨r31, σ32, h33, hf⟩ := z_bd_inv hf
            rcases z_if_inv hf with ⟨h34, hf⟩ | ⟨h34, hf⟩
            · obtain ⟨e1, e2⟩ := z_ret hf
              subst e1
              subst e2
              exact gx_end 21 [.inr (some (.int r31), σ32), .inl 0] [E0 D 137 [.ref 0, .int (σ 97 a2.toNatClampNeg), .int (1 : Int32)] σ (some (.int r31)) σ32, ¬ ¬ ((σ32 9 6) = ((σ 9 6) + (σ 97 a2.toNatClampNeg))), (1 : Int32) &&& 1 = (1 : Int32)] rfl ⟨(ww_Sf_passHours D (by omega) (σ 97 a2.toNatClampNeg) (1 : Int32) σ r31 σ32 h33), (fun q => q h34), rfl, trivial⟩
            · obtain ⟨e1, e2⟩ := z_ret hf
              subst e1
              subst e2
              exact gx_end 20 [.inr (some (.int r31), σ32), .inl 1] [E0 D 137 [.ref 0, .int (σ 97 a2.toNatClampNeg), .int (1 : Int32)] σ (some (.int r31)) σ32, ¬ ((σ32 9 6) = ((σ 9 6) + (σ 97 a2.toNatClampNeg))), (0 : Int32) &&& 1 = (0 : Int32)] rfl ⟨(ww_Sf_passHours D (by omega) (σ 97 a2.toNatClampNeg) (1 : Int32) σ r31 σ32 h33), h34, rfl, trivial⟩
set_option maxHeartbeats 16000000 in
set_option maxRecDepth 20000 in
theorem ww_Sf_perform_95 (D : Nat) (hD : 7 ≤ D) (a2 : Int32) (σ : gx_R) (rr : Int32) (σ' : gx_R) (hf : Sf_perform 95 a2 σ = some (rr, σ')) : E0 D 139 [.ref 0, .ref 95, .int a2] σ (some (.int rr)) σ' := by
  cases D with
  | zero => omega
  | succ D => exact Or.inl ⟨Nat.le_of_ble_eq_true rfl, vv_Sf_perform_E_95 D hD rr σ' a2 σ hf⟩
set_option maxHeartbeats 16000000 in
set_option maxRecDepth 20000 in
theorem vv_Sf_perform_E_102 (D : Nat) (hD : 7 ≤ D + 1) (rr : Int32) (σ' : gx_R) (a2 : Int32) (σ : gx_R) (hf : Sf_perform 102 a2 σ = some (rr, σ')) : gx_Ev lay0 (E0 D) tt_139 (some (.int rr)) σ' 0 [.ref 0, .ref 102, .int a2, .null, .null, .null] [] σ := by
  unfold Sf_perform at hf
  obtain ⟨h1, hf⟩ := z_ck_inv hf
  obtain ⟨h2, hf⟩ := z_ck_inv hf
  obtain ⟨h3, hf⟩ := z_ck_inv hf
  rcases z_if_inv hf with ⟨h4, hf⟩ | ⟨h4, hf⟩
  · obtain ⟨r5, σ6, h7, hf⟩ := z_bd_inv hf
    obtain ⟨h8, hf⟩ := z_ck_inv hf
    obtain ⟨e1, e2⟩ := z_ret hf
    subst e1
    subst e2
    exact gx_end 20 [.inl 1, .inr (some (.int r5), σ6)] [vp_in a2 24, vp_in a2 24, vp_in a2 24, (σ 103 a2.toNatClampNeg).toInt = 4 + (0 : Nat), E0 D 99 [.ref 0, .int (σ 104 a2.toNatClampNeg), .int (σ 105 a2.toNatClampNeg)] σ (some (.int r5)) σ6, r5 &&& 1 = r5] rfl ⟨(z_ix_in h1), (z_ix_in h2), (z_ix_in h3), (z_sw_in h4 (by decide)), (ww_Sf_wake D (by omega) (σ 104 a2.toNatClampNeg) (σ 105 a2.toNatClampNeg) σ r5 σ6 h7), (z_bo_in h8), trivial⟩
  · skip
    rcases z_if_inv hf with ⟨h9, hf⟩ | ⟨h9, hf⟩
    · obtain ⟨r10, σ11, h12, hf⟩ := z_bd_inv hf
      obtain ⟨h13, hf⟩ := z_ck_inv hf
      obtain ⟨e1, e2⟩ := z_ret hf
      subst e1
      subst e2
      exact gx_end 20 [.inl 2, .inr (some (.int r10), σ11)] [vp_in a2 24, vp_in a2 24, vp_in a2 24, (σ 103 a2.toNatClampNeg).toInt = 4 + (1 : Nat), E0 D 100 [.ref 0, .int (σ 104 a2.toNatClampNeg), .int (σ 105 a2.toNatClampNeg)] σ (some (.int r10)) σ11, r10 &&& 1 = r10] rfl ⟨(z_ix_in h1), (z_ix_in h2), (z_ix_in h3), (z_sw_in h9 (by decide)), (ww_Sf_sleep D (by omega) (σ 104 a2.toNatClampNeg) (σ 105 a2.toNatClampNeg) σ r10 σ11 h12), (z_bo_in h13), trivial⟩
    · skip
      rcases z_if_inv hf with ⟨h14, hf⟩ | ⟨h14, hf⟩
      · obtain ⟨r15, σ16, h17, hf⟩ := z_bd_inv hf
        obtain ⟨h18, hf⟩ := z_ck_inv hf
        obtain ⟨e1, e2⟩ := z_ret hf
        subst e1
        subst e2
        exact gx_end 19 [.inl 3, .inr (some (.int r15), σ16)] [vp_in a2 24, vp_in a2 24, vp_in a2 24, (σ 103 a2.toNatClampNeg).toInt = 4 + (2 : Nat), E0 D 101 [.ref 0, .int (σ 104 a2.toNatClampNeg)] σ (some (.int r15)) σ16, r15 &&& 1 = r15] rfl ⟨(z_ix_in h1), (z_ix_in h2), (z_ix_in h3), (z_sw_in h14 (by decide)), (ww_Sf_idle D (by omega) (σ 104 a2.toNatClampNeg) σ r15 σ16 h17), (z_bo_in h18), trivial⟩
      · skip
        rcases z_if_inv hf with ⟨h19, hf⟩ | ⟨h19, hf⟩
        · obtain ⟨r20, σ21, h22, hf⟩ := z_bd_inv hf
          rcases z_if_inv hf with ⟨h23, hf⟩ | ⟨h23, hf⟩
          · obtain ⟨e1, e2⟩ := z_ret hf
            subst e1
            subst e2
            exact gx_end 22 [.inl 4, .inr (some (.int r20), σ21), .inl 1] [vp_in a2 24, vp_in a2 24, vp_in a2 24, (σ 103 a2.toNatClampNeg).toInt = 4 + (3 : Nat), E0 D 102 [.ref 0, .int (σ 104 a2.toNatClampNeg)] σ (some (.int r20)) σ21, r20 = (-1 : Int32), (0 : Int32) &&& 1 = (0 : Int32)] rfl ⟨(z_ix_in h1), (z_ix_in h2), (z_ix_in h3), (z_sw_in h19 (by decide)), (ww_Sf_call D (by omega) (σ 104 a2.toNatClampNeg) σ r20 σ21 h22), h23, rfl, trivial⟩
          · obtain ⟨e1, e2⟩ := z_ret hf
            subst e1
            subst e2
            exact gx_end 23 [.inl 4, .inr (some (.int r20), σ21), .inl 0] [vp_in a2 24, vp_in a2 24, vp_in a2 24, (σ 103 a2.toNatClampNeg).toInt = 4 + (3 : Nat), E0 D 102 [.ref 0, .int (σ 104 a2.toNatClampNeg)] σ (some (.int r20)) σ21, ¬ (r20 = (-1 : Int32)), (1 : Int32) &&& 1 = (1 : Int32)] rfl ⟨(z_ix_in h1), (z_ix_in h2), (z_ix_in h3), (z_sw_in h19 (by decide)), (ww_Sf_call D (by omega) (σ 104 a2.toNatClampNeg) σ r20 σ21 h22), h23, rfl, trivial⟩
        · skip
          rcases z_if_inv hf with ⟨h24, hf⟩ | ⟨h24, hf⟩
          · obtain ⟨h25, hf⟩ := z_ck_inv hf
            obtain ⟨r26, σ27, h28, hf⟩ := z_bd_inv hf
            rcases z_if_inv hf with ⟨h29, hf⟩ | ⟨h29, hf⟩
            · obtain ⟨e1, e2⟩ := z_ret hf
              subst e1
              subst e2
              exact gx_end 27 [.inl 5, .inr (some (.int r26), σ27), .inl 1] [vp_in a2 24, vp_in a2 24, vp_in a2 24, (σ 103 a2.toNatClampNeg).toInt = 4 + (4 : Nat), vp_in a2 24, E0 D 103 [.ref 0, .int (σ 104 a2.toNatClampNeg), .int (σ 105 a2.toNatClampNeg), .int (σ 106 a2.toNatClampNeg)] σ (some (.int r26)) σ27, r26 = (-1 : Int32), (0 : Int32) &&& 1 = (0 : Int32)] rfl ⟨(z_ix_in h1), (z_ix_in h2), (z_ix_in h3), (z_sw_in h24 (by decide)), (z_ix_in h25), (ww_Sf_repay D (by omega) (σ 104 a2.toNatClampNeg) (σ 105 a2.toNatClampNeg) (σ 106 a2.toNatClampNeg) σ r26 σ27 h28), h29, rfl, trivial⟩
            · obtain ⟨e1, e2⟩ := z_ret hf
              subst e1
              subst e2
              exact gx_end 28 [.inl 5, .inr (some (.int r26), σ27), .inl 0] [vp_in a2 24, vp_in a2 24, vp_in a2 24, (σ 103 a2.toNatClampNeg).toInt = 4 + (4 : Nat), vp_in a2 24, E0 D 103 [.ref 0, .int (σ 104 a2.toNatClampNeg), .int (σ 105 a2.toNatClampNeg), .int (σ 106 a2.toNatClampNeg)] σ (some (.int r26)) σ27, ¬ (r26 = (-1 : Int32)), (1 : Int32) &&& 1 = (1 : Int32)] rfl ⟨(z_ix_in h1), (z_ix_in h2), (z_ix_in h3), (z_sw_in h24 (by decide)), (z_ix_in h25), (ww_Sf_repay D (by omega) (σ 104 a2.toNatClampNeg) (σ 105 a2.toNatClampNeg) (σ 106 a2.toNatClampNeg) σ r26 σ27 h28), h29, rfl, trivial⟩
          · skip
            refine gx_go_ 14 [] [vp_in a2 24, vp_in a2 24, vp_in a2 24] 14 [.ref 0, .ref 102, .int a2, .int (σ 104 a2.toNatClampNeg), .int (σ 105 a2.toNatClampNeg), .null] [.int (σ 103 a2.toNatClampNeg)] σ rfl ⟨(z_ix_in h1), (z_ix_in h2), (z_ix_in h3), trivial⟩ ?_
            refine gx_sw (td := 52) (tt := [15, 20, 25, 29, 38]) (lo := 4) rfl rfl ?_
            rw [gx_swt_df (td := 52) (tt := [15, 20, 25, 29, 38]) (lo := 4) ⟨Or.inr (z_sw_ne h4 (by decide)), Or.inr (z_sw_ne h9 (by decide)), Or.inr (z_sw_ne h14 (by decide)), Or.inr (z_sw_ne h19 (by decide)), Or.inr (z_sw_ne h24 (by decide)), trivial⟩]
            obtain ⟨r31, σ32, h33, hf⟩ := z_bd_inv hf
            rcases z_if_inv hf with ⟨h34, hf⟩ | ⟨h34, hf⟩
            · obtain ⟨e1, e2⟩ := z_ret hf
              subst e1
              subst e2
              exact gx_end 21 [.inr (some (.int r31), σ32), .inl 0] [E0 D 137 [.ref 0, .int (σ 104 a2.toNatClampNeg), .int (1 : Int32)] σ (some (.int r31)) σ32, ¬ ¬ ((σ32 9 6) = ((σ 9 6) + (σ 104 a2.toNatClampNeg))), (1 : Int32) &&& 1 = (1 : Int32)] rfl ⟨(ww_Sf_passHours D (by omega) (σ 104 a2.toNatClampNeg) (1 : Int32) σ r31 σ32 h33), (fun q => q h34), rfl, trivial⟩
            · obtain ⟨e1, e2⟩ := z_ret hf
              subst e1
              subst e2
              exact gx_end 20 [.inr (some (.int r31), σ32), .inl 1] [E0 D 137 [.ref 0, .int (σ 104 a2.toNatClampNeg), .int (1 : Int32)] σ (some (.int r31)) σ32, ¬ ((σ32 9 6) = ((σ 9 6) + (σ 104 a2.toNatClampNeg))), (0 : Int32) &&& 1 = (0 : Int32)] rfl ⟨(ww_Sf_passHours D (by omega) (σ 104 a2.toNatClampNeg) (1 : Int32) σ r31 σ32 h33), h34, rfl, trivial⟩
set_option maxHeartbeats 16000000 in
set_option maxRecDepth 20000 in
theorem ww_Sf_perform_102 (D : Nat) (hD : 7 ≤ D) (a2 : Int32) (σ : gx_R) (rr : Int32) (σ' : gx_R) (hf : Sf_perform 102 a2 σ = some (rr, σ')) : E0 D 139 [.ref 0, .ref 102, .int a2] σ (some (.int rr)) σ' := by
  cases D with
  | zero => omega
  | succ D => exact Or.inl ⟨Nat.le_of_ble_eq_true rfl, vv_Sf_perform_E_102 D hD rr σ' a2 σ hf⟩
set_option maxHeartbeats 16000000 in
set_option maxRecDepth 20000 in
theorem ww_Sf_perform (D : Nat) (hD : 7 ≤ D) (b1 : Nat) (a2 : Int32) (σ : gx_R) (rr : Int32) (σ' : gx_R) (hb1 : b1 = 81 ∨ b1 = 88 ∨ b1 = 95 ∨ b1 = 102) (hf : Sf_perform b1 a2 σ = some (rr, σ')) : E0 D 139 [.ref 0, .ref b1, .int a2] σ (some (.int rr)) σ' := by
  rcases hb1 with rfl | rfl | rfl | rfl
  · exact ww_Sf_perform_81 D hD a2 σ rr σ' hf
  · exact ww_Sf_perform_88 D hD a2 σ rr σ' hf
  · exact ww_Sf_perform_95 D hD a2 σ rr σ' hf
  · exact ww_Sf_perform_102 D hD a2 σ rr σ' hf
set_option maxHeartbeats 16000000 in
set_option maxRecDepth 20000 in
theorem vv_Sf_played_41_81 (D : Nat) (hD : 8 ≤ D + 1) (rr : Int32) (σ' : gx_R) (K21 : Nat → Int32 → gx_R → Option (Int32 × gx_R)) (hK21 : ∀ (b2 : Nat) (a3 : Int32) (σ : gx_R), (b2 = 81 ∨ b2 = 88 ∨ b2 = 95 ∨ b2 = 102) → K21 b2 a3 σ = some (rr, σ') → gx_Ev lay0 (E0 D) tt_111 (some (.int rr)) σ' 21 [.ref 0, .null, .ref b2, .int a3] [] σ) (a3 : Int32) (σ : gx_R) (hf : Sf_played_41 K21 81 a3 σ = some (rr, σ')) : gx_Ev lay0 (E0 D) tt_111 (some (.int rr)) σ' 41 [.ref 0, .null, .ref 81, .int a3] [] σ := by
  unfold Sf_played_41 at hf
  exact gx_go_ 2 [] [] 21 [.ref 0, .null, .ref 81, .int (a3 + 1)] [] σ rfl trivial (gx_fgt (ls' := [.ref 0, .null, .ref 81, .int (a3 + 1)]) ⟨Or.inr rfl, Or.inl rfl, Or.inr rfl, Or.inr rfl, trivial⟩ (hK21 81 (a3 + 1) σ (Or.inl rfl) hf))
set_option maxHeartbeats 16000000 in
set_option maxRecDepth 20000 in
theorem vv_Sf_played_41_88 (D : Nat) (hD : 8 ≤ D + 1) (rr : Int32) (σ' : gx_R) (K21 : Nat → Int32 → gx_R → Option (Int32 × gx_R)) (hK21 : ∀ (b2 : Nat) (a3 : Int32) (σ : gx_R), (b2 = 81 ∨ b2 = 88 ∨ b2 = 95 ∨ b2 = 102) → K21 b2 a3 σ = some (rr, σ') → gx_Ev lay0 (E0 D) tt_111 (some (.int rr)) σ' 21 [.ref 0, .null, .ref b2, .int a3] [] σ) (a3 : Int32) (σ : gx_R) (hf : Sf_played_41 K21 88 a3 σ = some (rr, σ')) : gx_Ev lay0 (E0 D) tt_111 (some (.int rr)) σ' 41 [.ref 0, .null, .ref 88, .int a3] [] σ := by
  unfold Sf_played_41 at hf
  exact gx_go_ 2 [] [] 21 [.ref 0, .null, .ref 88, .int (a3 + 1)] [] σ rfl trivial (gx_fgt (ls' := [.ref 0, .null, .ref 88, .int (a3 + 1)]) ⟨Or.inr rfl, Or.inl rfl, Or.inr rfl, Or.inr rfl, trivial⟩ (hK21 88 (a3 + 1) σ (Or.inr (Or.inl rfl)) hf))
set_option maxHeartbeats 16000000 in
set_option maxRecDepth 20000 in
theorem vv_Sf_played_41_95 (D : Nat) (hD : 8 ≤ D + 1) (rr : Int32) (σ' : gx_R) (K21 : Nat → Int32 → gx_R → Option (Int32 × gx_R)) (hK21 : ∀ (b2 : Nat) (a3 : Int32) (σ : gx_R), (b2 = 81 ∨ b2 = 88 ∨ b2 = 95 ∨ b2 = 102) → K21 b2 a3 σ = some (rr, σ') → gx_Ev lay0 (E0 D) tt_111 (some (.int rr)) σ' 21 [.ref 0, .null, .ref b2, .int a3] [] σ) (a3 : Int32) (σ : gx_R) (hf : Sf_played_41 K21 95 a3 σ = some (rr, σ')) : gx_Ev lay0 (E0 D) tt_111 (some (.int rr)) σ' 41 [.ref 0, .null, .ref 95, .int a3] [] σ := by
  unfold Sf_played_41 at hf
  exact gx_go_ 2 [] [] 21 [.ref 0, .null, .ref 95, .int (a3 + 1)] [] σ rfl trivial (gx_fgt (ls' := [.ref 0, .null, .ref 95, .int (a3 + 1)]) ⟨Or.inr rfl, Or.inl rfl, Or.inr rfl, Or.inr rfl, trivial⟩ (hK21 95 (a3 + 1) σ (Or.inr (Or.inr (Or.inl rfl))) hf))
set_option maxHeartbeats 16000000 in
set_option maxRecDepth 20000 in
theorem vv_Sf_played_41_102 (D : Nat) (hD : 8 ≤ D + 1) (rr : Int32) (σ' : gx_R) (K21 : Nat → Int32 → gx_R → Option (Int32 × gx_R)) (hK21 : ∀ (b2 : Nat) (a3 : Int32) (σ : gx_R), (b2 = 81 ∨ b2 = 88 ∨ b2 = 95 ∨ b2 = 102) → K21 b2 a3 σ = some (rr, σ') → gx_Ev lay0 (E0 D) tt_111 (some (.int rr)) σ' 21 [.ref 0, .null, .ref b2, .int a3] [] σ) (a3 : Int32) (σ : gx_R) (hf : Sf_played_41 K21 102 a3 σ = some (rr, σ')) : gx_Ev lay0 (E0 D) tt_111 (some (.int rr)) σ' 41 [.ref 0, .null, .ref 102, .int a3] [] σ := by
  unfold Sf_played_41 at hf
  exact gx_go_ 2 [] [] 21 [.ref 0, .null, .ref 102, .int (a3 + 1)] [] σ rfl trivial (gx_fgt (ls' := [.ref 0, .null, .ref 102, .int (a3 + 1)]) ⟨Or.inr rfl, Or.inl rfl, Or.inr rfl, Or.inr rfl, trivial⟩ (hK21 102 (a3 + 1) σ (Or.inr (Or.inr (Or.inr rfl))) hf))
set_option maxHeartbeats 16000000 in
set_option maxRecDepth 20000 in
theorem vv_Sf_played_41 (D : Nat) (hD : 8 ≤ D + 1) (rr : Int32) (σ' : gx_R) (K21 : Nat → Int32 → gx_R → Option (Int32 × gx_R)) (hK21 : ∀ (b2 : Nat) (a3 : Int32) (σ : gx_R), (b2 = 81 ∨ b2 = 88 ∨ b2 = 95 ∨ b2 = 102) → K21 b2 a3 σ = some (rr, σ') → gx_Ev lay0 (E0 D) tt_111 (some (.int rr)) σ' 21 [.ref 0, .null, .ref b2, .int a3] [] σ) (b2 : Nat) (a3 : Int32) (σ : gx_R) (hb2 : b2 = 81 ∨ b2 = 88 ∨ b2 = 95 ∨ b2 = 102) (hf : Sf_played_41 K21 b2 a3 σ = some (rr, σ')) : gx_Ev lay0 (E0 D) tt_111 (some (.int rr)) σ' 41 [.ref 0, .null, .ref b2, .int a3] [] σ := by
  rcases hb2 with rfl | rfl | rfl | rfl
  · exact vv_Sf_played_41_81 D hD rr σ'  K21 hK21 a3 σ hf
  · exact vv_Sf_played_41_88 D hD rr σ'  K21 hK21 a3 σ hf
  · exact vv_Sf_played_41_95 D hD rr σ'  K21 hK21 a3 σ hf
  · exact vv_Sf_played_41_102 D hD rr σ'  K21 hK21 a3 σ hf
set_option maxHeartbeats 16000000 in
set_option maxRecDepth 20000 in
theorem vv_Sf_played_21_B_81 (D : Nat) (hD : 8 ≤ D + 1) (rr : Int32) (σ' : gx_R) (K21 : Nat → Int32 → gx_R → Option (Int32 × gx_R)) (hK21 : ∀ (b2 : Nat) (a3 : Int32) (σ : gx_R), (b2 = 81 ∨ b2 = 88 ∨ b2 = 95 ∨ b2 = 102) → K21 b2 a3 σ = some (rr, σ') → gx_Ev lay0 (E0 D) tt_111 (some (.int rr)) σ' 21 [.ref 0, .null, .ref b2, .int a3] [] σ) (a3 : Int32) (σ : gx_R) (hf : Sf_played_21_B K21 81 a3 σ = some (rr, σ')) : gx_Ev lay0 (E0 D) tt_111 (some (.int rr)) σ' 21 [.ref 0, .null, .ref 81, .int a3] [] σ := by
  unfold Sf_played_21_B at hf
  rcases z_if_inv hf with ⟨h1, hf⟩ | ⟨h1, hf⟩
  · obtain ⟨e1, e2⟩ := z_ret hf
    subst e1
    subst e2
    exact gx_end 6 [.inl 1] [(σ 81 4) ≤ a3] rfl ⟨h1, trivial⟩
  · rcases z_if_inv hf with ⟨h2, hf⟩ | ⟨h2, hf⟩
    · obtain ⟨e1, e2⟩ := z_ret hf
      subst e1
      subst e2
      exact gx_end 9 [.inl 0, .inl 1] [¬ ((σ 81 4) ≤ a3), (24 : Int32) ≤ a3] rfl ⟨h1, h2, trivial⟩
    · obtain ⟨h3, hf⟩ := z_ck_inv hf
      rcases z_if_inv hf with ⟨h4, hf⟩ | ⟨h4, hf⟩
      · exact gx_go_ 13 [.inl 0, .inl 0, .inl 1] [¬ ((σ 81 4) ≤ a3), ¬ ((24 : Int32) ≤ a3), vp_in a3 24, (σ 82 a3.toNatClampNeg) < (4 : Int32)] 41 [.ref 0, .null, .ref 81, .int a3] [] σ rfl ⟨h1, h2, (z_ix_in h3), h4, trivial⟩ (gx_fgt (ls' := [.ref 0, .null, .ref 81, .int a3]) ⟨Or.inr rfl, Or.inl rfl, Or.inr rfl, Or.inr rfl, trivial⟩ (vv_Sf_played_41 D hD rr σ' K21 hK21 81 a3 σ (Or.inl rfl) hf))
      · obtain ⟨r5, σ6, h7, hf⟩ := z_bd_inv hf
        rcases z_if_inv hf with ⟨h8, hf⟩ | ⟨h8, hf⟩
        · obtain ⟨e1, e2⟩ := z_ret hf
          subst e1
          subst e2
          exact gx_end 20 [.inl 0, .inl 0, .inl 0, .inr (some (.int r5), σ6), .inl 0] [¬ ((σ 81 4) ≤ a3), ¬ ((24 : Int32) ≤ a3), vp_in a3 24, ¬ ((σ 82 a3.toNatClampNeg) < (4 : Int32)), E0 D 139 [.ref 0, .ref 81, .int a3] σ (some (.int r5)) σ6, ¬ ¬ (r5 = 0)] rfl ⟨h1, h2, (z_ix_in h3), h4, (ww_Sf_perform D (by omega) 81 a3 σ r5 σ6 (Or.inl rfl) h7), (fun q => q h8), trivial⟩
        · exact gx_go_ 18 [.inl 0, .inl 0, .inl 0, .inr (some (.int r5), σ6), .inl 1] [¬ ((σ 81 4) ≤ a3), ¬ ((24 : Int32) ≤ a3), vp_in a3 24, ¬ ((σ 82 a3.toNatClampNeg) < (4 : Int32)), E0 D 139 [.ref 0, .ref 81, .int a3] σ (some (.int r5)) σ6, ¬ (r5 = 0)] 41 [.ref 0, .null, .ref 81, .int a3] [] σ6 rfl ⟨h1, h2, (z_ix_in h3), h4, (ww_Sf_perform D (by omega) 81 a3 σ r5 σ6 (Or.inl rfl) h7), h8, trivial⟩ (gx_fgt (ls' := [.ref 0, .null, .ref 81, .int a3]) ⟨Or.inr rfl, Or.inl rfl, Or.inr rfl, Or.inr rfl, trivial⟩ (vv_Sf_played_41 D hD rr σ' K21 hK21 81 a3 σ6 (Or.inl rfl) hf))
set_option maxHeartbeats 16000000 in
set_option maxRecDepth 20000 in
theorem vv_Sf_played_21_B_88 (D : Nat) (hD : 8 ≤ D + 1) (rr : Int32) (σ' : gx_R) (K21 : Nat → Int32 → gx_R → Option (Int32 × gx_R)) (hK21 : ∀ (b2 : Nat) (a3 : Int32) (σ : gx_R), (b2 = 81 ∨ b2 = 88 ∨ b2 = 95 ∨ b2 = 102) → K21 b2 a3 σ = some (rr, σ') → gx_Ev lay0 (E0 D) tt_111 (some (.int rr)) σ' 21 [.ref 0, .null, .ref b2, .int a3] [] σ) (a3 : Int32) (σ : gx_R) (hf : Sf_played_21_B K21 88 a3 σ = some (rr, σ')) : gx_Ev lay0 (E0 D) tt_111 (some (.int rr)) σ' 21 [.ref 0, .null, .ref 88, .int a3] [] σ := by
  unfold Sf_played_21_B at hf
  rcases z_if_inv hf with ⟨h1, hf⟩ | ⟨h1, hf⟩
  · obtain ⟨e1, e2⟩ := z_ret hf
    subst e1
    subst e2
    exact gx_end 6 [.inl 1] [(σ 88 4) ≤ a3] rfl ⟨h1, trivial⟩
  · rcases z_if_inv hf with ⟨h2, hf⟩ | ⟨h2, hf⟩
    · obtain ⟨e1, e2⟩ := z_ret hf
      subst e1
      subst e2
      exact gx_end 9 [.inl 0, .inl 1] [¬ ((σ 88 4) ≤ a3), (24 : Int32) ≤ a3] rfl ⟨h1, h2, trivial⟩
    · obtain ⟨h3, hf⟩ := z_ck_inv hf
      rcases z_if_inv hf with ⟨h4, hf⟩ | ⟨h4, hf⟩
      · exact gx_go_ 13 [.inl 0, .inl 0, .inl 1] [¬ ((σ 88 4) ≤ a3), ¬ ((24 : Int32) ≤ a3), vp_in a3 24, (σ 89 a3.toNatClampNeg) < (4 : Int32)] 41 [.ref 0, .null, .ref 88, .int a3] [] σ rfl ⟨h1, h2, (z_ix_in h3), h4, trivial⟩ (gx_fgt (ls' := [.ref 0, .null, .ref 88, .int a3]) ⟨Or.inr rfl, Or.inl rfl, Or.inr rfl, Or.inr rfl, trivial⟩ (vv_Sf_played_41 D hD rr σ' K21 hK21 88 a3 σ (Or.inr (Or.inl rfl)) hf))
      · obtain ⟨r5, σ6, h7, hf⟩ := z_bd_inv hf
        rcases z_if_inv hf with ⟨h8, hf⟩ | ⟨h8, hf⟩
        · obtain ⟨e1, e2⟩ := z_ret hf
          subst e1
          subst e2
          exact gx_end 20 [.inl 0, .inl 0, .inl 0, .inr (some (.int r5), σ6), .inl 0] [¬ ((σ 88 4) ≤ a3), ¬ ((24 : Int32) ≤ a3), vp_in a3 24, ¬ ((σ 89 a3.toNatClampNeg) < (4 : Int32)), E0 D 139 [.ref 0, .ref 88, .int a3] σ (some (.int r5)) σ6, ¬ ¬ (r5 = 0)] rfl ⟨h1, h2, (z_ix_in h3), h4, (ww_Sf_perform D (by omega) 88 a3 σ r5 σ6 (Or.inr (Or.inl rfl)) h7), (fun q => q h8), trivial⟩
        · exact gx_go_ 18 [.inl 0, .inl 0, .inl 0, .inr (some (.int r5), σ6), .inl 1] [¬ ((σ 88 4) ≤ a3), ¬ ((24 : Int32) ≤ a3), vp_in a3 24, ¬ ((σ 89 a3.toNatClampNeg) < (4 : Int32)), E0 D 139 [.ref 0, .ref 88, .int a3] σ (some (.int r5)) σ6, ¬ (r5 = 0)] 41 [.ref 0, .null, .ref 88, .int a3] [] σ6 rfl ⟨h1, h2, (z_ix_in h3), h4, (ww_Sf_perform D (by omega) 88 a3 σ r5 σ6 (Or.inr (Or.inl rfl)) h7), h8, trivial⟩ (gx_fgt (ls' := [.ref 0, .null, .ref 88, .int a3]) ⟨Or.inr rfl, Or.inl rfl, Or.inr rfl, Or.inr rfl, trivial⟩ (vv_Sf_played_41 D hD rr σ' K21 hK21 88 a3 σ6 (Or.inr (Or.inl rfl)) hf))
set_option maxHeartbeats 16000000 in
set_option maxRecDepth 20000 in
theorem vv_Sf_played_21_B_95 (D : Nat) (hD : 8 ≤ D + 1) (rr : Int32) (σ' : gx_R) (K21 : Nat → Int32 → gx_R → Option (Int32 × gx_R)) (hK21 : ∀ (b2 : Nat) (a3 : Int32) (σ : gx_R), (b2 = 81 ∨ b2 = 88 ∨ b2 = 95 ∨ b2 = 102) → K21 b2 a3 σ = some (rr, σ') → gx_Ev lay0 (E0 D) tt_111 (some (.int rr)) σ' 21 [.ref 0, .null, .ref b2, .int a3] [] σ) (a3 : Int32) (σ : gx_R) (hf : Sf_played_21_B K21 95 a3 σ = some (rr, σ')) : gx_Ev lay0 (E0 D) tt_111 (some (.int rr)) σ' 21 [.ref 0, .null, .ref 95, .int a3] [] σ := by
  unfold Sf_played_21_B at hf
  rcases z_if_inv hf with ⟨h1, hf⟩ | ⟨h1, hf⟩
  · obtain ⟨e1, e2⟩ := z_ret hf
    subst e1
    subst e2
    exact gx_end 6 [.inl 1] [(σ 95 4) ≤ a3] rfl ⟨h1, trivial⟩
  · rcases z_if_inv hf with ⟨h2, hf⟩ | ⟨h2, hf⟩
    · obtain ⟨e1, e2⟩ := z_ret hf
      subst e1
      subst e2
      exact gx_end 9 [.inl 0, .inl 1] [¬ ((σ 95 4) ≤ a3), (24 : Int32) ≤ a3] rfl ⟨h1, h2, trivial⟩
    · obtain ⟨h3, hf⟩ := z_ck_inv hf
      rcases z_if_inv hf with ⟨h4, hf⟩ | ⟨h4, hf⟩
      · exact gx_go_ 13 [.inl 0, .inl 0, .inl 1] [¬ ((σ 95 4) ≤ a3), ¬ ((24 : Int32) ≤ a3), vp_in a3 24, (σ 96 a3.toNatClampNeg) < (4 : Int32)] 41 [.ref 0, .null, .ref 95, .int a3] [] σ rfl ⟨h1, h2, (z_ix_in h3), h4, trivial⟩ (gx_fgt (ls' := [.ref 0, .null, .ref 95, .int a3]) ⟨Or.inr rfl, Or.inl rfl, Or.inr rfl, Or.inr rfl, trivial⟩ (vv_Sf_played_41 D hD rr σ' K21 hK21 95 a3 σ (Or.inr (Or.inr (Or.inl rfl))) hf))
      · obtain ⟨r5, σ6, h7, hf⟩ := z_bd_inv hf
        rcases z_if_inv hf with ⟨h8, hf⟩ | ⟨h8, hf⟩
        · obtain ⟨e1, e2⟩ := z_ret hf
          subst e1
          subst e2
          exact gx_end 20 [.inl 0, .inl 0, .inl 0, .inr (some (.int r5), σ6), .inl 0] [¬ ((σ 95 4) ≤ a3), ¬ ((24 : Int32) ≤ a3), vp_in a3 24, ¬ ((σ 96 a3.toNatClampNeg) < (4 : Int32)), E0 D 139 [.ref 0, .ref 95, .int a3] σ (some (.int r5)) σ6, ¬ ¬ (r5 = 0)] rfl ⟨h1, h2, (z_ix_in h3), h4, (ww_Sf_perform D (by omega) 95 a3 σ r5 σ6 (Or.inr (Or.inr (Or.inl rfl))) h7), (fun q => q h8), trivial⟩
        · exact gx_go_ 18 [.inl 0, .inl 0, .inl 0, .inr (some (.int r5), σ6), .inl 1] [¬ ((σ 95 4) ≤ a3), ¬ ((24 : Int32) ≤ a3), vp_in a3 24, ¬ ((σ 96 a3.toNatClampNeg) < (4 : Int32)), E0 D 139 [.ref 0, .ref 95, .int a3] σ (some (.int r5)) σ6, ¬ (r5 = 0)] 41 [.ref 0, .null, .ref 95, .int a3] [] σ6 rfl ⟨h1, h2, (z_ix_in h3), h4, (ww_Sf_perform D (by omega) 95 a3 σ r5 σ6 (Or.inr (Or.inr (Or.inl rfl))) h7), h8, trivial⟩ (gx_fgt (ls' := [.ref 0, .null, .ref 95, .int a3]) ⟨Or.inr rfl, Or.inl rfl, Or.inr rfl, Or.inr rfl, trivial⟩ (vv_Sf_played_41 D hD rr σ' K21 hK21 95 a3 σ6 (Or.inr (Or.inr (Or.inl rfl))) hf))
set_option maxHeartbeats 16000000 in
set_option maxRecDepth 20000 in
theorem vv_Sf_played_21_B_102 (D : Nat) (hD : 8 ≤ D + 1) (rr : Int32) (σ' : gx_R) (K21 : Nat → Int32 → gx_R → Option (Int32 × gx_R)) (hK21 : ∀ (b2 : Nat) (a3 : Int32) (σ : gx_R), (b2 = 81 ∨ b2 = 88 ∨ b2 = 95 ∨ b2 = 102) → K21 b2 a3 σ = some (rr, σ') → gx_Ev lay0 (E0 D) tt_111 (some (.int rr)) σ' 21 [.ref 0, .null, .ref b2, .int a3] [] σ) (a3 : Int32) (σ : gx_R) (hf : Sf_played_21_B K21 102 a3 σ = some (rr, σ')) : gx_Ev lay0 (E0 D) tt_111 (some (.int rr)) σ' 21 [.ref 0, .null, .ref 102, .int a3] [] σ := by
  unfold Sf_played_21_B at hf
  rcases z_if_inv hf with ⟨h1, hf⟩ | ⟨h1, hf⟩
  · obtain ⟨e1, e2⟩ := z_ret hf
    subst e1
    subst e2
    exact gx_end 6 [.inl 1] [(σ 102 4) ≤ a3] rfl ⟨h1, trivial⟩
  · rcases z_if_inv hf with ⟨h2, hf⟩ | ⟨h2, hf⟩
    · obtain ⟨e1, e2⟩ := z_ret hf
      subst e1
      subst e2
      exact gx_end 9 [.inl 0, .inl 1] [¬ ((σ 102 4) ≤ a3), (24 : Int32) ≤ a3] rfl ⟨h1, h2, trivial⟩
    · obtain ⟨h3, hf⟩ := z_ck_inv hf
      rcases z_if_inv hf with ⟨h4, hf⟩ | ⟨h4, hf⟩
      · exact gx_go_ 13 [.inl 0, .inl 0, .inl 1] [¬ ((σ 102 4) ≤ a3), ¬ ((24 : Int32) ≤ a3), vp_in a3 24, (σ 103 a3.toNatClampNeg) < (4 : Int32)] 41 [.ref 0, .null, .ref 102, .int a3] [] σ rfl ⟨h1, h2, (z_ix_in h3), h4, trivial⟩ (gx_fgt (ls' := [.ref 0, .null, .ref 102, .int a3]) ⟨Or.inr rfl, Or.inl rfl, Or.inr rfl, Or.inr rfl, trivial⟩ (vv_Sf_played_41 D hD rr σ' K21 hK21 102 a3 σ (Or.inr (Or.inr (Or.inr rfl))) hf))
      · obtain ⟨r5, σ6, h7, hf⟩ := z_bd_inv hf
        rcases z_if_inv hf with ⟨h8, hf⟩ | ⟨h8, hf⟩
        · obtain ⟨e1, e2⟩ := z_ret hf
          subst e1
          subst e2
          exact gx_end 20 [.inl 0, .inl 0, .inl 0, .inr (some (.int r5), σ6), .inl 0] [¬ ((σ 102 4) ≤ a3), ¬ ((24 : Int32) ≤ a3), vp_in a3 24, ¬ ((σ 103 a3.toNatClampNeg) < (4 : Int32)), E0 D 139 [.ref 0, .ref 102, .int a3] σ (some (.int r5)) σ6, ¬ ¬ (r5 = 0)] rfl ⟨h1, h2, (z_ix_in h3), h4, (ww_Sf_perform D (by omega) 102 a3 σ r5 σ6 (Or.inr (Or.inr (Or.inr rfl))) h7), (fun q => q h8), trivial⟩
        · exact gx_go_ 18 [.inl 0, .inl 0, .inl 0, .inr (some (.int r5), σ6), .inl 1] [¬ ((σ 102 4) ≤ a3), ¬ ((24 : Int32) ≤ a3), vp_in a3 24, ¬ ((σ 103 a3.toNatClampNeg) < (4 : Int32)), E0 D 139 [.ref 0, .ref 102, .int a3] σ (some (.int r5)) σ6, ¬ (r5 = 0)] 41 [.ref 0, .null, .ref 102, .int a3] [] σ6 rfl ⟨h1, h2, (z_ix_in h3), h4, (ww_Sf_perform D (by omega) 102 a3 σ r5 σ6 (Or.inr (Or.inr (Or.inr rfl))) h7), h8, trivial⟩ (gx_fgt (ls' := [.ref 0, .null, .ref 102, .int a3]) ⟨Or.inr rfl, Or.inl rfl, Or.inr rfl, Or.inr rfl, trivial⟩ (vv_Sf_played_41 D hD rr σ' K21 hK21 102 a3 σ6 (Or.inr (Or.inr (Or.inr rfl))) hf))
set_option maxHeartbeats 16000000 in
set_option maxRecDepth 20000 in
theorem vv_Sf_played_21_B (D : Nat) (hD : 8 ≤ D + 1) (rr : Int32) (σ' : gx_R) (K21 : Nat → Int32 → gx_R → Option (Int32 × gx_R)) (hK21 : ∀ (b2 : Nat) (a3 : Int32) (σ : gx_R), (b2 = 81 ∨ b2 = 88 ∨ b2 = 95 ∨ b2 = 102) → K21 b2 a3 σ = some (rr, σ') → gx_Ev lay0 (E0 D) tt_111 (some (.int rr)) σ' 21 [.ref 0, .null, .ref b2, .int a3] [] σ) (b2 : Nat) (a3 : Int32) (σ : gx_R) (hb2 : b2 = 81 ∨ b2 = 88 ∨ b2 = 95 ∨ b2 = 102) (hf : Sf_played_21_B K21 b2 a3 σ = some (rr, σ')) : gx_Ev lay0 (E0 D) tt_111 (some (.int rr)) σ' 21 [.ref 0, .null, .ref b2, .int a3] [] σ := by
  rcases hb2 with rfl | rfl | rfl | rfl
  · exact vv_Sf_played_21_B_81 D hD rr σ'  K21 hK21 a3 σ hf
  · exact vv_Sf_played_21_B_88 D hD rr σ'  K21 hK21 a3 σ hf
  · exact vv_Sf_played_21_B_95 D hD rr σ'  K21 hK21 a3 σ hf
  · exact vv_Sf_played_21_B_102 D hD rr σ'  K21 hK21 a3 σ hf
set_option maxHeartbeats 16000000 in
set_option maxRecDepth 20000 in
theorem vv_Sf_played_21 (D : Nat) (hD : 8 ≤ D + 1) (rr : Int32) (σ' : gx_R) : ∀ (n : Nat) (b2 : Nat) (a3 : Int32) (σ : gx_R), (b2 = 81 ∨ b2 = 88 ∨ b2 = 95 ∨ b2 = 102) → Sf_played_21 n b2 a3 σ = some (rr, σ') → gx_Ev lay0 (E0 D) tt_111 (some (.int rr)) σ' 21 [.ref 0, .null, .ref b2, .int a3] [] σ := by
  intro n
  induction n with
  | zero => intro b2 a3 σ hb2 hf; cases hf
  | succ n ih => intro b2 a3 σ hb2 hf; exact vv_Sf_played_21_B D hD rr σ'  (Sf_played_21 n) ih b2 a3 σ hb2 hf
set_option maxHeartbeats 16000000 in
set_option maxRecDepth 20000 in
theorem vv_Sf_played_E (D : Nat) (hD : 8 ≤ D + 1) (rr : Int32) (σ' : gx_R) (a1 : Int32) (σ : gx_R) (hf : Sf_played a1 σ = some (rr, σ')) : gx_Ev lay0 (E0 D) tt_111 (some (.int rr)) σ' 0 [.ref 0, .int a1, .null, .null] [] σ := by
  unfold Sf_played at hf
  rcases z_if_inv hf with ⟨h1, hf⟩ | ⟨h1, hf⟩
  · obtain ⟨e1, e2⟩ := z_ret hf
    subst e1
    subst e2
    exact gx_end 4 [.inl 1] [a1 < 0] rfl ⟨h1, trivial⟩
  · rcases z_if_inv hf with ⟨h2, hf⟩ | ⟨h2, hf⟩
    · obtain ⟨e1, e2⟩ := z_ret hf
      subst e1
      subst e2
      exact gx_end 9 [.inl 0, .inl 1] [¬ (a1 < 0), (σ 1 4) ≤ a1] rfl ⟨h1, h2, trivial⟩
    · rcases z_if_inv hf with ⟨h3, hf⟩ | ⟨h3, hf⟩
      · obtain ⟨h4, hf⟩ := z_ck_inv hf
        rcases z_ix4 h4 with h4 | h4 | h4 | h4
        · have he : (81 + 7 * a1.toNatClampNeg) = 81 := by rw [h4]; rfl
          rw [he] at hf
          exact gx_go_ 19 [.inl 0, .inl 0, .inl 1, .inl 0] [¬ (a1 < 0), ¬ ((σ 1 4) ≤ a1), a1 < (nI 4), a1 = nI 0 ∧ 0 < 4 ∧ 4 < 2 ^ 31] 21 [.ref 0, .int a1, .ref 81, .int (0 : Int32)] [] σ rfl ⟨h1, h2, h3, ⟨h4, by decide, by decide⟩, trivial⟩ (gx_fgt (ls' := [.ref 0, .null, .ref 81, .int (0 : Int32)]) ⟨Or.inr rfl, Or.inl rfl, Or.inr rfl, Or.inr rfl, trivial⟩ (vv_Sf_played_21 D hD rr σ' z_FU 81 (0 : Int32) σ (Or.inl rfl) hf))
        · have he : (81 + 7 * a1.toNatClampNeg) = 88 := by rw [h4]; rfl
          rw [he] at hf
          exact gx_go_ 19 [.inl 0, .inl 0, .inl 1, .inl 1] [¬ (a1 < 0), ¬ ((σ 1 4) ≤ a1), a1 < (nI 4), a1 = nI 1 ∧ 1 < 4 ∧ 4 < 2 ^ 31] 21 [.ref 0, .int a1, .ref 88, .int (0 : Int32)] [] σ rfl ⟨h1, h2, h3, ⟨h4, by decide, by decide⟩, trivial⟩ (gx_fgt (ls' := [.ref 0, .null, .ref 88, .int (0 : Int32)]) ⟨Or.inr rfl, Or.inl rfl, Or.inr rfl, Or.inr rfl, trivial⟩ (vv_Sf_played_21 D hD rr σ' z_FU 88 (0 : Int32) σ (Or.inr (Or.inl rfl)) hf))
        · have he : (81 + 7 * a1.toNatClampNeg) = 95 := by rw [h4]; rfl
          rw [he] at hf
          exact gx_go_ 19 [.inl 0, .inl 0, .inl 1, .inl 2] [¬ (a1 < 0), ¬ ((σ 1 4) ≤ a1), a1 < (nI 4), a1 = nI 2 ∧ 2 < 4 ∧ 4 < 2 ^ 31] 21 [.ref 0, .int a1, .ref 95, .int (0 : Int32)] [] σ rfl ⟨h1, h2, h3, ⟨h4, by decide, by decide⟩, trivial⟩ (gx_fgt (ls' := [.ref 0, .null, .ref 95, .int (0 : Int32)]) ⟨Or.inr rfl, Or.inl rfl, Or.inr rfl, Or.inr rfl, trivial⟩ (vv_Sf_played_21 D hD rr σ' z_FU 95 (0 : Int32) σ (Or.inr (Or.inr (Or.inl rfl))) hf))
        · have he : (81 + 7 * a1.toNatClampNeg) = 102 := by rw [h4]; rfl
          rw [he] at hf
          exact gx_go_ 19 [.inl 0, .inl 0, .inl 1, .inl 3] [¬ (a1 < 0), ¬ ((σ 1 4) ≤ a1), a1 < (nI 4), a1 = nI 3 ∧ 3 < 4 ∧ 4 < 2 ^ 31] 21 [.ref 0, .int a1, .ref 102, .int (0 : Int32)] [] σ rfl ⟨h1, h2, h3, ⟨h4, by decide, by decide⟩, trivial⟩ (gx_fgt (ls' := [.ref 0, .null, .ref 102, .int (0 : Int32)]) ⟨Or.inr rfl, Or.inl rfl, Or.inr rfl, Or.inr rfl, trivial⟩ (vv_Sf_played_21 D hD rr σ' z_FU 102 (0 : Int32) σ (Or.inr (Or.inr (Or.inr rfl))) hf))
      · obtain ⟨e1, e2⟩ := z_ret hf
        subst e1
        subst e2
        exact gx_end 14 [.inl 0, .inl 0, .inl 0] [¬ (a1 < 0), ¬ ((σ 1 4) ≤ a1), ¬ (a1 < (nI 4))] rfl ⟨h1, h2, h3, trivial⟩
set_option maxHeartbeats 16000000 in
set_option maxRecDepth 20000 in
theorem ww_Sf_played (D : Nat) (hD : 8 ≤ D) (a1 : Int32) (σ : gx_R) (rr : Int32) (σ' : gx_R) (hf : Sf_played a1 σ = some (rr, σ')) : E0 D 111 [.ref 0, .int a1] σ (some (.int rr)) σ' := by
  cases D with
  | zero => omega
  | succ D => exact Or.inl ⟨Nat.le_of_ble_eq_true rfl, vv_Sf_played_E D hD rr σ' a1 σ hf⟩
set_option maxHeartbeats 16000000 in
set_option maxRecDepth 20000 in
theorem vv_Sf_undo_E (D : Nat) (hD : 3 ≤ D + 1) (rr : Int32) (σ' : gx_R) (σ : gx_R) (hf : Sf_undo  σ = some (rr, σ')) : gx_Ev lay0 (E0 D) tt_112 (some (.int rr)) σ' 0 [.ref 0] [] σ := by
  unfold Sf_undo at hf
  obtain ⟨r1, σ2, h3, hf⟩ := z_bd_inv hf
  rcases z_if_inv hf with ⟨h4, hf⟩ | ⟨h4, hf⟩
  · obtain ⟨e1, e2⟩ := z_ret hf
    subst e1
    subst e2
    exact gx_end 10 [.inr (some (.int r1), σ2), .inl 1] [E0 D 20 [.ref 16, .ref 9] σ (some (.int r1)) σ2, r1 = 0] rfl ⟨(ww_St_pop D (by omega) σ r1 σ2 h3), h4, trivial⟩
  · obtain ⟨e1, e2⟩ := z_ret hf
    subst e1
    subst e2
    exact gx_end 14 [.inr (some (.int r1), σ2), .inl 0] [E0 D 20 [.ref 16, .ref 9] σ (some (.int r1)) σ2, ¬ (r1 = 0)] rfl ⟨(ww_St_pop D (by omega) σ r1 σ2 h3), h4, trivial⟩
set_option maxHeartbeats 16000000 in
set_option maxRecDepth 20000 in
theorem ww_Sf_undo (D : Nat) (hD : 3 ≤ D) (σ : gx_R) (rr : Int32) (σ' : gx_R) (hf : Sf_undo  σ = some (rr, σ')) : E0 D 112 [.ref 0] σ (some (.int rr)) σ' := by
  cases D with
  | zero => omega
  | succ D => exact Or.inl ⟨Nat.le_of_ble_eq_true rfl, vv_Sf_undo_E D hD rr σ' σ hf⟩
set_option maxHeartbeats 16000000 in
set_option maxRecDepth 20000 in
theorem vv_Sf_of_E (D : Nat) (hD : 5 ≤ D + 1) (rr : Int32) (σ' : gx_R) (a1 : Int32) (a2 : Int32) (σ : gx_R) (hf : Sf_of a1 a2 σ = some (rr, σ')) : gx_Ev lay0 (E0 D) tt_113 (some (.int rr)) σ' 0 [.ref 0, .int a1, .int a2, .null, .null] [] σ := by
  unfold Sf_of at hf
  obtain ⟨r1, σ2, h3, hf⟩ := z_bd_inv hf
  rcases z_if_inv hf with ⟨h4, hf⟩ | ⟨h4, hf⟩
  · obtain ⟨e1, e2⟩ := z_ret hf
    subst e1
    subst e2
    exact gx_end 10 [.inr (some (.int r1), σ2), .inl 0] [E0 D 1 [.ref 2, .int a1] σ (some (.int r1)) σ2, ¬ ¬ (r1 = 0)] rfl ⟨(ww_Fo_isPerson D (by omega) a1 σ r1 σ2 h3), (fun q => q h4), trivial⟩
  · rcases z_if_inv hf with ⟨h5, hf⟩ | ⟨h5, hf⟩
    · obtain ⟨h6, hf⟩ := z_ck_inv hf
      obtain ⟨e1, e2⟩ := z_ret hf
      subst e1
      subst e2
      exact gx_end 19 [.inr (some (.int r1), σ2), .inl 1, .inl 1] [E0 D 1 [.ref 2, .int a1] σ (some (.int r1)) σ2, ¬ (r1 = 0), a2.toInt = 0 + (0 : Nat), vp_in a1 8] rfl ⟨(ww_Fo_isPerson D (by omega) a1 σ r1 σ2 h3), h4, (z_sw_in h5 (by decide)), (z_ix_in h6), trivial⟩
    · skip
      rcases z_if_inv hf with ⟨h7, hf⟩ | ⟨h7, hf⟩
      · obtain ⟨h8, hf⟩ := z_ck_inv hf
        obtain ⟨e1, e2⟩ := z_ret hf
        subst e1
        subst e2
        exact gx_end 19 [.inr (some (.int r1), σ2), .inl 1, .inl 2] [E0 D 1 [.ref 2, .int a1] σ (some (.int r1)) σ2, ¬ (r1 = 0), a2.toInt = 0 + (1 : Nat), vp_in a1 8] rfl ⟨(ww_Fo_isPerson D (by omega) a1 σ r1 σ2 h3), h4, (z_sw_in h7 (by decide)), (z_ix_in h8), trivial⟩
      · skip
        rcases z_if_inv hf with ⟨h9, hf⟩ | ⟨h9, hf⟩
        · obtain ⟨h10, hf⟩ := z_ck_inv hf
          obtain ⟨e1, e2⟩ := z_ret hf
          subst e1
          subst e2
          exact gx_end 19 [.inr (some (.int r1), σ2), .inl 1, .inl 3] [E0 D 1 [.ref 2, .int a1] σ (some (.int r1)) σ2, ¬ (r1 = 0), a2.toInt = 0 + (2 : Nat), vp_in a1 8] rfl ⟨(ww_Fo_isPerson D (by omega) a1 σ r1 σ2 h3), h4, (z_sw_in h9 (by decide)), (z_ix_in h10), trivial⟩
        · skip
          rcases z_if_inv hf with ⟨h11, hf⟩ | ⟨h11, hf⟩
          · obtain ⟨h12, hf⟩ := z_ck_inv hf
            obtain ⟨e1, e2⟩ := z_ret hf
            subst e1
            subst e2
            exact gx_end 19 [.inr (some (.int r1), σ2), .inl 1, .inl 4] [E0 D 1 [.ref 2, .int a1] σ (some (.int r1)) σ2, ¬ (r1 = 0), a2.toInt = 0 + (3 : Nat), vp_in a1 8] rfl ⟨(ww_Fo_isPerson D (by omega) a1 σ r1 σ2 h3), h4, (z_sw_in h11 (by decide)), (z_ix_in h12), trivial⟩
          · skip
            rcases z_if_inv hf with ⟨h13, hf⟩ | ⟨h13, hf⟩
            · obtain ⟨h14, hf⟩ := z_ck_inv hf
              obtain ⟨e1, e2⟩ := z_ret hf
              subst e1
              subst e2
              exact gx_end 19 [.inr (some (.int r1), σ2), .inl 1, .inl 5] [E0 D 1 [.ref 2, .int a1] σ (some (.int r1)) σ2, ¬ (r1 = 0), a2.toInt = 0 + (4 : Nat), vp_in a1 8] rfl ⟨(ww_Fo_isPerson D (by omega) a1 σ r1 σ2 h3), h4, (z_sw_in h13 (by decide)), (z_ix_in h14), trivial⟩
            · skip
              rcases z_if_inv hf with ⟨h15, hf⟩ | ⟨h15, hf⟩
              · obtain ⟨h16, hf⟩ := z_ck_inv hf
                obtain ⟨e1, e2⟩ := z_ret hf
                subst e1
                subst e2
                exact gx_end 19 [.inr (some (.int r1), σ2), .inl 1, .inl 6] [E0 D 1 [.ref 2, .int a1] σ (some (.int r1)) σ2, ¬ (r1 = 0), a2.toInt = 0 + (5 : Nat), vp_in a1 8] rfl ⟨(ww_Fo_isPerson D (by omega) a1 σ r1 σ2 h3), h4, (z_sw_in h15 (by decide)), (z_ix_in h16), trivial⟩
              · skip
                rcases z_if_inv hf with ⟨h17, hf⟩ | ⟨h17, hf⟩
                · obtain ⟨h18, hf⟩ := z_ck_inv hf
                  obtain ⟨e1, e2⟩ := z_ret hf
                  subst e1
                  subst e2
                  exact gx_end 19 [.inr (some (.int r1), σ2), .inl 1, .inl 7] [E0 D 1 [.ref 2, .int a1] σ (some (.int r1)) σ2, ¬ (r1 = 0), a2.toInt = 0 + (6 : Nat), vp_in a1 8] rfl ⟨(ww_Fo_isPerson D (by omega) a1 σ r1 σ2 h3), h4, (z_sw_in h17 (by decide)), (z_ix_in h18), trivial⟩
                · skip
                  rcases z_if_inv hf with ⟨h19, hf⟩ | ⟨h19, hf⟩
                  · obtain ⟨h20, hf⟩ := z_ck_inv hf
                    obtain ⟨e1, e2⟩ := z_ret hf
                    subst e1
                    subst e2
                    exact gx_end 19 [.inr (some (.int r1), σ2), .inl 1, .inl 8] [E0 D 1 [.ref 2, .int a1] σ (some (.int r1)) σ2, ¬ (r1 = 0), a2.toInt = 0 + (7 : Nat), vp_in a1 8] rfl ⟨(ww_Fo_isPerson D (by omega) a1 σ r1 σ2 h3), h4, (z_sw_in h19 (by decide)), (z_ix_in h20), trivial⟩
                  · skip
                    rcases z_if_inv hf with ⟨h21, hf⟩ | ⟨h21, hf⟩
                    · obtain ⟨h22, hf⟩ := z_ck_inv hf
                      obtain ⟨r23, σ24, h25, hf⟩ := z_bd_inv hf
                      obtain ⟨e1, e2⟩ := z_ret hf
                      subst e1
                      subst e2
                      exact gx_end 25 [.inr (some (.int r1), σ2), .inl 1, .inl 9, .inr (some (.int r23), σ24)] [E0 D 1 [.ref 2, .int a1] σ (some (.int r1)) σ2, ¬ (r1 = 0), a2.toInt = 0 + (8 : Nat), vp_in a1 8, E0 D 26 [.ref 50, .int a1, .int (σ2 12 a1.toNatClampNeg), .int (σ2 9 6)] σ2 (some (.int r23)) σ24] rfl ⟨(ww_Fo_isPerson D (by omega) a1 σ r1 σ2 h3), h4, (z_sw_in h21 (by decide)), (z_ix_in h22), (ww_La_soundOf D (by omega) a1 (σ2 12 a1.toNatClampNeg) (σ2 9 6) σ2 r23 σ24 h25), trivial⟩
                    · skip
                      rcases z_if_inv hf with ⟨h26, hf⟩ | ⟨h26, hf⟩
                      · obtain ⟨r27, σ28, h29, hf⟩ := z_bd_inv hf
                        rcases z_if_inv hf with ⟨h30, hf⟩ | ⟨h30, hf⟩
                        · obtain ⟨e1, e2⟩ := z_ret hf
                          subst e1
                          subst e2
                          exact gx_end 21 [.inr (some (.int r1), σ2), .inl 1, .inl 10, .inr (some (.int r27), σ28), .inl 1] [E0 D 1 [.ref 2, .int a1] σ (some (.int r1)) σ2, ¬ (r1 = 0), a2.toInt = 0 + (9 : Nat), E0 D 135 [.ref 0, .int a1, .int (1 : Int32)] σ2 (some (.int r27)) σ28, r27 = 0] rfl ⟨(ww_Fo_isPerson D (by omega) a1 σ r1 σ2 h3), h4, (z_sw_in h26 (by decide)), (ww_Sf_isDoing D (by omega) a1 (1 : Int32) σ2 r27 σ28 h29), h30, trivial⟩
                        · obtain ⟨r31, σ32, h33, hf⟩ := z_bd_inv hf
                          obtain ⟨e1, e2⟩ := z_ret hf
                          subst e1
                          subst e2
                          exact gx_end 26 [.inr (some (.int r1), σ2), .inl 1, .inl 10, .inr (some (.int r27), σ28), .inl 0, .inr (some (.int r31), σ32)] [E0 D 1 [.ref 2, .int a1] σ (some (.int r1)) σ2, ¬ (r1 = 0), a2.toInt = 0 + (9 : Nat), E0 D 135 [.ref 0, .int a1, .int (1 : Int32)] σ2 (some (.int r27)) σ28, ¬ (r27 = 0), E0 D 29 [.ref 50, .ref 9, .int a1] σ28 (some (.int r31)) σ32] rfl ⟨(ww_Fo_isPerson D (by omega) a1 σ r1 σ2 h3), h4, (z_sw_in h26 (by decide)), (ww_Sf_isDoing D (by omega) a1 (1 : Int32) σ2 r27 σ28 h29), h30, (ww_La_burnNow D (by omega) 9 a1 σ28 r31 σ32 (Or.inl rfl) h33), trivial⟩
                      · skip
                        rcases z_if_inv hf with ⟨h34, hf⟩ | ⟨h34, hf⟩
                        · obtain ⟨r35, σ36, h37, hf⟩ := z_bd_inv hf
                          rcases z_if_inv hf with ⟨h38, hf⟩ | ⟨h38, hf⟩
                          · obtain ⟨e1, e2⟩ := z_ret hf
                            subst e1
                            subst e2
                            exact gx_end 21 [.inr (some (.int r1), σ2), .inl 1, .inl 11, .inr (some (.int r35), σ36), .inl 1] [E0 D 1 [.ref 2, .int a1] σ (some (.int r1)) σ2, ¬ (r1 = 0), a2.toInt = 0 + (10 : Nat), E0 D 135 [.ref 0, .int a1, .int (2 : Int32)] σ2 (some (.int r35)) σ36, r35 = 0] rfl ⟨(ww_Fo_isPerson D (by omega) a1 σ r1 σ2 h3), h4, (z_sw_in h34 (by decide)), (ww_Sf_isDoing D (by omega) a1 (2 : Int32) σ2 r35 σ36 h37), h38, trivial⟩
                          · obtain ⟨h39, hf⟩ := z_ck_inv hf
                            obtain ⟨r40, σ41, h42, hf⟩ := z_bd_inv hf
                            obtain ⟨e1, e2⟩ := z_ret hf
                            subst e1
                            subst e2
                            exact gx_end 30 [.inr (some (.int r1), σ2), .inl 1, .inl 11, .inr (some (.int r35), σ36), .inl 0, .inr (some (.int r40), σ41)] [E0 D 1 [.ref 2, .int a1] σ (some (.int r1)) σ2, ¬ (r1 = 0), a2.toInt = 0 + (10 : Nat), E0 D 135 [.ref 0, .int a1, .int (2 : Int32)] σ2 (some (.int r35)) σ36, ¬ (r35 = 0), vp_in a1 8, E0 D 28 [.ref 50, .ref 9, .int a1, .int (σ36 13 a1.toNatClampNeg)] σ36 (some (.int r40)) σ41] rfl ⟨(ww_Fo_isPerson D (by omega) a1 σ r1 σ2 h3), h4, (z_sw_in h34 (by decide)), (ww_Sf_isDoing D (by omega) a1 (2 : Int32) σ2 r35 σ36 h37), h38, (z_ix_in h39), (ww_La_worthNow D (by omega) a1 (σ36 13 a1.toNatClampNeg) σ36 r40 σ41 h42), trivial⟩
                        · skip
                          rcases z_if_inv hf with ⟨h43, hf⟩ | ⟨h43, hf⟩
                          · obtain ⟨r44, σ45, h46, hf⟩ := z_bd_inv hf
                            rcases z_if_inv hf with ⟨h47, hf⟩ | ⟨h47, hf⟩
                            · obtain ⟨e1, e2⟩ := z_ret hf
                              subst e1
                              subst e2
                              exact gx_end 21 [.inr (some (.int r1), σ2), .inl 1, .inl 12, .inr (some (.int r44), σ45), .inl 1] [E0 D 1 [.ref 2, .int a1] σ (some (.int r1)) σ2, ¬ (r1 = 0), a2.toInt = 0 + (11 : Nat), E0 D 135 [.ref 0, .int a1, .int (1 : Int32)] σ2 (some (.int r44)) σ45, r44 = 0] rfl ⟨(ww_Fo_isPerson D (by omega) a1 σ r1 σ2 h3), h4, (z_sw_in h43 (by decide)), (ww_Sf_isDoing D (by omega) a1 (1 : Int32) σ2 r44 σ45 h46), h47, trivial⟩
                            · obtain ⟨r48, σ49, h50, hf⟩ := z_bd_inv hf
                              obtain ⟨e1, e2⟩ := z_ret hf
                              subst e1
                              subst e2
                              exact gx_end 26 [.inr (some (.int r1), σ2), .inl 1, .inl 12, .inr (some (.int r44), σ45), .inl 0, .inr (some (.int r48), σ49)] [E0 D 1 [.ref 2, .int a1] σ (some (.int r1)) σ2, ¬ (r1 = 0), a2.toInt = 0 + (11 : Nat), E0 D 135 [.ref 0, .int a1, .int (1 : Int32)] σ2 (some (.int r44)) σ45, ¬ (r44 = 0), E0 D 30 [.ref 50, .ref 9, .int a1] σ45 (some (.int r48)) σ49] rfl ⟨(ww_Fo_isPerson D (by omega) a1 σ r1 σ2 h3), h4, (z_sw_in h43 (by decide)), (ww_Sf_isDoing D (by omega) a1 (1 : Int32) σ2 r44 σ45 h46), h47, (ww_La_fuelNow D (by omega) 9 a1 σ45 r48 σ49 (Or.inl rfl) h50), trivial⟩
                          · skip
                            refine gx_go_ 13 [.inr (some (.int r1), σ2), .inl 1] [E0 D 1 [.ref 2, .int a1] σ (some (.int r1)) σ2, ¬ (r1 = 0)] 15 [.ref 0, .int a1, .int a2, .ref 2, .ref 9] [.int a2] σ2 rfl ⟨(ww_Fo_isPerson D (by omega) a1 σ r1 σ2 h3), h4, trivial⟩ ?_
                            refine gx_sw (td := 110) (tt := [16, 21, 26, 31, 36, 41, 46, 51, 56, 67, 80, 97]) (lo := 0) rfl rfl ?_
                            rw [gx_swt_df (td := 110) (tt := [16, 21, 26, 31, 36, 41, 46, 51, 56, 67, 80, 97]) (lo := 0) ⟨Or.inr (z_sw_ne h5 (by decide)), Or.inr (z_sw_ne h7 (by decide)), Or.inr (z_sw_ne h9 (by decide)), Or.inr (z_sw_ne h11 (by decide)), Or.inr (z_sw_ne h13 (by decide)), Or.inr (z_sw_ne h15 (by decide)), Or.inr (z_sw_ne h17 (by decide)), Or.inr (z_sw_ne h19 (by decide)), Or.inr (z_sw_ne h21 (by decide)), Or.inr (z_sw_ne h26 (by decide)), Or.inr (z_sw_ne h34 (by decide)), Or.inr (z_sw_ne h43 (by decide)), trivial⟩]
                            obtain ⟨e1, e2⟩ := z_ret hf
                            subst e1
                            subst e2
                            exact gx_end 2 [] [] rfl trivial
set_option maxHeartbeats 16000000 in
set_option maxRecDepth 20000 in
theorem ww_Sf_of (D : Nat) (hD : 5 ≤ D) (a1 : Int32) (a2 : Int32) (σ : gx_R) (rr : Int32) (σ' : gx_R) (hf : Sf_of a1 a2 σ = some (rr, σ')) : E0 D 113 [.ref 0, .int a1, .int a2] σ (some (.int rr)) σ' := by
  cases D with
  | zero => omega
  | succ D => exact Or.inl ⟨Nat.le_of_ble_eq_true rfl, vv_Sf_of_E D hD rr σ' a1 a2 σ hf⟩
set_option maxHeartbeats 16000000 in
set_option maxRecDepth 20000 in
theorem vv_Sf_ofWork_E (D : Nat) (hD : 2 ≤ D + 1) (rr : Int32) (σ' : gx_R) (a1 : Int32) (a2 : Int32) (σ : gx_R) (hf : Sf_ofWork a1 a2 σ = some (rr, σ')) : gx_Ev lay0 (E0 D) tt_114 (some (.int rr)) σ' 0 [.ref 0, .int a1, .int a2, .null] [] σ := by
  unfold Sf_ofWork at hf
  obtain ⟨r1, σ2, h3, hf⟩ := z_bd_inv hf
  rcases z_if_inv hf with ⟨h4, hf⟩ | ⟨h4, hf⟩
  · obtain ⟨e1, e2⟩ := z_ret hf
    subst e1
    subst e2
    exact gx_end 10 [.inr (some (.int r1), σ2), .inl 0] [E0 D 2 [.ref 2, .int a1] σ (some (.int r1)) σ2, ¬ ¬ (r1 = 0)] rfl ⟨(ww_Fo_isWork D (by omega) a1 σ r1 σ2 h3), (fun q => q h4), trivial⟩
  · rcases z_if_inv hf with ⟨h5, hf⟩ | ⟨h5, hf⟩
    · obtain ⟨h6, hf⟩ := z_ck_inv hf
      obtain ⟨e1, e2⟩ := z_ret hf
      subst e1
      subst e2
      exact gx_end 15 [.inr (some (.int r1), σ2), .inl 1, .inl 1] [E0 D 2 [.ref 2, .int a1] σ (some (.int r1)) σ2, ¬ (r1 = 0), a2.toInt = 0 + (0 : Nat), vp_in a1 6] rfl ⟨(ww_Fo_isWork D (by omega) a1 σ r1 σ2 h3), h4, (z_sw_in h5 (by decide)), (z_ix_in h6), trivial⟩
    · skip
      rcases z_if_inv hf with ⟨h7, hf⟩ | ⟨h7, hf⟩
      · obtain ⟨h8, hf⟩ := z_ck_inv hf
        obtain ⟨e1, e2⟩ := z_ret hf
        subst e1
        subst e2
        exact gx_end 15 [.inr (some (.int r1), σ2), .inl 1, .inl 2] [E0 D 2 [.ref 2, .int a1] σ (some (.int r1)) σ2, ¬ (r1 = 0), a2.toInt = 0 + (1 : Nat), vp_in a1 6] rfl ⟨(ww_Fo_isWork D (by omega) a1 σ r1 σ2 h3), h4, (z_sw_in h7 (by decide)), (z_ix_in h8), trivial⟩
      · skip
        rcases z_if_inv hf with ⟨h9, hf⟩ | ⟨h9, hf⟩
        · obtain ⟨h10, hf⟩ := z_ck_inv hf
          obtain ⟨e1, e2⟩ := z_ret hf
          subst e1
          subst e2
          exact gx_end 17 [.inr (some (.int r1), σ2), .inl 1, .inl 3] [E0 D 2 [.ref 2, .int a1] σ (some (.int r1)) σ2, ¬ (r1 = 0), a2.toInt = 0 + (2 : Nat), vp_in a1 6] rfl ⟨(ww_Fo_isWork D (by omega) a1 σ r1 σ2 h3), h4, (z_sw_in h9 (by decide)), (z_ix_in h10), trivial⟩
        · skip
          refine gx_go_ 9 [.inr (some (.int r1), σ2), .inl 1] [E0 D 2 [.ref 2, .int a1] σ (some (.int r1)) σ2, ¬ (r1 = 0)] 11 [.ref 0, .int a1, .int a2, .ref 2] [.int a2] σ2 rfl ⟨(ww_Fo_isWork D (by omega) a1 σ r1 σ2 h3), h4, trivial⟩ ?_
          refine gx_sw (td := 29) (tt := [12, 17, 22]) (lo := 0) rfl rfl ?_
          rw [gx_swt_df (td := 29) (tt := [12, 17, 22]) (lo := 0) ⟨Or.inr (z_sw_ne h5 (by decide)), Or.inr (z_sw_ne h7 (by decide)), Or.inr (z_sw_ne h9 (by decide)), trivial⟩]
          obtain ⟨e1, e2⟩ := z_ret hf
          subst e1
          subst e2
          exact gx_end 2 [] [] rfl trivial
set_option maxHeartbeats 16000000 in
set_option maxRecDepth 20000 in
theorem ww_Sf_ofWork (D : Nat) (hD : 2 ≤ D) (a1 : Int32) (a2 : Int32) (σ : gx_R) (rr : Int32) (σ' : gx_R) (hf : Sf_ofWork a1 a2 σ = some (rr, σ')) : E0 D 114 [.ref 0, .int a1, .int a2] σ (some (.int rr)) σ' := by
  cases D with
  | zero => omega
  | succ D => exact Or.inl ⟨Nat.le_of_ble_eq_true rfl, vv_Sf_ofWork_E D hD rr σ' a1 a2 σ hf⟩
set_option maxHeartbeats 16000000 in
set_option maxRecDepth 20000 in
theorem vv_Sf_owes_E (D : Nat) (hD : 2 ≤ D + 1) (rr : Int32) (σ' : gx_R) (a1 : Int32) (a2 : Int32) (σ : gx_R) (hf : Sf_owes a1 a2 σ = some (rr, σ')) : gx_Ev lay0 (E0 D) tt_115 (some (.int rr)) σ' 0 [.ref 0, .int a1, .int a2] [] σ := by
  unfold Sf_owes at hf
  obtain ⟨r1, σ2, h3, hf⟩ := z_bd_inv hf
  rcases z_if_inv hf with ⟨h4, hf⟩ | ⟨h4, hf⟩
  · obtain ⟨e1, e2⟩ := z_ret hf
    subst e1
    subst e2
    exact gx_end 8 [.inr (some (.int r1), σ2), .inl 1] [E0 D 1 [.ref 2, .int a1] σ (some (.int r1)) σ2, r1 = 0] rfl ⟨(ww_Fo_isPerson D (by omega) a1 σ r1 σ2 h3), h4, trivial⟩
  · obtain ⟨r5, σ6, h7, hf⟩ := z_bd_inv hf
    rcases z_if_inv hf with ⟨h8, hf⟩ | ⟨h8, hf⟩
    · obtain ⟨e1, e2⟩ := z_ret hf
      subst e1
      subst e2
      exact gx_end 14 [.inr (some (.int r1), σ2), .inl 0, .inr (some (.int r5), σ6), .inl 0] [E0 D 1 [.ref 2, .int a1] σ (some (.int r1)) σ2, ¬ (r1 = 0), E0 D 1 [.ref 2, .int a2] σ2 (some (.int r5)) σ6, ¬ ¬ (r5 = 0)] rfl ⟨(ww_Fo_isPerson D (by omega) a1 σ r1 σ2 h3), h4, (ww_Fo_isPerson D (by omega) a2 σ2 r5 σ6 h7), (fun q => q h8), trivial⟩
    · obtain ⟨h9, hf⟩ := z_ck_inv hf
      obtain ⟨e1, e2⟩ := z_ret hf
      subst e1
      subst e2
      exact gx_end 23 [.inr (some (.int r1), σ2), .inl 0, .inr (some (.int r5), σ6), .inl 1] [E0 D 1 [.ref 2, .int a1] σ (some (.int r1)) σ2, ¬ (r1 = 0), E0 D 1 [.ref 2, .int a2] σ2 (some (.int r5)) σ6, ¬ (r5 = 0), vp_in ((a1 * (8 : Int32)) + a2) 64] rfl ⟨(ww_Fo_isPerson D (by omega) a1 σ r1 σ2 h3), h4, (ww_Fo_isPerson D (by omega) a2 σ2 r5 σ6 h7), h8, (z_ix_in h9), trivial⟩
set_option maxHeartbeats 16000000 in
set_option maxRecDepth 20000 in
theorem ww_Sf_owes (D : Nat) (hD : 2 ≤ D) (a1 : Int32) (a2 : Int32) (σ : gx_R) (rr : Int32) (σ' : gx_R) (hf : Sf_owes a1 a2 σ = some (rr, σ')) : E0 D 115 [.ref 0, .int a1, .int a2] σ (some (.int rr)) σ' := by
  cases D with
  | zero => omega
  | succ D => exact Or.inl ⟨Nat.le_of_ble_eq_true rfl, vv_Sf_owes_E D hD rr σ' a1 a2 σ hf⟩
set_option maxHeartbeats 16000000 in
set_option maxRecDepth 20000 in
theorem vv_Sf_kept_19 (D : Nat) (hD : 2 ≤ D + 1) (rr : Int32) (σ' : gx_R) (K20 : Int32 → Int32 → Int32 → gx_R → Option (Int32 × gx_R)) (hK20 : ∀ (a1 : Int32) (a2 : Int32) (s0 : Int32) (σ : gx_R), K20 a1 a2 s0 σ = some (rr, σ') → gx_Ev lay0 (E0 D) tt_116 (some (.int rr)) σ' 20 [.ref 0, .int a1, .int a2, .null] [.int s0] σ) (a1 : Int32) (a2 : Int32) (σ : gx_R) (hf : Sf_kept_19 K20 a1 a2 σ = some (rr, σ')) : gx_Ev lay0 (E0 D) tt_116 (some (.int rr)) σ' 19 [.ref 0, .int a1, .int a2, .null] [] σ := by
  unfold Sf_kept_19 at hf
  exact gx_go_ 1 [] [] 20 [.ref 0, .int a1, .int a2, .null] [.int (0 : Int32)] σ rfl trivial (gx_fgt (ls' := [.ref 0, .int a1, .int a2, .null]) ⟨Or.inr rfl, Or.inr rfl, Or.inr rfl, Or.inl rfl, trivial⟩ (hK20 a1 a2 (0 : Int32) σ hf))
set_option maxHeartbeats 16000000 in
set_option maxRecDepth 20000 in
theorem vv_Sf_kept_20 (D : Nat) (hD : 2 ≤ D + 1) (rr : Int32) (σ' : gx_R) (a1 : Int32) (a2 : Int32) (s0 : Int32) (σ : gx_R) (hf : Sf_kept_20 a1 a2 s0 σ = some (rr, σ')) : gx_Ev lay0 (E0 D) tt_116 (some (.int rr)) σ' 20 [.ref 0, .int a1, .int a2, .null] [.int s0] σ := by
  unfold Sf_kept_20 at hf
  rcases z_if_inv hf with ⟨h1, hf⟩ | ⟨h1, hf⟩
  · obtain ⟨e1, e2⟩ := z_ret hf
    subst e1
    subst e2
    exact gx_end 5 [.inl 1] [s0 = 0] rfl ⟨h1, trivial⟩
  · rcases z_if_inv hf with ⟨h2, hf⟩ | ⟨h2, hf⟩
    · obtain ⟨e1, e2⟩ := z_ret hf
      subst e1
      subst e2
      exact gx_end 7 [.inl 0, .inl 1] [¬ (s0 = 0), a2 < 0] rfl ⟨h1, h2, trivial⟩
    · rcases z_if_inv hf with ⟨h3, hf⟩ | ⟨h3, hf⟩
      · obtain ⟨h4, hf⟩ := z_ck_inv hf
        obtain ⟨e1, e2⟩ := z_ret hf
        subst e1
        subst e2
        exact gx_end 20 [.inl 0, .inl 0, .inl 1] [¬ (s0 = 0), ¬ (a2 < 0), a2 ≤ (2 : Int32), vp_in a1 999] rfl ⟨h1, h2, h3, (z_ix_in h4), trivial⟩
      · obtain ⟨e1, e2⟩ := z_ret hf
        subst e1
        subst e2
        exact gx_end 10 [.inl 0, .inl 0, .inl 0] [¬ (s0 = 0), ¬ (a2 < 0), ¬ (a2 ≤ (2 : Int32))] rfl ⟨h1, h2, h3, trivial⟩
set_option maxHeartbeats 16000000 in
set_option maxRecDepth 20000 in
theorem vv_Sf_kept_E (D : Nat) (hD : 2 ≤ D + 1) (rr : Int32) (σ' : gx_R) (a1 : Int32) (a2 : Int32) (σ : gx_R) (hf : Sf_kept a1 a2 σ = some (rr, σ')) : gx_Ev lay0 (E0 D) tt_116 (some (.int rr)) σ' 0 [.ref 0, .int a1, .int a2, .null] [] σ := by
  unfold Sf_kept at hf
  obtain ⟨r1, σ2, h3, hf⟩ := z_bd_inv hf
  rcases z_if_inv hf with ⟨h4, hf⟩ | ⟨h4, hf⟩
  · exact gx_go_ 5 [.inr (some (.int r1), σ2), .inl 1] [E0 D 22 [.ref 1] σ (some (.int r1)) σ2, a1 < r1] 19 [.ref 0, .int a1, .int a2, .null] [] σ2 rfl ⟨(ww_Va_firstKept D (by omega) σ r1 σ2 h3), h4, trivial⟩ (gx_fgt (ls' := [.ref 0, .int a1, .int a2, .null]) ⟨Or.inr rfl, Or.inr rfl, Or.inr rfl, Or.inl rfl, trivial⟩ (vv_Sf_kept_19 D hD rr σ' (Sf_kept_20) (vv_Sf_kept_20 D hD rr σ') a1 a2 σ2 hf))
  · rcases z_if_inv hf with ⟨h5, hf⟩ | ⟨h5, hf⟩
    · exact gx_go_ 11 [.inr (some (.int r1), σ2), .inl 0, .inl 1] [E0 D 22 [.ref 1] σ (some (.int r1)) σ2, ¬ (a1 < r1), (σ2 9 6) ≤ a1] 19 [.ref 0, .int a1, .int a2, .null] [] σ2 rfl ⟨(ww_Va_firstKept D (by omega) σ r1 σ2 h3), h4, h5, trivial⟩ (gx_fgt (ls' := [.ref 0, .int a1, .int a2, .null]) ⟨Or.inr rfl, Or.inr rfl, Or.inr rfl, Or.inl rfl, trivial⟩ (vv_Sf_kept_19 D hD rr σ' (Sf_kept_20) (vv_Sf_kept_20 D hD rr σ') a1 a2 σ2 hf))
    · rcases z_if_inv hf with ⟨h6, hf⟩ | ⟨h6, hf⟩
      · exact gx_go_ 17 [.inr (some (.int r1), σ2), .inl 0, .inl 0, .inl 1] [E0 D 22 [.ref 1] σ (some (.int r1)) σ2, ¬ (a1 < r1), ¬ ((σ2 9 6) ≤ a1), (nI 999) ≤ a1] 19 [.ref 0, .int a1, .int a2, .null] [] σ2 rfl ⟨(ww_Va_firstKept D (by omega) σ r1 σ2 h3), h4, h5, h6, trivial⟩ (gx_fgt (ls' := [.ref 0, .int a1, .int a2, .null]) ⟨Or.inr rfl, Or.inr rfl, Or.inr rfl, Or.inl rfl, trivial⟩ (vv_Sf_kept_19 D hD rr σ' (Sf_kept_20) (vv_Sf_kept_20 D hD rr σ') a1 a2 σ2 hf))
      · exact gx_go_ 19 [.inr (some (.int r1), σ2), .inl 0, .inl 0, .inl 0] [E0 D 22 [.ref 1] σ (some (.int r1)) σ2, ¬ (a1 < r1), ¬ ((σ2 9 6) ≤ a1), ¬ ((nI 999) ≤ a1)] 20 [.ref 0, .int a1, .int a2, .null] [.int (1 : Int32)] σ2 rfl ⟨(ww_Va_firstKept D (by omega) σ r1 σ2 h3), h4, h5, h6, trivial⟩ (gx_fgt (ls' := [.ref 0, .int a1, .int a2, .null]) ⟨Or.inr rfl, Or.inr rfl, Or.inr rfl, Or.inl rfl, trivial⟩ (vv_Sf_kept_20 D hD rr σ' a1 a2 (1 : Int32) σ2 hf))
set_option maxHeartbeats 16000000 in
set_option maxRecDepth 20000 in
theorem ww_Sf_kept (D : Nat) (hD : 2 ≤ D) (a1 : Int32) (a2 : Int32) (σ : gx_R) (rr : Int32) (σ' : gx_R) (hf : Sf_kept a1 a2 σ = some (rr, σ')) : E0 D 116 [.ref 0, .int a1, .int a2] σ (some (.int rr)) σ' := by
  cases D with
  | zero => omega
  | succ D => exact Or.inl ⟨Nat.le_of_ble_eq_true rfl, vv_Sf_kept_E D hD rr σ' a1 a2 σ hf⟩
set_option maxHeartbeats 16000000 in
set_option maxRecDepth 20000 in
theorem vv_Sf_foretoldDone_32 (D : Nat) (hD : 6 ≤ D + 1) (rr : Int32) (σ' : gx_R) (a2 : Int32) (σ : gx_R) (hf : Sf_foretoldDone_32 a2 σ = some (rr, σ')) : gx_Ev lay0 (E0 D) tt_117 (some (.int rr)) σ' 32 [.ref 0, .null, .int a2, .null] [] σ := by
  unfold Sf_foretoldDone_32 at hf
  obtain ⟨h1, hf⟩ := z_ck_inv hf
  obtain ⟨e1, e2⟩ := z_ret hf
  subst e1
  subst e2
  exact gx_end 6 [] [vp_in a2 6] rfl ⟨(z_ix_in h1), trivial⟩
set_option maxHeartbeats 16000000 in
set_option maxRecDepth 20000 in
theorem vv_Sf_foretoldDone_22_B (D : Nat) (hD : 6 ≤ D + 1) (rr : Int32) (σ' : gx_R) (K22 : Int32 → Int32 → Int32 → gx_R → Option (Int32 × gx_R)) (hK22 : ∀ (a1 : Int32) (a2 : Int32) (a3 : Int32) (σ : gx_R), K22 a1 a2 a3 σ = some (rr, σ') → gx_Ev lay0 (E0 D) tt_117 (some (.int rr)) σ' 22 [.ref 0, .int a1, .int a2, .int a3] [] σ) (a1 : Int32) (a2 : Int32) (a3 : Int32) (σ : gx_R) (hf : Sf_foretoldDone_22_B K22 a1 a2 a3 σ = some (rr, σ')) : gx_Ev lay0 (E0 D) tt_117 (some (.int rr)) σ' 22 [.ref 0, .int a1, .int a2, .int a3] [] σ := by
  unfold Sf_foretoldDone_22_B at hf
  rcases z_if_inv hf with ⟨h1, hf⟩ | ⟨h1, hf⟩
  · exact gx_go_ 3 [.inl 1] [a1 ≤ a3] 32 [.ref 0, .int a1, .int a2, .int a3] [] σ rfl ⟨h1, trivial⟩ (gx_fgt (ls' := [.ref 0, .null, .int a2, .null]) ⟨Or.inr rfl, Or.inl rfl, Or.inr rfl, Or.inl rfl, trivial⟩ (vv_Sf_foretoldDone_32 D hD rr σ' a2 σ hf))
  · obtain ⟨⟨⟩, σ3, h4, hf⟩ := z_bd_inv hf
    exact gx_go_ 10 [.inl 0, .inr (none, σ3)] [¬ (a1 ≤ a3), E0 D 34 [.ref 53, .ref 56] σ (none) σ3] 22 [.ref 0, .int a1, .int a2, .int (a3 + 1)] [] σ3 rfl ⟨h1, (ww_Cl_pass D (by omega) 56 σ () σ3 (Or.inr rfl) h4), trivial⟩ (gx_fgt (ls' := [.ref 0, .int a1, .int a2, .int (a3 + 1)]) ⟨Or.inr rfl, Or.inr rfl, Or.inr rfl, Or.inr rfl, trivial⟩ (hK22 a1 a2 (a3 + 1) σ3 hf))
set_option maxHeartbeats 16000000 in
set_option maxRecDepth 20000 in
theorem vv_Sf_foretoldDone_22 (D : Nat) (hD : 6 ≤ D + 1) (rr : Int32) (σ' : gx_R) : ∀ (n : Nat) (a1 : Int32) (a2 : Int32) (a3 : Int32) (σ : gx_R), Sf_foretoldDone_22 n a1 a2 a3 σ = some (rr, σ') → gx_Ev lay0 (E0 D) tt_117 (some (.int rr)) σ' 22 [.ref 0, .int a1, .int a2, .int a3] [] σ := by
  intro n
  induction n with
  | zero => intro a1 a2 a3 σ  hf; cases hf
  | succ n ih => intro a1 a2 a3 σ  hf; exact vv_Sf_foretoldDone_22_B D hD rr σ'  (Sf_foretoldDone_22 n) ih a1 a2 a3 σ  hf
set_option maxHeartbeats 16000000 in
set_option maxRecDepth 20000 in
theorem vv_Sf_foretoldDone_E (D : Nat) (hD : 6 ≤ D + 1) (rr : Int32) (σ' : gx_R) (a1 : Int32) (a2 : Int32) (σ : gx_R) (hf : Sf_foretoldDone a1 a2 σ = some (rr, σ')) : gx_Ev lay0 (E0 D) tt_117 (some (.int rr)) σ' 0 [.ref 0, .int a1, .int a2, .null] [] σ := by
  unfold Sf_foretoldDone at hf
  rcases z_if_inv hf with ⟨h1, hf⟩ | ⟨h1, hf⟩
  · obtain ⟨e1, e2⟩ := z_ret hf
    subst e1
    subst e2
    exact gx_end 5 [.inl 1] [a1 < (1 : Int32)] rfl ⟨h1, trivial⟩
  · rcases z_if_inv hf with ⟨h2, hf⟩ | ⟨h2, hf⟩
    · obtain ⟨e1, e2⟩ := z_ret hf
      subst e1
      subst e2
      exact gx_end 8 [.inl 0, .inl 1] [¬ (a1 < (1 : Int32)), (60 : Int32) < a1] rfl ⟨h1, h2, trivial⟩
    · obtain ⟨r3, σ4, h5, hf⟩ := z_bd_inv hf
      rcases z_if_inv hf with ⟨h6, hf⟩ | ⟨h6, hf⟩
      · obtain ⟨e1, e2⟩ := z_ret hf
        subst e1
        subst e2
        exact gx_end 14 [.inl 0, .inl 0, .inr (some (.int r3), σ4), .inl 0] [¬ (a1 < (1 : Int32)), ¬ ((60 : Int32) < a1), E0 D 2 [.ref 2, .int a2] σ (some (.int r3)) σ4, ¬ ¬ (r3 = 0)] rfl ⟨h1, h2, (ww_Fo_isWork D (by omega) a2 σ r3 σ4 h5), (fun q => q h6), trivial⟩
      · obtain ⟨⟨⟩, σ8, h9, hf⟩ := z_bd_inv hf
        exact gx_go_ 20 [.inl 0, .inl 0, .inr (some (.int r3), σ4), .inl 1, .inr (none, σ8)] [¬ (a1 < (1 : Int32)), ¬ ((60 : Int32) < a1), E0 D 2 [.ref 2, .int a2] σ (some (.int r3)) σ4, ¬ (r3 = 0), E0 D 14 [.ref 56, .ref 9] σ4 (none) σ8] 22 [.ref 0, .int a1, .int a2, .int (0 : Int32)] [] σ8 rfl ⟨h1, h2, (ww_Fo_isWork D (by omega) a2 σ r3 σ4 h5), h6, (ww_Ni_copy D (by omega) 56 9 σ4 () σ8 (Or.inr (Or.inr rfl)) (Or.inl rfl) h9), trivial⟩ (gx_fgt (ls' := [.ref 0, .int a1, .int a2, .int (0 : Int32)]) ⟨Or.inr rfl, Or.inr rfl, Or.inr rfl, Or.inr rfl, trivial⟩ (vv_Sf_foretoldDone_22 D hD rr σ' z_FU a1 a2 (0 : Int32) σ8 hf))
set_option maxHeartbeats 16000000 in
set_option maxRecDepth 20000 in
theorem ww_Sf_foretoldDone (D : Nat) (hD : 6 ≤ D) (a1 : Int32) (a2 : Int32) (σ : gx_R) (rr : Int32) (σ' : gx_R) (hf : Sf_foretoldDone a1 a2 σ = some (rr, σ')) : E0 D 117 [.ref 0, .int a1, .int a2] σ (some (.int rr)) σ' := by
  cases D with
  | zero => omega
  | succ D => exact Or.inl ⟨Nat.le_of_ble_eq_true rfl, vv_Sf_foretoldDone_E D hD rr σ' a1 a2 σ hf⟩
set_option maxHeartbeats 16000000 in
set_option maxRecDepth 20000 in
theorem vv_Sf_foretoldStop_21_B (D : Nat) (hD : 6 ≤ D + 1) (rr : Int32) (σ' : gx_R) (K21 : Int32 → Int32 → Int32 → gx_R → Option (Int32 × gx_R)) (hK21 : ∀ (a1 : Int32) (a2 : Int32) (a3 : Int32) (σ : gx_R), K21 a1 a2 a3 σ = some (rr, σ') → gx_Ev lay0 (E0 D) tt_118 (some (.int rr)) σ' 21 [.ref 0, .int a1, .int a2, .int a3] [] σ) (a1 : Int32) (a2 : Int32) (a3 : Int32) (σ : gx_R) (hf : Sf_foretoldStop_21_B K21 a1 a2 a3 σ = some (rr, σ')) : gx_Ev lay0 (E0 D) tt_118 (some (.int rr)) σ' 21 [.ref 0, .int a1, .int a2, .int a3] [] σ := by
  unfold Sf_foretoldStop_21_B at hf
  rcases z_if_inv hf with ⟨h1, hf⟩ | ⟨h1, hf⟩
  · obtain ⟨e1, e2⟩ := z_ret hf
    subst e1
    subst e2
    exact gx_end 5 [.inl 1] [a1 < a3] rfl ⟨h1, trivial⟩
  · obtain ⟨⟨⟩, σ3, h4, hf⟩ := z_bd_inv hf
    rcases z_if_inv hf with ⟨h5, hf⟩ | ⟨h5, hf⟩
    · obtain ⟨e1, e2⟩ := z_ret hf
      subst e1
      subst e2
      exact gx_end 19 [.inl 0, .inr (none, σ3), .inl 0] [¬ (a1 < a3), E0 D 34 [.ref 53, .ref 56] σ (none) σ3, ¬ ¬ ((((σ3 53 5) >>> (a2 &&& 31)) &&& (1 : Int32)) = (1 : Int32))] rfl ⟨h1, (ww_Cl_pass D (by omega) 56 σ () σ3 (Or.inr rfl) h4), (fun q => q h5), trivial⟩
    · exact gx_go_ 19 [.inl 0, .inr (none, σ3), .inl 1] [¬ (a1 < a3), E0 D 34 [.ref 53, .ref 56] σ (none) σ3, ¬ ((((σ3 53 5) >>> (a2 &&& 31)) &&& (1 : Int32)) = (1 : Int32))] 21 [.ref 0, .int a1, .int a2, .int (a3 + 1)] [] σ3 rfl ⟨h1, (ww_Cl_pass D (by omega) 56 σ () σ3 (Or.inr rfl) h4), h5, trivial⟩ (gx_fgt (ls' := [.ref 0, .int a1, .int a2, .int (a3 + 1)]) ⟨Or.inr rfl, Or.inr rfl, Or.inr rfl, Or.inr rfl, trivial⟩ (hK21 a1 a2 (a3 + 1) σ3 hf))
set_option maxHeartbeats 16000000 in
set_option maxRecDepth 20000 in
theorem vv_Sf_foretoldStop_21 (D : Nat) (hD : 6 ≤ D + 1) (rr : Int32) (σ' : gx_R) : ∀ (n : Nat) (a1 : Int32) (a2 : Int32) (a3 : Int32) (σ : gx_R), Sf_foretoldStop_21 n a1 a2 a3 σ = some (rr, σ') → gx_Ev lay0 (E0 D) tt_118 (some (.int rr)) σ' 21 [.ref 0, .int a1, .int a2, .int a3] [] σ := by
  intro n
  induction n with
  | zero => intro a1 a2 a3 σ  hf; cases hf
  | succ n ih => intro a1 a2 a3 σ  hf; exact vv_Sf_foretoldStop_21_B D hD rr σ'  (Sf_foretoldStop_21 n) ih a1 a2 a3 σ  hf
set_option maxHeartbeats 16000000 in
set_option maxRecDepth 20000 in
theorem vv_Sf_foretoldStop_E (D : Nat) (hD : 6 ≤ D + 1) (rr : Int32) (σ' : gx_R) (a1 : Int32) (a2 : Int32) (σ : gx_R) (hf : Sf_foretoldStop a1 a2 σ = some (rr, σ')) : gx_Ev lay0 (E0 D) tt_118 (some (.int rr)) σ' 0 [.ref 0, .int a1, .int a2, .null] [] σ := by
  unfold Sf_foretoldStop at hf
  rcases z_if_inv hf with ⟨h1, hf⟩ | ⟨h1, hf⟩
  · obtain ⟨e1, e2⟩ := z_ret hf
    subst e1
    subst e2
    exact gx_end 5 [.inl 1] [a1 < (1 : Int32)] rfl ⟨h1, trivial⟩
  · rcases z_if_inv hf with ⟨h2, hf⟩ | ⟨h2, hf⟩
    · obtain ⟨e1, e2⟩ := z_ret hf
      subst e1
      subst e2
      exact gx_end 8 [.inl 0, .inl 1] [¬ (a1 < (1 : Int32)), (60 : Int32) < a1] rfl ⟨h1, h2, trivial⟩
    · obtain ⟨r3, σ4, h5, hf⟩ := z_bd_inv hf
      rcases z_if_inv hf with ⟨h6, hf⟩ | ⟨h6, hf⟩
      · obtain ⟨e1, e2⟩ := z_ret hf
        subst e1
        subst e2
        exact gx_end 13 [.inl 0, .inl 0, .inr (some (.int r3), σ4), .inl 0] [¬ (a1 < (1 : Int32)), ¬ ((60 : Int32) < a1), E0 D 135 [.ref 0, .int a2, .int (1 : Int32)] σ (some (.int r3)) σ4, ¬ ¬ (r3 = 0)] rfl ⟨h1, h2, (ww_Sf_isDoing D (by omega) a2 (1 : Int32) σ r3 σ4 h5), (fun q => q h6), trivial⟩
      · obtain ⟨⟨⟩, σ8, h9, hf⟩ := z_bd_inv hf
        exact gx_go_ 19 [.inl 0, .inl 0, .inr (some (.int r3), σ4), .inl 1, .inr (none, σ8)] [¬ (a1 < (1 : Int32)), ¬ ((60 : Int32) < a1), E0 D 135 [.ref 0, .int a2, .int (1 : Int32)] σ (some (.int r3)) σ4, ¬ (r3 = 0), E0 D 14 [.ref 56, .ref 9] σ4 (none) σ8] 21 [.ref 0, .int a1, .int a2, .int (1 : Int32)] [] σ8 rfl ⟨h1, h2, (ww_Sf_isDoing D (by omega) a2 (1 : Int32) σ r3 σ4 h5), h6, (ww_Ni_copy D (by omega) 56 9 σ4 () σ8 (Or.inr (Or.inr rfl)) (Or.inl rfl) h9), trivial⟩ (gx_fgt (ls' := [.ref 0, .int a1, .int a2, .int (1 : Int32)]) ⟨Or.inr rfl, Or.inr rfl, Or.inr rfl, Or.inr rfl, trivial⟩ (vv_Sf_foretoldStop_21 D hD rr σ' z_FU a1 a2 (1 : Int32) σ8 hf))
set_option maxHeartbeats 16000000 in
set_option maxRecDepth 20000 in
theorem ww_Sf_foretoldStop (D : Nat) (hD : 6 ≤ D) (a1 : Int32) (a2 : Int32) (σ : gx_R) (rr : Int32) (σ' : gx_R) (hf : Sf_foretoldStop a1 a2 σ = some (rr, σ')) : E0 D 118 [.ref 0, .int a1, .int a2] σ (some (.int rr)) σ' := by
  cases D with
  | zero => omega
  | succ D => exact Or.inl ⟨Nat.le_of_ble_eq_true rfl, vv_Sf_foretoldStop_E D hD rr σ' a1 a2 σ hf⟩
set_option maxHeartbeats 16000000 in
set_option maxRecDepth 20000 in
theorem vv_Sf_canPair_E (D : Nat) (hD : 3 ≤ D + 1) (rr : Int32) (σ' : gx_R) (a1 : Int32) (a2 : Int32) (a3 : Int32) (σ : gx_R) (hf : Sf_canPair a1 a2 a3 σ = some (rr, σ')) : gx_Ev lay0 (E0 D) tt_136 (some (.int rr)) σ' 0 [.ref 0, .int a1, .int a2, .int a3, .null] [] σ := by
  unfold Sf_canPair at hf
  obtain ⟨r1, σ2, h3, hf⟩ := z_bd_inv hf
  rcases z_if_inv hf with ⟨h4, hf⟩ | ⟨h4, hf⟩
  · obtain ⟨e1, e2⟩ := z_ret hf
    subst e1
    subst e2
    exact gx_end 12 [.inr (some (.int r1), σ2), .inl 1] [E0 D 5 [.ref 2, .int a1, .int (1 : Int32), .int (4 : Int32)] σ (some (.int r1)) σ2, r1 = 0, (0 : Int32) &&& 1 = (0 : Int32)] rfl ⟨(ww_Fo_isGroup D (by omega) a1 (1 : Int32) (4 : Int32) σ r1 σ2 h3), h4, rfl, trivial⟩
  · obtain ⟨r5, σ6, h7, hf⟩ := z_bd_inv hf
    rcases z_if_inv hf with ⟨h8, hf⟩ | ⟨h8, hf⟩
    · obtain ⟨e1, e2⟩ := z_ret hf
      subst e1
      subst e2
      exact gx_end 18 [.inr (some (.int r1), σ2), .inl 0, .inr (some (.int r5), σ6), .inl 1] [E0 D 5 [.ref 2, .int a1, .int (1 : Int32), .int (4 : Int32)] σ (some (.int r1)) σ2, ¬ (r1 = 0), E0 D 5 [.ref 2, .int a3, .int (1 : Int32), .int (6 : Int32)] σ2 (some (.int r5)) σ6, r5 = 0, (0 : Int32) &&& 1 = (0 : Int32)] rfl ⟨(ww_Fo_isGroup D (by omega) a1 (1 : Int32) (4 : Int32) σ r1 σ2 h3), h4, (ww_Fo_isGroup D (by omega) a3 (1 : Int32) (6 : Int32) σ2 r5 σ6 h7), h8, rfl, trivial⟩
    · rcases z_if_inv hf with ⟨h9, hf⟩ | ⟨h9, hf⟩
      · obtain ⟨r10, σ11, h12, hf⟩ := z_bd_inv hf
        rcases z_if_inv hf with ⟨h13, hf⟩ | ⟨h13, hf⟩
        · obtain ⟨e1, e2⟩ := z_ret hf
          subst e1
          subst e2
          exact gx_end 26 [.inr (some (.int r1), σ2), .inl 0, .inr (some (.int r5), σ6), .inl 0, .inl 0, .inr (some (.int r10), σ11), .inl 1] [E0 D 5 [.ref 2, .int a1, .int (1 : Int32), .int (4 : Int32)] σ (some (.int r1)) σ2, ¬ (r1 = 0), E0 D 5 [.ref 2, .int a3, .int (1 : Int32), .int (6 : Int32)] σ2 (some (.int r5)) σ6, ¬ (r5 = 0), ¬ ¬ ((a1 &&& a3) = 0), E0 D 2 [.ref 2, .int a2] σ6 (some (.int r10)) σ11, r10 = 0, (0 : Int32) &&& 1 = (0 : Int32)] rfl ⟨(ww_Fo_isGroup D (by omega) a1 (1 : Int32) (4 : Int32) σ r1 σ2 h3), h4, (ww_Fo_isGroup D (by omega) a3 (1 : Int32) (6 : Int32) σ2 r5 σ6 h7), h8, (fun q => q h9), (ww_Fo_isWork D (by omega) a2 σ6 r10 σ11 h12), h13, rfl, trivial⟩
        · obtain ⟨e1, e2⟩ := z_ret hf
          subst e1
          subst e2
          exact gx_end 27 [.inr (some (.int r1), σ2), .inl 0, .inr (some (.int r5), σ6), .inl 0, .inl 0, .inr (some (.int r10), σ11), .inl 0] [E0 D 5 [.ref 2, .int a1, .int (1 : Int32), .int (4 : Int32)] σ (some (.int r1)) σ2, ¬ (r1 = 0), E0 D 5 [.ref 2, .int a3, .int (1 : Int32), .int (6 : Int32)] σ2 (some (.int r5)) σ6, ¬ (r5 = 0), ¬ ¬ ((a1 &&& a3) = 0), E0 D 2 [.ref 2, .int a2] σ6 (some (.int r10)) σ11, ¬ (r10 = 0), (1 : Int32) &&& 1 = (1 : Int32)] rfl ⟨(ww_Fo_isGroup D (by omega) a1 (1 : Int32) (4 : Int32) σ r1 σ2 h3), h4, (ww_Fo_isGroup D (by omega) a3 (1 : Int32) (6 : Int32) σ2 r5 σ6 h7), h8, (fun q => q h9), (ww_Fo_isWork D (by omega) a2 σ6 r10 σ11 h12), h13, rfl, trivial⟩
      · obtain ⟨e1, e2⟩ := z_ret hf
        subst e1
        subst e2
        exact gx_end 22 [.inr (some (.int r1), σ2), .inl 0, .inr (some (.int r5), σ6), .inl 0, .inl 1] [E0 D 5 [.ref 2, .int a1, .int (1 : Int32), .int (4 : Int32)] σ (some (.int r1)) σ2, ¬ (r1 = 0), E0 D 5 [.ref 2, .int a3, .int (1 : Int32), .int (6 : Int32)] σ2 (some (.int r5)) σ6, ¬ (r5 = 0), ¬ ((a1 &&& a3) = 0), (0 : Int32) &&& 1 = (0 : Int32)] rfl ⟨(ww_Fo_isGroup D (by omega) a1 (1 : Int32) (4 : Int32) σ r1 σ2 h3), h4, (ww_Fo_isGroup D (by omega) a3 (1 : Int32) (6 : Int32) σ2 r5 σ6 h7), h8, h9, rfl, trivial⟩
set_option maxHeartbeats 16000000 in
set_option maxRecDepth 20000 in
theorem ww_Sf_canPair (D : Nat) (hD : 3 ≤ D) (a1 : Int32) (a2 : Int32) (a3 : Int32) (σ : gx_R) (rr : Int32) (σ' : gx_R) (hf : Sf_canPair a1 a2 a3 σ = some (rr, σ')) : E0 D 136 [.ref 0, .int a1, .int a2, .int a3] σ (some (.int rr)) σ' := by
  cases D with
  | zero => omega
  | succ D => exact Or.inl ⟨Nat.le_of_ble_eq_true rfl, vv_Sf_canPair_E D hD rr σ' a1 a2 a3 σ hf⟩
set_option maxHeartbeats 16000000 in
set_option maxRecDepth 20000 in
theorem vv_Sf_match_31 (D : Nat) (hD : 13 ≤ D + 1) (rr : Int32) (σ' : gx_R) (a1 : Int32) (a2 : Int32) (a3 : Int32) (a4 : Int32) (a5 : Int32) (a6 : Int32) (σ : gx_R) (hf : Sf_match_31 a1 a2 a3 a4 a5 a6 σ = some (rr, σ')) : gx_Ev lay0 (E0 D) tt_119 (some (.int rr)) σ' 31 [.ref 0, .int a1, .int a2, .int a3, .int a4, .int a5, .int a6] [] σ := by
  unfold Sf_match_31 at hf
  obtain ⟨⟨⟩, σ2, h3, hf⟩ := z_bd_inv hf
  obtain ⟨r4, σ5, h6, hf⟩ := z_bd_inv hf
  rcases z_if_inv hf with ⟨h7, hf⟩ | ⟨h7, hf⟩
  · obtain ⟨e1, e2⟩ := z_ret hf
    subst e1
    subst e2
    exact gx_end 13 [.inr (none, σ2), .inr (some (.int r4), σ5), .inl 0] [E0 D 42 [.ref 63, .int a1, .int a2, .int a3, .int a4] σ (none) σ2, E0 D 44 [.ref 63] σ2 (some (.int r4)) σ5, ¬ ¬ (r4 = 0)] rfl ⟨(ww_Pa_prepare D (by omega) a1 a2 a3 a4 σ () σ2 h3), (ww_Pa_solve D (by omega) σ2 r4 σ5 h6), (fun q => q h7), trivial⟩
  · rcases z_if_inv hf with ⟨h8, hf⟩ | ⟨h8, hf⟩
    · obtain ⟨e1, e2⟩ := z_ret hf
      subst e1
      subst e2
      exact gx_end 17 [.inr (none, σ2), .inr (some (.int r4), σ5), .inl 1, .inl 1] [E0 D 42 [.ref 63, .int a1, .int a2, .int a3, .int a4] σ (none) σ2, E0 D 44 [.ref 63] σ2 (some (.int r4)) σ5, ¬ (r4 = 0), a6 = 0] rfl ⟨(ww_Pa_prepare D (by omega) a1 a2 a3 a4 σ () σ2 h3), (ww_Pa_solve D (by omega) σ2 r4 σ5 h6), h7, h8, trivial⟩
    · obtain ⟨r9, σ10, h11, hf⟩ := z_bd_inv hf
      obtain ⟨e1, e2⟩ := z_ret hf
      subst e1
      subst e2
      exact gx_end 19 [.inr (none, σ2), .inr (some (.int r4), σ5), .inl 1, .inl 0, .inr (some (.int r9), σ10)] [E0 D 42 [.ref 63, .int a1, .int a2, .int a3, .int a4] σ (none) σ2, E0 D 44 [.ref 63] σ2 (some (.int r4)) σ5, ¬ (r4 = 0), ¬ (a6 = 0), E0 D 47 [.ref 63, .int a5] σ5 (some (.int r9)) σ10] rfl ⟨(ww_Pa_prepare D (by omega) a1 a2 a3 a4 σ () σ2 h3), (ww_Pa_solve D (by omega) σ2 r4 σ5 h6), h7, h8, (ww_Pa_whomFor D (by omega) a5 σ5 r9 σ10 h11), trivial⟩
set_option maxHeartbeats 16000000 in
set_option maxRecDepth 20000 in
theorem vv_Sf_match_22 (D : Nat) (hD : 13 ≤ D + 1) (rr : Int32) (σ' : gx_R) (K23 : Int32 → Int32 → Int32 → Int32 → Int32 → Int32 → gx_R → Option (Int32 × gx_R)) (hK23 : ∀ (a1 : Int32) (a2 : Int32) (a3 : Int32) (a4 : Int32) (a5 : Int32) (s0 : Int32) (σ : gx_R), K23 a1 a2 a3 a4 a5 s0 σ = some (rr, σ') → gx_Ev lay0 (E0 D) tt_119 (some (.int rr)) σ' 23 [.ref 0, .int a1, .int a2, .int a3, .int a4, .int a5, .null] [.int s0] σ) (a1 : Int32) (a2 : Int32) (a3 : Int32) (a4 : Int32) (a5 : Int32) (σ : gx_R) (hf : Sf_match_22 K23 a1 a2 a3 a4 a5 σ = some (rr, σ')) : gx_Ev lay0 (E0 D) tt_119 (some (.int rr)) σ' 22 [.ref 0, .int a1, .int a2, .int a3, .int a4, .int a5, .null] [] σ := by
  unfold Sf_match_22 at hf
  exact gx_go_ 1 [] [] 23 [.ref 0, .int a1, .int a2, .int a3, .int a4, .int a5, .null] [.int (0 : Int32)] σ rfl trivial (gx_fgt (ls' := [.ref 0, .int a1, .int a2, .int a3, .int a4, .int a5, .null]) ⟨Or.inr rfl, Or.inr rfl, Or.inr rfl, Or.inr rfl, Or.inr rfl, Or.inr rfl, Or.inl rfl, trivial⟩ (hK23 a1 a2 a3 a4 a5 (0 : Int32) σ hf))
set_option maxHeartbeats 16000000 in
set_option maxRecDepth 20000 in
theorem vv_Sf_match_23 (D : Nat) (hD : 13 ≤ D + 1) (rr : Int32) (σ' : gx_R) (a1 : Int32) (a2 : Int32) (a3 : Int32) (a4 : Int32) (a5 : Int32) (s0 : Int32) (σ : gx_R) (hf : Sf_match_23 a1 a2 a3 a4 a5 s0 σ = some (rr, σ')) : gx_Ev lay0 (E0 D) tt_119 (some (.int rr)) σ' 23 [.ref 0, .int a1, .int a2, .int a3, .int a4, .int a5, .null] [.int s0] σ := by
  unfold Sf_match_23 at hf
  rcases z_if_inv hf with ⟨h1, hf⟩ | ⟨h1, hf⟩
  · exact gx_go_ 4 [.inl 1] [a5 = (-1 : Int32)] 31 [.ref 0, .int a1, .int a2, .int a3, .int a4, .int a5, .int s0] [] σ rfl ⟨h1, trivial⟩ (gx_fgt (ls' := [.ref 0, .int a1, .int a2, .int a3, .int a4, .int a5, .int s0]) ⟨Or.inr rfl, Or.inr rfl, Or.inr rfl, Or.inr rfl, Or.inr rfl, Or.inr rfl, Or.inr rfl, trivial⟩ (vv_Sf_match_31 D hD rr σ' a1 a2 a3 a4 a5 s0 σ hf))
  · rcases z_if_inv hf with ⟨h2, hf⟩ | ⟨h2, hf⟩
    · obtain ⟨e1, e2⟩ := z_ret hf
      subst e1
      subst e2
      exact gx_end 8 [.inl 0, .inl 0] [¬ (a5 = (-1 : Int32)), ¬ ¬ (s0 = 0)] rfl ⟨h1, (fun q => q h2), trivial⟩
    · exact gx_go_ 6 [.inl 0, .inl 1] [¬ (a5 = (-1 : Int32)), ¬ (s0 = 0)] 31 [.ref 0, .int a1, .int a2, .int a3, .int a4, .int a5, .int s0] [] σ rfl ⟨h1, h2, trivial⟩ (gx_fgt (ls' := [.ref 0, .int a1, .int a2, .int a3, .int a4, .int a5, .int s0]) ⟨Or.inr rfl, Or.inr rfl, Or.inr rfl, Or.inr rfl, Or.inr rfl, Or.inr rfl, Or.inr rfl, trivial⟩ (vv_Sf_match_31 D hD rr σ' a1 a2 a3 a4 a5 s0 σ hf))
set_option maxHeartbeats 16000000 in
set_option maxRecDepth 20000 in
theorem vv_Sf_match_E (D : Nat) (hD : 13 ≤ D + 1) (rr : Int32) (σ' : gx_R) (a1 : Int32) (a2 : Int32) (a3 : Int32) (a4 : Int32) (a5 : Int32) (σ : gx_R) (hf : Sf_match a1 a2 a3 a4 a5 σ = some (rr, σ')) : gx_Ev lay0 (E0 D) tt_119 (some (.int rr)) σ' 0 [.ref 0, .int a1, .int a2, .int a3, .int a4, .int a5, .null] [] σ := by
  unfold Sf_match at hf
  obtain ⟨r1, σ2, h3, hf⟩ := z_bd_inv hf
  rcases z_if_inv hf with ⟨h4, hf⟩ | ⟨h4, hf⟩
  · obtain ⟨e1, e2⟩ := z_ret hf
    subst e1
    subst e2
    exact gx_end 8 [.inr (some (.int r1), σ2), .inl 0] [E0 D 136 [.ref 0, .int a1, .int a2, .int a3] σ (some (.int r1)) σ2, ¬ ¬ (r1 = 0)] rfl ⟨(ww_Sf_canPair D (by omega) a1 a2 a3 σ r1 σ2 h3), (fun q => q h4), trivial⟩
  · rcases z_if_inv hf with ⟨h5, hf⟩ | ⟨h5, hf⟩
    · exact gx_go_ 8 [.inr (some (.int r1), σ2), .inl 1, .inl 1] [E0 D 136 [.ref 0, .int a1, .int a2, .int a3] σ (some (.int r1)) σ2, ¬ (r1 = 0), a5 < 0] 22 [.ref 0, .int a1, .int a2, .int a3, .int a4, .int a5, .null] [] σ2 rfl ⟨(ww_Sf_canPair D (by omega) a1 a2 a3 σ r1 σ2 h3), h4, h5, trivial⟩ (gx_fgt (ls' := [.ref 0, .int a1, .int a2, .int a3, .int a4, .int a5, .null]) ⟨Or.inr rfl, Or.inr rfl, Or.inr rfl, Or.inr rfl, Or.inr rfl, Or.inr rfl, Or.inl rfl, trivial⟩ (vv_Sf_match_22 D hD rr σ' (Sf_match_23) (vv_Sf_match_23 D hD rr σ') a1 a2 a3 a4 a5 σ2 hf))
    · rcases z_if_inv hf with ⟨h6, hf⟩ | ⟨h6, hf⟩
      · exact gx_go_ 11 [.inr (some (.int r1), σ2), .inl 1, .inl 0, .inl 1] [E0 D 136 [.ref 0, .int a1, .int a2, .int a3] σ (some (.int r1)) σ2, ¬ (r1 = 0), ¬ (a5 < 0), (8 : Int32) ≤ a5] 22 [.ref 0, .int a1, .int a2, .int a3, .int a4, .int a5, .null] [] σ2 rfl ⟨(ww_Sf_canPair D (by omega) a1 a2 a3 σ r1 σ2 h3), h4, h5, h6, trivial⟩ (gx_fgt (ls' := [.ref 0, .int a1, .int a2, .int a3, .int a4, .int a5, .null]) ⟨Or.inr rfl, Or.inr rfl, Or.inr rfl, Or.inr rfl, Or.inr rfl, Or.inr rfl, Or.inl rfl, trivial⟩ (vv_Sf_match_22 D hD rr σ' (Sf_match_23) (vv_Sf_match_23 D hD rr σ') a1 a2 a3 a4 a5 σ2 hf))
      · rcases z_if_inv hf with ⟨h7, hf⟩ | ⟨h7, hf⟩
        · exact gx_go_ 20 [.inr (some (.int r1), σ2), .inl 1, .inl 0, .inl 0, .inl 0] [E0 D 136 [.ref 0, .int a1, .int a2, .int a3] σ (some (.int r1)) σ2, ¬ (r1 = 0), ¬ (a5 < 0), ¬ ((8 : Int32) ≤ a5), ¬ ¬ (((a3 >>> (a5 &&& 31)) &&& (1 : Int32)) = (1 : Int32))] 23 [.ref 0, .int a1, .int a2, .int a3, .int a4, .int a5, .null] [.int (1 : Int32)] σ2 rfl ⟨(ww_Sf_canPair D (by omega) a1 a2 a3 σ r1 σ2 h3), h4, h5, h6, (fun q => q h7), trivial⟩ (gx_fgt (ls' := [.ref 0, .int a1, .int a2, .int a3, .int a4, .int a5, .null]) ⟨Or.inr rfl, Or.inr rfl, Or.inr rfl, Or.inr rfl, Or.inr rfl, Or.inr rfl, Or.inl rfl, trivial⟩ (vv_Sf_match_23 D hD rr σ' a1 a2 a3 a4 a5 (1 : Int32) σ2 hf))
        · exact gx_go_ 18 [.inr (some (.int r1), σ2), .inl 1, .inl 0, .inl 0, .inl 1] [E0 D 136 [.ref 0, .int a1, .int a2, .int a3] σ (some (.int r1)) σ2, ¬ (r1 = 0), ¬ (a5 < 0), ¬ ((8 : Int32) ≤ a5), ¬ (((a3 >>> (a5 &&& 31)) &&& (1 : Int32)) = (1 : Int32))] 22 [.ref 0, .int a1, .int a2, .int a3, .int a4, .int a5, .null] [] σ2 rfl ⟨(ww_Sf_canPair D (by omega) a1 a2 a3 σ r1 σ2 h3), h4, h5, h6, h7, trivial⟩ (gx_fgt (ls' := [.ref 0, .int a1, .int a2, .int a3, .int a4, .int a5, .null]) ⟨Or.inr rfl, Or.inr rfl, Or.inr rfl, Or.inr rfl, Or.inr rfl, Or.inr rfl, Or.inl rfl, trivial⟩ (vv_Sf_match_22 D hD rr σ' (Sf_match_23) (vv_Sf_match_23 D hD rr σ') a1 a2 a3 a4 a5 σ2 hf))
set_option maxHeartbeats 16000000 in
set_option maxRecDepth 20000 in
theorem ww_Sf_match (D : Nat) (hD : 13 ≤ D) (a1 : Int32) (a2 : Int32) (a3 : Int32) (a4 : Int32) (a5 : Int32) (σ : gx_R) (rr : Int32) (σ' : gx_R) (hf : Sf_match a1 a2 a3 a4 a5 σ = some (rr, σ')) : E0 D 119 [.ref 0, .int a1, .int a2, .int a3, .int a4, .int a5] σ (some (.int rr)) σ' := by
  cases D with
  | zero => omega
  | succ D => exact Or.inl ⟨Nat.le_of_ble_eq_true rfl, vv_Sf_match_E D hD rr σ' a1 a2 a3 a4 a5 σ hf⟩
set_option maxHeartbeats 16000000 in
set_option maxRecDepth 20000 in
theorem vv_Sf_whoCannot_E (D : Nat) (hD : 6 ≤ D + 1) (rr : Int32) (σ' : gx_R) (a1 : Int32) (a2 : Int32) (a3 : Int32) (σ : gx_R) (hf : Sf_whoCannot a1 a2 a3 σ = some (rr, σ')) : gx_Ev lay0 (E0 D) tt_120 (some (.int rr)) σ' 0 [.ref 0, .int a1, .int a2, .int a3] [] σ := by
  unfold Sf_whoCannot at hf
  obtain ⟨r1, σ2, h3, hf⟩ := z_bd_inv hf
  rcases z_if_inv hf with ⟨h4, hf⟩ | ⟨h4, hf⟩
  · obtain ⟨e1, e2⟩ := z_ret hf
    subst e1
    subst e2
    exact gx_end 8 [.inr (some (.int r1), σ2), .inl 0] [E0 D 136 [.ref 0, .int a1, .int a2, .int a3] σ (some (.int r1)) σ2, ¬ ¬ (r1 = 0)] rfl ⟨(ww_Sf_canPair D (by omega) a1 a2 a3 σ r1 σ2 h3), (fun q => q h4), trivial⟩
  · obtain ⟨⟨⟩, σ6, h7, hf⟩ := z_bd_inv hf
    obtain ⟨r8, σ9, h10, hf⟩ := z_bd_inv hf
    obtain ⟨e1, e2⟩ := z_ret hf
    subst e1
    subst e2
    exact gx_end 17 [.inr (some (.int r1), σ2), .inl 1, .inr (none, σ6), .inr (some (.int r8), σ9)] [E0 D 136 [.ref 0, .int a1, .int a2, .int a3] σ (some (.int r1)) σ2, ¬ (r1 = 0), E0 D 42 [.ref 63, .int a1, .int a2, .int a3, .int (0 : Int32)] σ2 (none) σ6, E0 D 48 [.ref 63] σ6 (some (.int r8)) σ9] rfl ⟨(ww_Sf_canPair D (by omega) a1 a2 a3 σ r1 σ2 h3), h4, (ww_Pa_prepare D (by omega) a1 a2 a3 (0 : Int32) σ2 () σ6 h7), (ww_Pa_lowestShort D (by omega) σ6 r8 σ9 h10), trivial⟩
set_option maxHeartbeats 16000000 in
set_option maxRecDepth 20000 in
theorem ww_Sf_whoCannot (D : Nat) (hD : 6 ≤ D) (a1 : Int32) (a2 : Int32) (a3 : Int32) (σ : gx_R) (rr : Int32) (σ' : gx_R) (hf : Sf_whoCannot a1 a2 a3 σ = some (rr, σ')) : E0 D 120 [.ref 0, .int a1, .int a2, .int a3] σ (some (.int rr)) σ' := by
  cases D with
  | zero => omega
  | succ D => exact Or.inl ⟨Nat.le_of_ble_eq_true rfl, vv_Sf_whoCannot_E D hD rr σ' a1 a2 a3 σ hf⟩
set_option maxHeartbeats 16000000 in
set_option maxRecDepth 20000 in
theorem vv_Sf_behind_17 (D : Nat) (hD : 3 ≤ D + 1) (rr : Int32) (σ' : gx_R) (a1 : Int32) (a2 : Int32) (σ : gx_R) (hf : Sf_behind_17 a1 a2 σ = some (rr, σ')) : gx_Ev lay0 (E0 D) tt_121 (some (.int rr)) σ' 17 [.ref 0, .int a1, .int a2, .null] [] σ := by
  unfold Sf_behind_17 at hf
  obtain ⟨r1, σ2, h3, hf⟩ := z_bd_inv hf
  obtain ⟨e1, e2⟩ := z_ret hf
  subst e1
  subst e2
  exact gx_end 6 [.inr (some (.int r1), σ2)] [E0 D 57 [.ref 77, .int a1, .int a2] σ (some (.int r1)) σ2] rfl ⟨(ww_Qu_tierBehind D (by omega) a1 a2 σ r1 σ2 h3), trivial⟩
set_option maxHeartbeats 16000000 in
set_option maxRecDepth 20000 in
theorem vv_Sf_behind_E (D : Nat) (hD : 3 ≤ D + 1) (rr : Int32) (σ' : gx_R) (a1 : Int32) (a2 : Int32) (σ : gx_R) (hf : Sf_behind a1 a2 σ = some (rr, σ')) : gx_Ev lay0 (E0 D) tt_121 (some (.int rr)) σ' 0 [.ref 0, .int a1, .int a2, .null] [] σ := by
  unfold Sf_behind at hf
  obtain ⟨r1, σ2, h3, hf⟩ := z_bd_inv hf
  rcases z_if_inv hf with ⟨h4, hf⟩ | ⟨h4, hf⟩
  · obtain ⟨e1, e2⟩ := z_ret hf
    subst e1
    subst e2
    exact gx_end 10 [.inr (some (.int r1), σ2), .inl 1] [E0 D 1 [.ref 2, .int a1] σ (some (.int r1)) σ2, r1 = 0] rfl ⟨(ww_Fo_isPerson D (by omega) a1 σ r1 σ2 h3), h4, trivial⟩
  · rcases z_if_inv hf with ⟨h5, hf⟩ | ⟨h5, hf⟩
    · exact gx_go_ 11 [.inr (some (.int r1), σ2), .inl 0, .inl 1] [E0 D 1 [.ref 2, .int a1] σ (some (.int r1)) σ2, ¬ (r1 = 0), a2 = (-1 : Int32)] 17 [.ref 0, .int a1, .int a2, .ref 2] [] σ2 rfl ⟨(ww_Fo_isPerson D (by omega) a1 σ r1 σ2 h3), h4, h5, trivial⟩ (gx_fgt (ls' := [.ref 0, .int a1, .int a2, .null]) ⟨Or.inr rfl, Or.inr rfl, Or.inr rfl, Or.inl rfl, trivial⟩ (vv_Sf_behind_17 D hD rr σ' a1 a2 σ2 hf))
    · obtain ⟨r6, σ7, h8, hf⟩ := z_bd_inv hf
      rcases z_if_inv hf with ⟨h9, hf⟩ | ⟨h9, hf⟩
      · obtain ⟨e1, e2⟩ := z_ret hf
        subst e1
        subst e2
        exact gx_end 17 [.inr (some (.int r1), σ2), .inl 0, .inl 0, .inr (some (.int r6), σ7), .inl 0] [E0 D 1 [.ref 2, .int a1] σ (some (.int r1)) σ2, ¬ (r1 = 0), ¬ (a2 = (-1 : Int32)), E0 D 1 [.ref 2, .int a2] σ2 (some (.int r6)) σ7, ¬ ¬ (r6 = 0)] rfl ⟨(ww_Fo_isPerson D (by omega) a1 σ r1 σ2 h3), h4, h5, (ww_Fo_isPerson D (by omega) a2 σ2 r6 σ7 h8), (fun q => q h9), trivial⟩
      · exact gx_go_ 15 [.inr (some (.int r1), σ2), .inl 0, .inl 0, .inr (some (.int r6), σ7), .inl 1] [E0 D 1 [.ref 2, .int a1] σ (some (.int r1)) σ2, ¬ (r1 = 0), ¬ (a2 = (-1 : Int32)), E0 D 1 [.ref 2, .int a2] σ2 (some (.int r6)) σ7, ¬ (r6 = 0)] 17 [.ref 0, .int a1, .int a2, .ref 2] [] σ7 rfl ⟨(ww_Fo_isPerson D (by omega) a1 σ r1 σ2 h3), h4, h5, (ww_Fo_isPerson D (by omega) a2 σ2 r6 σ7 h8), h9, trivial⟩ (gx_fgt (ls' := [.ref 0, .int a1, .int a2, .null]) ⟨Or.inr rfl, Or.inr rfl, Or.inr rfl, Or.inl rfl, trivial⟩ (vv_Sf_behind_17 D hD rr σ' a1 a2 σ7 hf))
set_option maxHeartbeats 16000000 in
set_option maxRecDepth 20000 in
theorem ww_Sf_behind (D : Nat) (hD : 3 ≤ D) (a1 : Int32) (a2 : Int32) (σ : gx_R) (rr : Int32) (σ' : gx_R) (hf : Sf_behind a1 a2 σ = some (rr, σ')) : E0 D 121 [.ref 0, .int a1, .int a2] σ (some (.int rr)) σ' := by
  cases D with
  | zero => omega
  | succ D => exact Or.inl ⟨Nat.le_of_ble_eq_true rfl, vv_Sf_behind_E D hD rr σ' a1 a2 σ hf⟩
set_option maxHeartbeats 16000000 in
set_option maxRecDepth 20000 in
theorem vv_Sf_valley_16_B (D : Nat) (hD : 1 ≤ D + 1) (rr : Int32) (σ' : gx_R) (K16 : Int32 → Int32 → Int32 → gx_R → Option (Int32 × gx_R)) (hK16 : ∀ (a1 : Int32) (a2 : Int32) (a3 : Int32) (σ : gx_R), K16 a1 a2 a3 σ = some (rr, σ') → gx_Ev lay0 (E0 D) tt_122 (some (.int rr)) σ' 16 [.null, .int a1, .int a2, .int a3, .null] [] σ) (a1 : Int32) (a2 : Int32) (a3 : Int32) (σ : gx_R) (hf : Sf_valley_16_B K16 a1 a2 a3 σ = some (rr, σ')) : gx_Ev lay0 (E0 D) tt_122 (some (.int rr)) σ' 16 [.null, .int a1, .int a2, .int a3, .null] [] σ := by
  unfold Sf_valley_16_B at hf
  rcases z_if_inv hf with ⟨h1, hf⟩ | ⟨h1, hf⟩
  · obtain ⟨e1, e2⟩ := z_ret hf
    subst e1
    subst e2
    exact gx_end 5 [.inl 1] [(99 : Int32) < a3] rfl ⟨h1, trivial⟩
  · obtain ⟨h2, hf⟩ := z_ck_inv hf
    rcases z_if_inv hf with ⟨h3, hf⟩ | ⟨h3, hf⟩
    · exact gx_go_ 20 [.inl 0, .inl 1] [¬ ((99 : Int32) < a3), ¬ ((10 : Int32) + a2) = 0, (((a3 * a2) / ((10 : Int32) + a2)) * (24 : Int32)) < (a3 * a1)] 16 [.null, .int a1, .int a2, .int (a3 + 1), .int ((a3 * a2) / ((10 : Int32) + a2))] [] σ rfl ⟨h1, (z_nzi_in h2), h3, trivial⟩ (gx_fgt (ls' := [.null, .int a1, .int a2, .int (a3 + 1), .null]) ⟨Or.inl rfl, Or.inr rfl, Or.inr rfl, Or.inr rfl, Or.inl rfl, trivial⟩ (hK16 a1 a2 (a3 + 1) σ hf))
    · obtain ⟨e1, e2⟩ := z_ret hf
      subst e1
      subst e2
      exact gx_end 20 [.inl 0, .inl 0] [¬ ((99 : Int32) < a3), ¬ ((10 : Int32) + a2) = 0, ¬ ((((a3 * a2) / ((10 : Int32) + a2)) * (24 : Int32)) < (a3 * a1))] rfl ⟨h1, (z_nzi_in h2), h3, trivial⟩
set_option maxHeartbeats 16000000 in
set_option maxRecDepth 20000 in
theorem vv_Sf_valley_16 (D : Nat) (hD : 1 ≤ D + 1) (rr : Int32) (σ' : gx_R) : ∀ (n : Nat) (a1 : Int32) (a2 : Int32) (a3 : Int32) (σ : gx_R), Sf_valley_16 n a1 a2 a3 σ = some (rr, σ') → gx_Ev lay0 (E0 D) tt_122 (some (.int rr)) σ' 16 [.null, .int a1, .int a2, .int a3, .null] [] σ := by
  intro n
  induction n with
  | zero => intro a1 a2 a3 σ  hf; cases hf
  | succ n ih => intro a1 a2 a3 σ  hf; exact vv_Sf_valley_16_B D hD rr σ'  (Sf_valley_16 n) ih a1 a2 a3 σ  hf
set_option maxHeartbeats 16000000 in
set_option maxRecDepth 20000 in
theorem vv_Sf_valley_E (D : Nat) (hD : 1 ≤ D + 1) (rr : Int32) (σ' : gx_R) (a1 : Int32) (a2 : Int32) (σ : gx_R) (hf : Sf_valley a1 a2 σ = some (rr, σ')) : gx_Ev lay0 (E0 D) tt_122 (some (.int rr)) σ' 0 [.ref 0, .int a1, .int a2, .null, .null] [] σ := by
  unfold Sf_valley at hf
  rcases z_if_inv hf with ⟨h1, hf⟩ | ⟨h1, hf⟩
  · obtain ⟨e1, e2⟩ := z_ret hf
    subst e1
    subst e2
    exact gx_end 5 [.inl 1] [a1 < (1 : Int32)] rfl ⟨h1, trivial⟩
  · rcases z_if_inv hf with ⟨h2, hf⟩ | ⟨h2, hf⟩
    · obtain ⟨e1, e2⟩ := z_ret hf
      subst e1
      subst e2
      exact gx_end 8 [.inl 0, .inl 1] [¬ (a1 < (1 : Int32)), (23 : Int32) < a1] rfl ⟨h1, h2, trivial⟩
    · rcases z_if_inv hf with ⟨h3, hf⟩ | ⟨h3, hf⟩
      · obtain ⟨e1, e2⟩ := z_ret hf
        subst e1
        subst e2
        exact gx_end 11 [.inl 0, .inl 0, .inl 1] [¬ (a1 < (1 : Int32)), ¬ ((23 : Int32) < a1), a2 < (1 : Int32)] rfl ⟨h1, h2, h3, trivial⟩
      · rcases z_if_inv hf with ⟨h4, hf⟩ | ⟨h4, hf⟩
        · exact gx_go_ 14 [.inl 0, .inl 0, .inl 0, .inl 1] [¬ (a1 < (1 : Int32)), ¬ ((23 : Int32) < a1), ¬ (a2 < (1 : Int32)), a2 ≤ (99 : Int32)] 16 [.ref 0, .int a1, .int a2, .int (2 : Int32), .null] [] σ rfl ⟨h1, h2, h3, h4, trivial⟩ (gx_fgt (ls' := [.null, .int a1, .int a2, .int (2 : Int32), .null]) ⟨Or.inl rfl, Or.inr rfl, Or.inr rfl, Or.inr rfl, Or.inl rfl, trivial⟩ (vv_Sf_valley_16 D hD rr σ' z_FU a1 a2 (2 : Int32) σ hf))
        · obtain ⟨e1, e2⟩ := z_ret hf
          subst e1
          subst e2
          exact gx_end 14 [.inl 0, .inl 0, .inl 0, .inl 0] [¬ (a1 < (1 : Int32)), ¬ ((23 : Int32) < a1), ¬ (a2 < (1 : Int32)), ¬ (a2 ≤ (99 : Int32))] rfl ⟨h1, h2, h3, h4, trivial⟩
set_option maxHeartbeats 16000000 in
set_option maxRecDepth 20000 in
theorem ww_Sf_valley (D : Nat) (hD : 1 ≤ D) (a1 : Int32) (a2 : Int32) (σ : gx_R) (rr : Int32) (σ' : gx_R) (hf : Sf_valley a1 a2 σ = some (rr, σ')) : E0 D 122 [.ref 0, .int a1, .int a2] σ (some (.int rr)) σ' := by
  cases D with
  | zero => omega
  | succ D => exact Or.inl ⟨Nat.le_of_ble_eq_true rfl, vv_Sf_valley_E D hD rr σ' a1 a2 σ hf⟩
set_option maxHeartbeats 16000000 in
set_option maxRecDepth 20000 in
theorem vv_Sf_rota_19 (D : Nat) (hD : 13 ≤ D + 1) (rr : Int32) (σ' : gx_R) (K20 : Int32 → Int32 → Int32 → Int32 → Int32 → Int32 → gx_R → Option (Int32 × gx_R)) (hK20 : ∀ (a1 : Int32) (a2 : Int32) (a3 : Int32) (a4 : Int32) (a5 : Int32) (s0 : Int32) (σ : gx_R), K20 a1 a2 a3 a4 a5 s0 σ = some (rr, σ') → gx_Ev lay0 (E0 D) tt_123 (some (.int rr)) σ' 20 [.ref 0, .int a1, .int a2, .int a3, .int a4, .int a5, .null] [.int s0] σ) (a1 : Int32) (a2 : Int32) (a3 : Int32) (a4 : Int32) (a5 : Int32) (σ : gx_R) (hf : Sf_rota_19 K20 a1 a2 a3 a4 a5 σ = some (rr, σ')) : gx_Ev lay0 (E0 D) tt_123 (some (.int rr)) σ' 19 [.ref 0, .int a1, .int a2, .int a3, .int a4, .int a5, .null] [] σ := by
  unfold Sf_rota_19 at hf
  exact gx_go_ 1 [] [] 20 [.ref 0, .int a1, .int a2, .int a3, .int a4, .int a5, .null] [.int (0 : Int32)] σ rfl trivial (gx_fgt (ls' := [.ref 0, .int a1, .int a2, .int a3, .int a4, .int a5, .null]) ⟨Or.inr rfl, Or.inr rfl, Or.inr rfl, Or.inr rfl, Or.inr rfl, Or.inr rfl, Or.inl rfl, trivial⟩ (hK20 a1 a2 a3 a4 a5 (0 : Int32) σ hf))
set_option maxHeartbeats 16000000 in
set_option maxRecDepth 20000 in
theorem vv_Sf_rota_20 (D : Nat) (hD : 13 ≤ D + 1) (rr : Int32) (σ' : gx_R) (a1 : Int32) (a2 : Int32) (a3 : Int32) (a4 : Int32) (a5 : Int32) (s0 : Int32) (σ : gx_R) (hf : Sf_rota_20 a1 a2 a3 a4 a5 s0 σ = some (rr, σ')) : gx_Ev lay0 (E0 D) tt_123 (some (.int rr)) σ' 20 [.ref 0, .int a1, .int a2, .int a3, .int a4, .int a5, .null] [.int s0] σ := by
  unfold Sf_rota_20 at hf
  rcases z_if_inv hf with ⟨h1, hf⟩ | ⟨h1, hf⟩
  · obtain ⟨e1, e2⟩ := z_ret hf
    subst e1
    subst e2
    exact gx_end 5 [.inl 1] [s0 = 0] rfl ⟨h1, trivial⟩
  · obtain ⟨r2, σ3, h4, hf⟩ := z_bd_inv hf
    rcases z_if_inv hf with ⟨h5, hf⟩ | ⟨h5, hf⟩
    · obtain ⟨e1, e2⟩ := z_ret hf
      subst e1
      subst e2
      exact gx_end 13 [.inl 0, .inr (some (.int r2), σ3), .inl 1] [¬ (s0 = 0), E0 D 5 [.ref 2, .int a2, .int (1 : Int32), .int (4 : Int32)] σ (some (.int r2)) σ3, r2 = 0] rfl ⟨h1, (ww_Fo_isGroup D (by omega) a2 (1 : Int32) (4 : Int32) σ r2 σ3 h4), h5, trivial⟩
    · rcases z_if_inv hf with ⟨h6, hf⟩ | ⟨h6, hf⟩
      · obtain ⟨e1, e2⟩ := z_ret hf
        subst e1
        subst e2
        exact gx_end 16 [.inl 0, .inr (some (.int r2), σ3), .inl 0, .inl 1] [¬ (s0 = 0), E0 D 5 [.ref 2, .int a2, .int (1 : Int32), .int (4 : Int32)] σ (some (.int r2)) σ3, ¬ (r2 = 0), a5 < (-1 : Int32)] rfl ⟨h1, (ww_Fo_isGroup D (by omega) a2 (1 : Int32) (4 : Int32) σ r2 σ3 h4), h5, h6, trivial⟩
      · rcases z_if_inv hf with ⟨h7, hf⟩ | ⟨h7, hf⟩
        · obtain ⟨⟨⟩, σ9, h10, hf⟩ := z_bd_inv hf
          obtain ⟨r11, σ12, h13, hf⟩ := z_bd_inv hf
          rcases z_if_inv hf with ⟨h14, hf⟩ | ⟨h14, hf⟩
          · obtain ⟨e1, e2⟩ := z_ret hf
            subst e1
            subst e2
            exact gx_end 30 [.inl 0, .inr (some (.int r2), σ3), .inl 0, .inl 0, .inl 1, .inr (none, σ9), .inr (some (.int r11), σ12), .inl 0] [¬ (s0 = 0), E0 D 5 [.ref 2, .int a2, .int (1 : Int32), .int (4 : Int32)] σ (some (.int r2)) σ3, ¬ (r2 = 0), ¬ (a5 < (-1 : Int32)), a5 < a1, E0 D 52 [.ref 73, .int a1, .int a2, .int a3, .int a4] σ3 (none) σ9, E0 D 53 [.ref 73] σ9 (some (.int r11)) σ12, ¬ ¬ (r11 = 0)] rfl ⟨h1, (ww_Fo_isGroup D (by omega) a2 (1 : Int32) (4 : Int32) σ r2 σ3 h4), h5, h6, h7, (ww_Ro_prepare D (by omega) a1 a2 a3 a4 σ3 () σ9 h10), (ww_Ro_solve D (by omega) σ9 r11 σ12 h13), (fun q => q h14), trivial⟩
          · rcases z_if_inv hf with ⟨h15, hf⟩ | ⟨h15, hf⟩
            · obtain ⟨e1, e2⟩ := z_ret hf
              subst e1
              subst e2
              exact gx_end 36 [.inl 0, .inr (some (.int r2), σ3), .inl 0, .inl 0, .inl 1, .inr (none, σ9), .inr (some (.int r11), σ12), .inl 1, .inl 0] [¬ (s0 = 0), E0 D 5 [.ref 2, .int a2, .int (1 : Int32), .int (4 : Int32)] σ (some (.int r2)) σ3, ¬ (r2 = 0), ¬ (a5 < (-1 : Int32)), a5 < a1, E0 D 52 [.ref 73, .int a1, .int a2, .int a3, .int a4] σ3 (none) σ9, E0 D 53 [.ref 73] σ9 (some (.int r11)) σ12, ¬ (r11 = 0), ¬ ¬ (a5 = (-1 : Int32))] rfl ⟨h1, (ww_Fo_isGroup D (by omega) a2 (1 : Int32) (4 : Int32) σ r2 σ3 h4), h5, h6, h7, (ww_Ro_prepare D (by omega) a1 a2 a3 a4 σ3 () σ9 h10), (ww_Ro_solve D (by omega) σ9 r11 σ12 h13), h14, (fun q => q h15), trivial⟩
            · obtain ⟨r16, σ17, h18, hf⟩ := z_bd_inv hf
              obtain ⟨e1, e2⟩ := z_ret hf
              subst e1
              subst e2
              exact gx_end 36 [.inl 0, .inr (some (.int r2), σ3), .inl 0, .inl 0, .inl 1, .inr (none, σ9), .inr (some (.int r11), σ12), .inl 1, .inl 1, .inr (some (.int r16), σ17)] [¬ (s0 = 0), E0 D 5 [.ref 2, .int a2, .int (1 : Int32), .int (4 : Int32)] σ (some (.int r2)) σ3, ¬ (r2 = 0), ¬ (a5 < (-1 : Int32)), a5 < a1, E0 D 52 [.ref 73, .int a1, .int a2, .int a3, .int a4] σ3 (none) σ9, E0 D 53 [.ref 73] σ9 (some (.int r11)) σ12, ¬ (r11 = 0), ¬ (a5 = (-1 : Int32)), E0 D 56 [.ref 73, .int a5] σ12 (some (.int r16)) σ17] rfl ⟨h1, (ww_Fo_isGroup D (by omega) a2 (1 : Int32) (4 : Int32) σ r2 σ3 h4), h5, h6, h7, (ww_Ro_prepare D (by omega) a1 a2 a3 a4 σ3 () σ9 h10), (ww_Ro_solve D (by omega) σ9 r11 σ12 h13), h14, h15, (ww_Ro_whoIn D (by omega) a5 σ12 r16 σ17 h18), trivial⟩
        · obtain ⟨e1, e2⟩ := z_ret hf
          subst e1
          subst e2
          exact gx_end 19 [.inl 0, .inr (some (.int r2), σ3), .inl 0, .inl 0, .inl 0] [¬ (s0 = 0), E0 D 5 [.ref 2, .int a2, .int (1 : Int32), .int (4 : Int32)] σ (some (.int r2)) σ3, ¬ (r2 = 0), ¬ (a5 < (-1 : Int32)), ¬ (a5 < a1)] rfl ⟨h1, (ww_Fo_isGroup D (by omega) a2 (1 : Int32) (4 : Int32) σ r2 σ3 h4), h5, h6, h7, trivial⟩
set_option maxHeartbeats 16000000 in
set_option maxRecDepth 20000 in
theorem vv_Sf_rota_E (D : Nat) (hD : 13 ≤ D + 1) (rr : Int32) (σ' : gx_R) (a1 : Int32) (a2 : Int32) (a3 : Int32) (a4 : Int32) (a5 : Int32) (σ : gx_R) (hf : Sf_rota a1 a2 a3 a4 a5 σ = some (rr, σ')) : gx_Ev lay0 (E0 D) tt_123 (some (.int rr)) σ' 0 [.ref 0, .int a1, .int a2, .int a3, .int a4, .int a5, .null] [] σ := by
  unfold Sf_rota at hf
  rcases z_if_inv hf with ⟨h1, hf⟩ | ⟨h1, hf⟩
  · exact gx_go_ 3 [.inl 1] [a1 < (1 : Int32)] 19 [.ref 0, .int a1, .int a2, .int a3, .int a4, .int a5, .null] [] σ rfl ⟨h1, trivial⟩ (gx_fgt (ls' := [.ref 0, .int a1, .int a2, .int a3, .int a4, .int a5, .null]) ⟨Or.inr rfl, Or.inr rfl, Or.inr rfl, Or.inr rfl, Or.inr rfl, Or.inr rfl, Or.inl rfl, trivial⟩ (vv_Sf_rota_19 D hD rr σ' (Sf_rota_20) (vv_Sf_rota_20 D hD rr σ') a1 a2 a3 a4 a5 σ hf))
  · rcases z_if_inv hf with ⟨h2, hf⟩ | ⟨h2, hf⟩
    · exact gx_go_ 6 [.inl 0, .inl 1] [¬ (a1 < (1 : Int32)), (8 : Int32) < a1] 19 [.ref 0, .int a1, .int a2, .int a3, .int a4, .int a5, .null] [] σ rfl ⟨h1, h2, trivial⟩ (gx_fgt (ls' := [.ref 0, .int a1, .int a2, .int a3, .int a4, .int a5, .null]) ⟨Or.inr rfl, Or.inr rfl, Or.inr rfl, Or.inr rfl, Or.inr rfl, Or.inr rfl, Or.inl rfl, trivial⟩ (vv_Sf_rota_19 D hD rr σ' (Sf_rota_20) (vv_Sf_rota_20 D hD rr σ') a1 a2 a3 a4 a5 σ hf))
    · rcases z_if_inv hf with ⟨h3, hf⟩ | ⟨h3, hf⟩
      · exact gx_go_ 9 [.inl 0, .inl 0, .inl 1] [¬ (a1 < (1 : Int32)), ¬ ((8 : Int32) < a1), a3 < (1 : Int32)] 19 [.ref 0, .int a1, .int a2, .int a3, .int a4, .int a5, .null] [] σ rfl ⟨h1, h2, h3, trivial⟩ (gx_fgt (ls' := [.ref 0, .int a1, .int a2, .int a3, .int a4, .int a5, .null]) ⟨Or.inr rfl, Or.inr rfl, Or.inr rfl, Or.inr rfl, Or.inr rfl, Or.inr rfl, Or.inl rfl, trivial⟩ (vv_Sf_rota_19 D hD rr σ' (Sf_rota_20) (vv_Sf_rota_20 D hD rr σ') a1 a2 a3 a4 a5 σ hf))
      · rcases z_if_inv hf with ⟨h4, hf⟩ | ⟨h4, hf⟩
        · exact gx_go_ 12 [.inl 0, .inl 0, .inl 0, .inl 1] [¬ (a1 < (1 : Int32)), ¬ ((8 : Int32) < a1), ¬ (a3 < (1 : Int32)), (8 : Int32) < a3] 19 [.ref 0, .int a1, .int a2, .int a3, .int a4, .int a5, .null] [] σ rfl ⟨h1, h2, h3, h4, trivial⟩ (gx_fgt (ls' := [.ref 0, .int a1, .int a2, .int a3, .int a4, .int a5, .null]) ⟨Or.inr rfl, Or.inr rfl, Or.inr rfl, Or.inr rfl, Or.inr rfl, Or.inr rfl, Or.inl rfl, trivial⟩ (vv_Sf_rota_19 D hD rr σ' (Sf_rota_20) (vv_Sf_rota_20 D hD rr σ') a1 a2 a3 a4 a5 σ hf))
        · rcases z_if_inv hf with ⟨h5, hf⟩ | ⟨h5, hf⟩
          · exact gx_go_ 14 [.inl 0, .inl 0, .inl 0, .inl 0, .inl 1] [¬ (a1 < (1 : Int32)), ¬ ((8 : Int32) < a1), ¬ (a3 < (1 : Int32)), ¬ ((8 : Int32) < a3), a4 < 0] 19 [.ref 0, .int a1, .int a2, .int a3, .int a4, .int a5, .null] [] σ rfl ⟨h1, h2, h3, h4, h5, trivial⟩ (gx_fgt (ls' := [.ref 0, .int a1, .int a2, .int a3, .int a4, .int a5, .null]) ⟨Or.inr rfl, Or.inr rfl, Or.inr rfl, Or.inr rfl, Or.inr rfl, Or.inr rfl, Or.inl rfl, trivial⟩ (vv_Sf_rota_19 D hD rr σ' (Sf_rota_20) (vv_Sf_rota_20 D hD rr σ') a1 a2 a3 a4 a5 σ hf))
          · rcases z_if_inv hf with ⟨h6, hf⟩ | ⟨h6, hf⟩
            · exact gx_go_ 17 [.inl 0, .inl 0, .inl 0, .inl 0, .inl 0, .inl 1] [¬ (a1 < (1 : Int32)), ¬ ((8 : Int32) < a1), ¬ (a3 < (1 : Int32)), ¬ ((8 : Int32) < a3), ¬ (a4 < 0), (8 : Int32) < a4] 19 [.ref 0, .int a1, .int a2, .int a3, .int a4, .int a5, .null] [] σ rfl ⟨h1, h2, h3, h4, h5, h6, trivial⟩ (gx_fgt (ls' := [.ref 0, .int a1, .int a2, .int a3, .int a4, .int a5, .null]) ⟨Or.inr rfl, Or.inr rfl, Or.inr rfl, Or.inr rfl, Or.inr rfl, Or.inr rfl, Or.inl rfl, trivial⟩ (vv_Sf_rota_19 D hD rr σ' (Sf_rota_20) (vv_Sf_rota_20 D hD rr σ') a1 a2 a3 a4 a5 σ hf))
            · exact gx_go_ 19 [.inl 0, .inl 0, .inl 0, .inl 0, .inl 0, .inl 0] [¬ (a1 < (1 : Int32)), ¬ ((8 : Int32) < a1), ¬ (a3 < (1 : Int32)), ¬ ((8 : Int32) < a3), ¬ (a4 < 0), ¬ ((8 : Int32) < a4)] 20 [.ref 0, .int a1, .int a2, .int a3, .int a4, .int a5, .null] [.int (1 : Int32)] σ rfl ⟨h1, h2, h3, h4, h5, h6, trivial⟩ (gx_fgt (ls' := [.ref 0, .int a1, .int a2, .int a3, .int a4, .int a5, .null]) ⟨Or.inr rfl, Or.inr rfl, Or.inr rfl, Or.inr rfl, Or.inr rfl, Or.inr rfl, Or.inl rfl, trivial⟩ (vv_Sf_rota_20 D hD rr σ' a1 a2 a3 a4 a5 (1 : Int32) σ hf))
set_option maxHeartbeats 16000000 in
set_option maxRecDepth 20000 in
theorem ww_Sf_rota (D : Nat) (hD : 13 ≤ D) (a1 : Int32) (a2 : Int32) (a3 : Int32) (a4 : Int32) (a5 : Int32) (σ : gx_R) (rr : Int32) (σ' : gx_R) (hf : Sf_rota a1 a2 a3 a4 a5 σ = some (rr, σ')) : E0 D 123 [.ref 0, .int a1, .int a2, .int a3, .int a4, .int a5] σ (some (.int rr)) σ' := by
  cases D with
  | zero => omega
  | succ D => exact Or.inl ⟨Nat.le_of_ble_eq_true rfl, vv_Sf_rota_E D hD rr σ' a1 a2 a3 a4 a5 σ hf⟩
set_option maxHeartbeats 16000000 in
set_option maxRecDepth 20000 in
theorem vv_Sf_chain_E (D : Nat) (hD : 6 ≤ D + 1) (rr : Int32) (σ' : gx_R) (a1 : Int32) (σ : gx_R) (hf : Sf_chain a1 σ = some (rr, σ')) : gx_Ev lay0 (E0 D) tt_124 (some (.int rr)) σ' 0 [.ref 0, .int a1] [] σ := by
  unfold Sf_chain at hf
  obtain ⟨r1, σ2, h3, hf⟩ := z_bd_inv hf
  rcases z_if_inv hf with ⟨h4, hf⟩ | ⟨h4, hf⟩
  · obtain ⟨e1, e2⟩ := z_ret hf
    subst e1
    subst e2
    exact gx_end 7 [.inr (some (.int r1), σ2), .inl 1] [E0 D 135 [.ref 0, .int a1, .int (2 : Int32)] σ (some (.int r1)) σ2, r1 = 0] rfl ⟨(ww_Sf_isDoing D (by omega) a1 (2 : Int32) σ r1 σ2 h3), h4, trivial⟩
  · obtain ⟨r5, σ6, h7, hf⟩ := z_bd_inv hf
    obtain ⟨e1, e2⟩ := z_ret hf
    subst e1
    subst e2
    exact gx_end 14 [.inr (some (.int r1), σ2), .inl 0, .inr (some (.int r5), σ6)] [E0 D 135 [.ref 0, .int a1, .int (2 : Int32)] σ (some (.int r1)) σ2, ¬ (r1 = 0), E0 D 40 [.ref 53, .ref 9, .int a1] σ2 (some (.int r5)) σ6] rfl ⟨(ww_Sf_isDoing D (by omega) a1 (2 : Int32) σ r1 σ2 h3), h4, (ww_Cl_wokenBy D (by omega) a1 σ2 r5 σ6 h7), trivial⟩
set_option maxHeartbeats 16000000 in
set_option maxRecDepth 20000 in
theorem ww_Sf_chain (D : Nat) (hD : 6 ≤ D) (a1 : Int32) (σ : gx_R) (rr : Int32) (σ' : gx_R) (hf : Sf_chain a1 σ = some (rr, σ')) : E0 D 124 [.ref 0, .int a1] σ (some (.int rr)) σ' := by
  cases D with
  | zero => omega
  | succ D => exact Or.inl ⟨Nat.le_of_ble_eq_true rfl, vv_Sf_chain_E D hD rr σ' a1 σ hf⟩
set_option maxHeartbeats 16000000 in
set_option maxRecDepth 20000 in
theorem vv_Sf_guard_E (D : Nat) (hD : 6 ≤ D + 1) (rr : Int32) (σ' : gx_R) (a1 : Int32) (a2 : Int32) (σ : gx_R) (hf : Sf_guard a1 a2 σ = some (rr, σ')) : gx_Ev lay0 (E0 D) tt_125 (some (.int rr)) σ' 0 [.ref 0, .int a1, .int a2] [] σ := by
  unfold Sf_guard at hf
  obtain ⟨r1, σ2, h3, hf⟩ := z_bd_inv hf
  rcases z_if_inv hf with ⟨h4, hf⟩ | ⟨h4, hf⟩
  · obtain ⟨e1, e2⟩ := z_ret hf
    subst e1
    subst e2
    exact gx_end 7 [.inr (some (.int r1), σ2), .inl 1] [E0 D 135 [.ref 0, .int a1, .int (2 : Int32)] σ (some (.int r1)) σ2, r1 = 0] rfl ⟨(ww_Sf_isDoing D (by omega) a1 (2 : Int32) σ r1 σ2 h3), h4, trivial⟩
  · obtain ⟨r5, σ6, h7, hf⟩ := z_bd_inv hf
    rcases z_if_inv hf with ⟨h8, hf⟩ | ⟨h8, hf⟩
    · obtain ⟨e1, e2⟩ := z_ret hf
      subst e1
      subst e2
      exact gx_end 15 [.inr (some (.int r1), σ2), .inl 0, .inr (some (.int r5), σ6), .inl 1] [E0 D 135 [.ref 0, .int a1, .int (2 : Int32)] σ (some (.int r1)) σ2, ¬ (r1 = 0), E0 D 5 [.ref 2, .int a2, .int (1 : Int32), .int (8 : Int32)] σ2 (some (.int r5)) σ6, r5 = 0] rfl ⟨(ww_Sf_isDoing D (by omega) a1 (2 : Int32) σ r1 σ2 h3), h4, (ww_Fo_isGroup D (by omega) a2 (1 : Int32) (8 : Int32) σ2 r5 σ6 h7), h8, trivial⟩
    · rcases z_if_inv hf with ⟨h9, hf⟩ | ⟨h9, hf⟩
      · obtain ⟨e1, e2⟩ := z_ret hf
        subst e1
        subst e2
        exact gx_end 22 [.inr (some (.int r1), σ2), .inl 0, .inr (some (.int r5), σ6), .inl 0, .inl 0] [E0 D 135 [.ref 0, .int a1, .int (2 : Int32)] σ (some (.int r1)) σ2, ¬ (r1 = 0), E0 D 5 [.ref 2, .int a2, .int (1 : Int32), .int (8 : Int32)] σ2 (some (.int r5)) σ6, ¬ (r5 = 0), ¬ ¬ (((a2 >>> (a1 &&& 31)) &&& (1 : Int32)) = (1 : Int32))] rfl ⟨(ww_Sf_isDoing D (by omega) a1 (2 : Int32) σ r1 σ2 h3), h4, (ww_Fo_isGroup D (by omega) a2 (1 : Int32) (8 : Int32) σ2 r5 σ6 h7), h8, (fun q => q h9), trivial⟩
      · obtain ⟨r10, σ11, h12, hf⟩ := z_bd_inv hf
        obtain ⟨e1, e2⟩ := z_ret hf
        subst e1
        subst e2
        exact gx_end 26 [.inr (some (.int r1), σ2), .inl 0, .inr (some (.int r5), σ6), .inl 0, .inl 1, .inr (some (.int r10), σ11)] [E0 D 135 [.ref 0, .int a1, .int (2 : Int32)] σ (some (.int r1)) σ2, ¬ (r1 = 0), E0 D 5 [.ref 2, .int a2, .int (1 : Int32), .int (8 : Int32)] σ2 (some (.int r5)) σ6, ¬ (r5 = 0), ¬ (((a2 >>> (a1 &&& 31)) &&& (1 : Int32)) = (1 : Int32)), E0 D 58 [.ref 77, .int a1, .int a2] σ6 (some (.int r10)) σ11] rfl ⟨(ww_Sf_isDoing D (by omega) a1 (2 : Int32) σ r1 σ2 h3), h4, (ww_Fo_isGroup D (by omega) a2 (1 : Int32) (8 : Int32) σ2 r5 σ6 h7), h8, h9, (ww_Qu_leastGuard D (by omega) a1 a2 σ6 r10 σ11 h12), trivial⟩
set_option maxHeartbeats 16000000 in
set_option maxRecDepth 20000 in
theorem ww_Sf_guard (D : Nat) (hD : 6 ≤ D) (a1 : Int32) (a2 : Int32) (σ : gx_R) (rr : Int32) (σ' : gx_R) (hf : Sf_guard a1 a2 σ = some (rr, σ')) : E0 D 125 [.ref 0, .int a1, .int a2] σ (some (.int rr)) σ' := by
  cases D with
  | zero => omega
  | succ D => exact Or.inl ⟨Nat.le_of_ble_eq_true rfl, vv_Sf_guard_E D hD rr σ' a1 a2 σ hf⟩
set_option maxHeartbeats 16000000 in
set_option maxRecDepth 20000 in
theorem vv_Sf_power_4_B (D : Nat) (hD : 1 ≤ D + 1) (rr : Int64) (σ' : gx_R) (K4 : Int64 → Int32 → Int64 → Int32 → gx_R → Option (Int64 × gx_R)) (hK4 : ∀ (l0 : Int64) (a2 : Int32) (l3 : Int64) (a5 : Int32) (σ : gx_R), K4 l0 a2 l3 a5 σ = some (rr, σ') → gx_Ev lay0 (E0 D) tt_142 (some (.long rr)) σ' 4 [.long l0, .null, .int a2, .long l3, .null, .int a5] [] σ) (l0 : Int64) (a2 : Int32) (l3 : Int64) (a5 : Int32) (σ : gx_R) (hf : Sf_power_4_B K4 l0 a2 l3 a5 σ = some (rr, σ')) : gx_Ev lay0 (E0 D) tt_142 (some (.long rr)) σ' 4 [.long l0, .null, .int a2, .long l3, .null, .int a5] [] σ := by
  unfold Sf_power_4_B at hf
  rcases z_if_inv hf with ⟨h1, hf⟩ | ⟨h1, hf⟩
  · obtain ⟨e1, e2⟩ := z_ret hf
    subst e1
    subst e2
    exact gx_end 5 [.inl 1] [a2 ≤ a5] rfl ⟨h1, trivial⟩
  · exact gx_go_ 9 [.inl 0] [¬ (a2 ≤ a5)] 4 [.long l0, .null, .int a2, .long (l3 * l0), .null, .int (a5 + 1)] [] σ rfl ⟨h1, trivial⟩ (gx_fgt (ls' := [.long l0, .null, .int a2, .long (l3 * l0), .null, .int (a5 + 1)]) ⟨Or.inr rfl, Or.inl rfl, Or.inr rfl, Or.inr rfl, Or.inl rfl, Or.inr rfl, trivial⟩ (hK4 l0 a2 (l3 * l0) (a5 + 1) σ hf))
set_option maxHeartbeats 16000000 in
set_option maxRecDepth 20000 in
theorem vv_Sf_power_4 (D : Nat) (hD : 1 ≤ D + 1) (rr : Int64) (σ' : gx_R) : ∀ (n : Nat) (l0 : Int64) (a2 : Int32) (l3 : Int64) (a5 : Int32) (σ : gx_R), Sf_power_4 n l0 a2 l3 a5 σ = some (rr, σ') → gx_Ev lay0 (E0 D) tt_142 (some (.long rr)) σ' 4 [.long l0, .null, .int a2, .long l3, .null, .int a5] [] σ := by
  intro n
  induction n with
  | zero => intro l0 a2 l3 a5 σ  hf; cases hf
  | succ n ih => intro l0 a2 l3 a5 σ  hf; exact vv_Sf_power_4_B D hD rr σ'  (Sf_power_4 n) ih l0 a2 l3 a5 σ  hf
set_option maxHeartbeats 16000000 in
set_option maxRecDepth 20000 in
theorem vv_Sf_power_E (D : Nat) (hD : 1 ≤ D + 1) (rr : Int64) (σ' : gx_R) (l0 : Int64) (a2 : Int32) (σ : gx_R) (hf : Sf_power l0 a2 σ = some (rr, σ')) : gx_Ev lay0 (E0 D) tt_142 (some (.long rr)) σ' 0 [.long l0, .null, .int a2, .null, .null, .null] [] σ := by
  unfold Sf_power at hf
  exact gx_go_ 4 [] [] 4 [.long l0, .null, .int a2, .long (1 : Int64), .null, .int (0 : Int32)] [] σ rfl trivial (gx_fgt (ls' := [.long l0, .null, .int a2, .long (1 : Int64), .null, .int (0 : Int32)]) ⟨Or.inr rfl, Or.inl rfl, Or.inr rfl, Or.inr rfl, Or.inl rfl, Or.inr rfl, trivial⟩ (vv_Sf_power_4 D hD rr σ' z_FU l0 a2 (1 : Int64) (0 : Int32) σ hf))
set_option maxHeartbeats 16000000 in
set_option maxRecDepth 20000 in
theorem ww_Sf_power (D : Nat) (hD : 1 ≤ D) (l0 : Int64) (a2 : Int32) (σ : gx_R) (rr : Int64) (σ' : gx_R) (hf : Sf_power l0 a2 σ = some (rr, σ')) : E0 D 142 [.long l0, .int a2] σ (some (.long rr)) σ' := by
  cases D with
  | zero => omega
  | succ D => exact Or.inl ⟨Nat.le_of_ble_eq_true rfl, vv_Sf_power_E D hD rr σ' l0 a2 σ hf⟩
set_option maxHeartbeats 16000000 in
set_option maxRecDepth 20000 in
theorem vv_Sf_atLeast_26 (D : Nat) (hD : 2 ≤ D + 1) (rr : Int64) (σ' : gx_R) (K6 : Int32 → Int32 → Int64 → Int64 → Int64 → Int64 → Int32 → gx_R → Option (Int64 × gx_R)) (hK6 : ∀ (a0 : Int32) (a1 : Int32) (l2 : Int64) (l4 : Int64) (l6 : Int64) (l8 : Int64) (a10 : Int32) (σ : gx_R), K6 a0 a1 l2 l4 l6 l8 a10 σ = some (rr, σ') → gx_Ev lay0 (E0 D) tt_143 (some (.long rr)) σ' 6 [.int a0, .int a1, .long l2, .null, .long l4, .null, .long l6, .null, .long l8, .null, .int a10] [] σ) (a0 : Int32) (a1 : Int32) (l2 : Int64) (l4 : Int64) (l6 : Int64) (l8 : Int64) (a10 : Int32) (σ : gx_R) (hf : Sf_atLeast_26 K6 a0 a1 l2 l4 l6 l8 a10 σ = some (rr, σ')) : gx_Ev lay0 (E0 D) tt_143 (some (.long rr)) σ' 26 [.int a0, .int a1, .long l2, .null, .long l4, .null, .long l6, .null, .long l8, .null, .int a10] [] σ := by
  unfold Sf_atLeast_26 at hf
  obtain ⟨h1, hf⟩ := z_ck_inv hf
  exact gx_go_ 14 [] [¬ ((a10 + (1 : Int32)).toInt64) = 0] 6 [.int a0, .int a1, .long l2, .null, .long l4, .null, .long l6, .null, .long ((l8 * (a0 - a10).toInt64) / (a10 + (1 : Int32)).toInt64), .null, .int (a10 + 1)] [] σ rfl ⟨(z_nzl_in h1), trivial⟩ (gx_fgt (ls' := [.int a0, .int a1, .long l2, .null, .long l4, .null, .long l6, .null, .long ((l8 * (a0 - a10).toInt64) / (a10 + (1 : Int32)).toInt64), .null, .int (a10 + 1)]) ⟨Or.inr rfl, Or.inr rfl, Or.inr rfl, Or.inl rfl, Or.inr rfl, Or.inl rfl, Or.inr rfl, Or.inl rfl, Or.inr rfl, Or.inl rfl, Or.inr rfl, trivial⟩ (hK6 a0 a1 l2 l4 l6 ((l8 * (a0 - a10).toInt64) / (a10 + (1 : Int32)).toInt64) (a10 + 1) σ hf))
set_option maxHeartbeats 16000000 in
set_option maxRecDepth 20000 in
theorem vv_Sf_atLeast_6_B (D : Nat) (hD : 2 ≤ D + 1) (rr : Int64) (σ' : gx_R) (K6 : Int32 → Int32 → Int64 → Int64 → Int64 → Int64 → Int32 → gx_R → Option (Int64 × gx_R)) (hK6 : ∀ (a0 : Int32) (a1 : Int32) (l2 : Int64) (l4 : Int64) (l6 : Int64) (l8 : Int64) (a10 : Int32) (σ : gx_R), K6 a0 a1 l2 l4 l6 l8 a10 σ = some (rr, σ') → gx_Ev lay0 (E0 D) tt_143 (some (.long rr)) σ' 6 [.int a0, .int a1, .long l2, .null, .long l4, .null, .long l6, .null, .long l8, .null, .int a10] [] σ) (a0 : Int32) (a1 : Int32) (l2 : Int64) (l4 : Int64) (l6 : Int64) (l8 : Int64) (a10 : Int32) (σ : gx_R) (hf : Sf_atLeast_6_B K6 a0 a1 l2 l4 l6 l8 a10 σ = some (rr, σ')) : gx_Ev lay0 (E0 D) tt_143 (some (.long rr)) σ' 6 [.int a0, .int a1, .long l2, .null, .long l4, .null, .long l6, .null, .long l8, .null, .int a10] [] σ := by
  unfold Sf_atLeast_6_B at hf
  rcases z_if_inv hf with ⟨h1, hf⟩ | ⟨h1, hf⟩
  · obtain ⟨e1, e2⟩ := z_ret hf
    subst e1
    subst e2
    exact gx_end 5 [.inl 1] [a0 < a10] rfl ⟨h1, trivial⟩
  · rcases z_if_inv hf with ⟨h2, hf⟩ | ⟨h2, hf⟩
    · exact gx_go_ 6 [.inl 0, .inl 1] [¬ (a0 < a10), a10 < a1] 26 [.int a0, .int a1, .long l2, .null, .long l4, .null, .long l6, .null, .long l8, .null, .int a10] [] σ rfl ⟨h1, h2, trivial⟩ (gx_fgt (ls' := [.int a0, .int a1, .long l2, .null, .long l4, .null, .long l6, .null, .long l8, .null, .int a10]) ⟨Or.inr rfl, Or.inr rfl, Or.inr rfl, Or.inl rfl, Or.inr rfl, Or.inl rfl, Or.inr rfl, Or.inl rfl, Or.inr rfl, Or.inl rfl, Or.inr rfl, trivial⟩ (vv_Sf_atLeast_26 D hD rr σ' K6 hK6 a0 a1 l2 l4 l6 l8 a10 σ hf))
    · obtain ⟨r3, σ4, h5, hf⟩ := z_bd_inv hf
      obtain ⟨r6, σ7, h8, hf⟩ := z_bd_inv hf
      exact gx_go_ 20 [.inl 0, .inl 0, .inr (some (.long r3), σ4), .inr (some (.long r6), σ7)] [¬ (a0 < a10), ¬ (a10 < a1), E0 D 142 [.long l2, .int a10] σ (some (.long r3)) σ4, E0 D 142 [.long l4, .int (a0 - a10)] σ4 (some (.long r6)) σ7] 26 [.int a0, .int a1, .long l2, .null, .long l4, .null, .long (l6 + ((l8 * r3) * r6)), .null, .long l8, .null, .int a10] [] σ7 rfl ⟨h1, h2, (ww_Sf_power D (by omega) l2 a10 σ r3 σ4 h5), (ww_Sf_power D (by omega) l4 (a0 - a10) σ4 r6 σ7 h8), trivial⟩ (gx_fgt (ls' := [.int a0, .int a1, .long l2, .null, .long l4, .null, .long (l6 + ((l8 * r3) * r6)), .null, .long l8, .null, .int a10]) ⟨Or.inr rfl, Or.inr rfl, Or.inr rfl, Or.inl rfl, Or.inr rfl, Or.inl rfl, Or.inr rfl, Or.inl rfl, Or.inr rfl, Or.inl rfl, Or.inr rfl, trivial⟩ (vv_Sf_atLeast_26 D hD rr σ' K6 hK6 a0 a1 l2 l4 (l6 + ((l8 * r3) * r6)) l8 a10 σ7 hf))
set_option maxHeartbeats 16000000 in
set_option maxRecDepth 20000 in
theorem vv_Sf_atLeast_6 (D : Nat) (hD : 2 ≤ D + 1) (rr : Int64) (σ' : gx_R) : ∀ (n : Nat) (a0 : Int32) (a1 : Int32) (l2 : Int64) (l4 : Int64) (l6 : Int64) (l8 : Int64) (a10 : Int32) (σ : gx_R), Sf_atLeast_6 n a0 a1 l2 l4 l6 l8 a10 σ = some (rr, σ') → gx_Ev lay0 (E0 D) tt_143 (some (.long rr)) σ' 6 [.int a0, .int a1, .long l2, .null, .long l4, .null, .long l6, .null, .long l8, .null, .int a10] [] σ := by
  intro n
  induction n with
  | zero => intro a0 a1 l2 l4 l6 l8 a10 σ  hf; cases hf
  | succ n ih => intro a0 a1 l2 l4 l6 l8 a10 σ  hf; exact vv_Sf_atLeast_6_B D hD rr σ'  (Sf_atLeast_6 n) ih a0 a1 l2 l4 l6 l8 a10 σ  hf
set_option maxHeartbeats 16000000 in
set_option maxRecDepth 20000 in
theorem vv_Sf_atLeast_E (D : Nat) (hD : 2 ≤ D + 1) (rr : Int64) (σ' : gx_R) (a0 : Int32) (a1 : Int32) (l2 : Int64) (l4 : Int64) (σ : gx_R) (hf : Sf_atLeast a0 a1 l2 l4 σ = some (rr, σ')) : gx_Ev lay0 (E0 D) tt_143 (some (.long rr)) σ' 0 [.int a0, .int a1, .long l2, .null, .long l4, .null, .null, .null, .null, .null, .null] [] σ := by
  unfold Sf_atLeast at hf
  exact gx_go_ 6 [] [] 6 [.int a0, .int a1, .long l2, .null, .long l4, .null, .long (0 : Int64), .null, .long (1 : Int64), .null, .int (0 : Int32)] [] σ rfl trivial (gx_fgt (ls' := [.int a0, .int a1, .long l2, .null, .long l4, .null, .long (0 : Int64), .null, .long (1 : Int64), .null, .int (0 : Int32)]) ⟨Or.inr rfl, Or.inr rfl, Or.inr rfl, Or.inl rfl, Or.inr rfl, Or.inl rfl, Or.inr rfl, Or.inl rfl, Or.inr rfl, Or.inl rfl, Or.inr rfl, trivial⟩ (vv_Sf_atLeast_6 D hD rr σ' z_FU a0 a1 l2 l4 (0 : Int64) (1 : Int64) (0 : Int32) σ hf))
set_option maxHeartbeats 16000000 in
set_option maxRecDepth 20000 in
theorem ww_Sf_atLeast (D : Nat) (hD : 2 ≤ D) (a0 : Int32) (a1 : Int32) (l2 : Int64) (l4 : Int64) (σ : gx_R) (rr : Int64) (σ' : gx_R) (hf : Sf_atLeast a0 a1 l2 l4 σ = some (rr, σ')) : E0 D 143 [.int a0, .int a1, .long l2, .long l4] σ (some (.long rr)) σ' := by
  cases D with
  | zero => omega
  | succ D => exact Or.inl ⟨Nat.le_of_ble_eq_true rfl, vv_Sf_atLeast_E D hD rr σ' a0 a1 l2 l4 σ hf⟩
set_option maxHeartbeats 16000000 in
set_option maxRecDepth 20000 in
theorem vv_Sf_commonDivisor_6_B (D : Nat) (hD : 1 ≤ D + 1) (rr : Int64) (σ' : gx_R) (K6 : Int64 → Int64 → Int32 → gx_R → Option (Int64 × gx_R)) (hK6 : ∀ (l4 : Int64) (l6 : Int64) (a8 : Int32) (σ : gx_R), K6 l4 l6 a8 σ = some (rr, σ') → gx_Ev lay0 (E0 D) tt_144 (some (.long rr)) σ' 6 [.null, .null, .null, .null, .long l4, .null, .long l6, .null, .int a8, .null, .null] [] σ) (l4 : Int64) (l6 : Int64) (a8 : Int32) (σ : gx_R) (hf : Sf_commonDivisor_6_B K6 l4 l6 a8 σ = some (rr, σ')) : gx_Ev lay0 (E0 D) tt_144 (some (.long rr)) σ' 6 [.null, .null, .null, .null, .long l4, .null, .long l6, .null, .int a8, .null, .null] [] σ := by
  unfold Sf_commonDivisor_6_B at hf
  rcases z_if_inv hf with ⟨h1, hf⟩ | ⟨h1, hf⟩
  · obtain ⟨e1, e2⟩ := z_ret hf
    subst e1
    subst e2
    exact gx_end 5 [.inl 1] [(200 : Int32) ≤ a8] rfl ⟨h1, trivial⟩
  · rcases z_if_inv hf with ⟨h2, hf⟩ | ⟨h2, hf⟩
    · obtain ⟨e1, e2⟩ := z_ret hf
      subst e1
      subst e2
      exact gx_end 9 [.inl 0, .inl 1] [¬ ((200 : Int32) ≤ a8), (lg_cmp l6 (0 : Int64)) = 0] rfl ⟨h1, h2, trivial⟩
    · obtain ⟨h3, hf⟩ := z_ck_inv hf
      exact gx_go_ 17 [.inl 0, .inl 0] [¬ ((200 : Int32) ≤ a8), ¬ ((lg_cmp l6 (0 : Int64)) = 0), ¬ l6 = 0] 6 [.null, .null, .null, .null, .long l6, .null, .long (l4 - l4 / l6 * l6), .null, .int (a8 + 1), .long (l4 - l4 / l6 * l6), .null] [] σ rfl ⟨h1, h2, (z_nzl_in h3), trivial⟩ (gx_fgt (ls' := [.null, .null, .null, .null, .long l6, .null, .long (l4 - l4 / l6 * l6), .null, .int (a8 + 1), .null, .null]) ⟨Or.inl rfl, Or.inl rfl, Or.inl rfl, Or.inl rfl, Or.inr rfl, Or.inl rfl, Or.inr rfl, Or.inl rfl, Or.inr rfl, Or.inl rfl, Or.inl rfl, trivial⟩ (hK6 l6 (l4 - l4 / l6 * l6) (a8 + 1) σ hf))
set_option maxHeartbeats 16000000 in
set_option maxRecDepth 20000 in
theorem vv_Sf_commonDivisor_6 (D : Nat) (hD : 1 ≤ D + 1) (rr : Int64) (σ' : gx_R) : ∀ (n : Nat) (l4 : Int64) (l6 : Int64) (a8 : Int32) (σ : gx_R), Sf_commonDivisor_6 n l4 l6 a8 σ = some (rr, σ') → gx_Ev lay0 (E0 D) tt_144 (some (.long rr)) σ' 6 [.null, .null, .null, .null, .long l4, .null, .long l6, .null, .int a8, .null, .null] [] σ := by
  intro n
  induction n with
  | zero => intro l4 l6 a8 σ  hf; cases hf
  | succ n ih => intro l4 l6 a8 σ  hf; exact vv_Sf_commonDivisor_6_B D hD rr σ'  (Sf_commonDivisor_6 n) ih l4 l6 a8 σ  hf
set_option maxHeartbeats 16000000 in
set_option maxRecDepth 20000 in
theorem vv_Sf_commonDivisor_E (D : Nat) (hD : 1 ≤ D + 1) (rr : Int64) (σ' : gx_R) (l0 : Int64) (l2 : Int64) (σ : gx_R) (hf : Sf_commonDivisor l0 l2 σ = some (rr, σ')) : gx_Ev lay0 (E0 D) tt_144 (some (.long rr)) σ' 0 [.long l0, .null, .long l2, .null, .null, .null, .null, .null, .null, .null, .null] [] σ := by
  unfold Sf_commonDivisor at hf
  exact gx_go_ 6 [] [] 6 [.long l0, .null, .long l2, .null, .long l0, .null, .long l2, .null, .int (0 : Int32), .null, .null] [] σ rfl trivial (gx_fgt (ls' := [.null, .null, .null, .null, .long l0, .null, .long l2, .null, .int (0 : Int32), .null, .null]) ⟨Or.inl rfl, Or.inl rfl, Or.inl rfl, Or.inl rfl, Or.inr rfl, Or.inl rfl, Or.inr rfl, Or.inl rfl, Or.inr rfl, Or.inl rfl, Or.inl rfl, trivial⟩ (vv_Sf_commonDivisor_6 D hD rr σ' z_FU l0 l2 (0 : Int32) σ hf))
set_option maxHeartbeats 16000000 in
set_option maxRecDepth 20000 in
theorem ww_Sf_commonDivisor (D : Nat) (hD : 1 ≤ D) (l0 : Int64) (l2 : Int64) (σ : gx_R) (rr : Int64) (σ' : gx_R) (hf : Sf_commonDivisor l0 l2 σ = some (rr, σ')) : E0 D 144 [.long l0, .long l2] σ (some (.long rr)) σ' := by
  cases D with
  | zero => omega
  | succ D => exact Or.inl ⟨Nat.le_of_ble_eq_true rfl, vv_Sf_commonDivisor_E D hD rr σ' l0 l2 σ hf⟩
set_option maxHeartbeats 16000000 in
set_option maxRecDepth 20000 in
theorem vv_Sf_enough_18 (D : Nat) (hD : 3 ≤ D + 1) (rr : Int64) (σ' : gx_R) (K19 : Int32 → Int32 → Int32 → Int32 → Int32 → Int32 → gx_R → Option (Int64 × gx_R)) (hK19 : ∀ (a1 : Int32) (a2 : Int32) (a3 : Int32) (a4 : Int32) (a5 : Int32) (s0 : Int32) (σ : gx_R), K19 a1 a2 a3 a4 a5 s0 σ = some (rr, σ') → gx_Ev lay0 (E0 D) tt_126 (some (.long rr)) σ' 19 [.null, .int a1, .int a2, .int a3, .int a4, .int a5, .null, .null, .null, .null, .null, .null, .null, .null, .null, .null, .null] [.int s0] σ) (a1 : Int32) (a2 : Int32) (a3 : Int32) (a4 : Int32) (a5 : Int32) (σ : gx_R) (hf : Sf_enough_18 K19 a1 a2 a3 a4 a5 σ = some (rr, σ')) : gx_Ev lay0 (E0 D) tt_126 (some (.long rr)) σ' 18 [.null, .int a1, .int a2, .int a3, .int a4, .int a5, .null, .null, .null, .null, .null, .null, .null, .null, .null, .null, .null] [] σ := by
  unfold Sf_enough_18 at hf
  exact gx_go_ 1 [] [] 19 [.null, .int a1, .int a2, .int a3, .int a4, .int a5, .null, .null, .null, .null, .null, .null, .null, .null, .null, .null, .null] [.int (0 : Int32)] σ rfl trivial (gx_fgt (ls' := [.null, .int a1, .int a2, .int a3, .int a4, .int a5, .null, .null, .null, .null, .null, .null, .null, .null, .null, .null, .null]) ⟨Or.inl rfl, Or.inr rfl, Or.inr rfl, Or.inr rfl, Or.inr rfl, Or.inr rfl, Or.inl rfl, Or.inl rfl, Or.inl rfl, Or.inl rfl, Or.inl rfl, Or.inl rfl, Or.inl rfl, Or.inl rfl, Or.inl rfl, Or.inl rfl, Or.inl rfl, trivial⟩ (hK19 a1 a2 a3 a4 a5 (0 : Int32) σ hf))
set_option maxHeartbeats 16000000 in
set_option maxRecDepth 20000 in
theorem vv_Sf_enough_19 (D : Nat) (hD : 3 ≤ D + 1) (rr : Int64) (σ' : gx_R) (a1 : Int32) (a2 : Int32) (a3 : Int32) (a4 : Int32) (a5 : Int32) (s0 : Int32) (σ : gx_R) (hf : Sf_enough_19 a1 a2 a3 a4 a5 s0 σ = some (rr, σ')) : gx_Ev lay0 (E0 D) tt_126 (some (.long rr)) σ' 19 [.null, .int a1, .int a2, .int a3, .int a4, .int a5, .null, .null, .null, .null, .null, .null, .null, .null, .null, .null, .null] [.int s0] σ := by
  unfold Sf_enough_19 at hf
  rcases z_if_inv hf with ⟨h1, hf⟩ | ⟨h1, hf⟩
  · obtain ⟨e1, e2⟩ := z_ret hf
    subst e1
    subst e2
    exact gx_end 5 [.inl 1] [s0 = 0] rfl ⟨h1, trivial⟩
  · rcases z_if_inv hf with ⟨h2, hf⟩ | ⟨h2, hf⟩
    · obtain ⟨e1, e2⟩ := z_ret hf
      subst e1
      subst e2
      exact gx_end 7 [.inl 0, .inl 1] [¬ (s0 = 0), a3 < 0] rfl ⟨h1, h2, trivial⟩
    · rcases z_if_inv hf with ⟨h3, hf⟩ | ⟨h3, hf⟩
      · obtain ⟨e1, e2⟩ := z_ret hf
        subst e1
        subst e2
        exact gx_end 10 [.inl 0, .inl 0, .inl 1] [¬ (s0 = 0), ¬ (a3 < 0), (15 : Int32) < a3] rfl ⟨h1, h2, h3, trivial⟩
      · rcases z_if_inv hf with ⟨h4, hf⟩ | ⟨h4, hf⟩
        · obtain ⟨r5, σ6, h7, hf⟩ := z_bd_inv hf
          obtain ⟨r8, σ9, h10, hf⟩ := z_bd_inv hf
          obtain ⟨r11, σ12, h13, hf⟩ := z_bd_inv hf
          obtain ⟨r14, σ15, h16, hf⟩ := z_bd_inv hf
          obtain ⟨r17, σ18, h19, hf⟩ := z_bd_inv hf
          rcases z_if_inv hf with ⟨h20, hf⟩ | ⟨h20, hf⟩
          · rcases z_if_inv hf with ⟨h21, hf⟩ | ⟨h21, hf⟩
            · obtain ⟨h22, hf⟩ := z_ck_inv hf
              obtain ⟨e1, e2⟩ := z_ret hf
              subst e1
              subst e2
              exact gx_end 50 [.inl 0, .inl 0, .inl 0, .inl 1, .inr (some (.long r5), σ6), .inr (some (.long r8), σ9), .inr (some (.long r11), σ12), .inr (some (.long r14), σ15), .inr (some (.long r17), σ18), .inl 1, .inl 1] [¬ (s0 = 0), ¬ (a3 < 0), ¬ ((15 : Int32) < a3), (a1 * a3) ≤ (15 : Int32), E0 D 142 [.long (((10 : Int32) - a2).toInt64), .int a3] σ (some (.long r5)) σ6, E0 D 142 [.long (10 : Int64), .int a3] σ6 (some (.long r8)) σ9, E0 D 143 [.int a1, .int a4, .long r5, .long (r8 - r5)] σ9 (some (.long r11)) σ12, E0 D 142 [.long r8, .int a1] σ12 (some (.long r14)) σ15, E0 D 144 [.long r14, .long r11] σ15 (some (.long r17)) σ18, 0 ≤ (lg_cmp r17 (1 : Int64)), a5 = 0, ¬ r17 = 0] rfl ⟨h1, h2, h3, h4, (ww_Sf_power D (by omega) (((10 : Int32) - a2).toInt64) a3 σ r5 σ6 h7), (ww_Sf_power D (by omega) (10 : Int64) a3 σ6 r8 σ9 h10), (ww_Sf_atLeast D (by omega) a1 a4 r5 (r8 - r5) σ9 r11 σ12 h13), (ww_Sf_power D (by omega) r8 a1 σ12 r14 σ15 h16), (ww_Sf_commonDivisor D (by omega) r14 r11 σ15 r17 σ18 h19), h20, h21, (z_nzl_in h22), trivial⟩
            · obtain ⟨h23, hf⟩ := z_ck_inv hf
              obtain ⟨e1, e2⟩ := z_ret hf
              subst e1
              subst e2
              exact gx_end 51 [.inl 0, .inl 0, .inl 0, .inl 1, .inr (some (.long r5), σ6), .inr (some (.long r8), σ9), .inr (some (.long r11), σ12), .inr (some (.long r14), σ15), .inr (some (.long r17), σ18), .inl 1, .inl 0] [¬ (s0 = 0), ¬ (a3 < 0), ¬ ((15 : Int32) < a3), (a1 * a3) ≤ (15 : Int32), E0 D 142 [.long (((10 : Int32) - a2).toInt64), .int a3] σ (some (.long r5)) σ6, E0 D 142 [.long (10 : Int64), .int a3] σ6 (some (.long r8)) σ9, E0 D 143 [.int a1, .int a4, .long r5, .long (r8 - r5)] σ9 (some (.long r11)) σ12, E0 D 142 [.long r8, .int a1] σ12 (some (.long r14)) σ15, E0 D 144 [.long r14, .long r11] σ15 (some (.long r17)) σ18, 0 ≤ (lg_cmp r17 (1 : Int64)), ¬ (a5 = 0), ¬ r17 = 0] rfl ⟨h1, h2, h3, h4, (ww_Sf_power D (by omega) (((10 : Int32) - a2).toInt64) a3 σ r5 σ6 h7), (ww_Sf_power D (by omega) (10 : Int64) a3 σ6 r8 σ9 h10), (ww_Sf_atLeast D (by omega) a1 a4 r5 (r8 - r5) σ9 r11 σ12 h13), (ww_Sf_power D (by omega) r8 a1 σ12 r14 σ15 h16), (ww_Sf_commonDivisor D (by omega) r14 r11 σ15 r17 σ18 h19), h20, h21, (z_nzl_in h23), trivial⟩
          · obtain ⟨e1, e2⟩ := z_ret hf
            subst e1
            subst e2
            exact gx_end 46 [.inl 0, .inl 0, .inl 0, .inl 1, .inr (some (.long r5), σ6), .inr (some (.long r8), σ9), .inr (some (.long r11), σ12), .inr (some (.long r14), σ15), .inr (some (.long r17), σ18), .inl 0] [¬ (s0 = 0), ¬ (a3 < 0), ¬ ((15 : Int32) < a3), (a1 * a3) ≤ (15 : Int32), E0 D 142 [.long (((10 : Int32) - a2).toInt64), .int a3] σ (some (.long r5)) σ6, E0 D 142 [.long (10 : Int64), .int a3] σ6 (some (.long r8)) σ9, E0 D 143 [.int a1, .int a4, .long r5, .long (r8 - r5)] σ9 (some (.long r11)) σ12, E0 D 142 [.long r8, .int a1] σ12 (some (.long r14)) σ15, E0 D 144 [.long r14, .long r11] σ15 (some (.long r17)) σ18, ¬ (0 ≤ (lg_cmp r17 (1 : Int64)))] rfl ⟨h1, h2, h3, h4, (ww_Sf_power D (by omega) (((10 : Int32) - a2).toInt64) a3 σ r5 σ6 h7), (ww_Sf_power D (by omega) (10 : Int64) a3 σ6 r8 σ9 h10), (ww_Sf_atLeast D (by omega) a1 a4 r5 (r8 - r5) σ9 r11 σ12 h13), (ww_Sf_power D (by omega) r8 a1 σ12 r14 σ15 h16), (ww_Sf_commonDivisor D (by omega) r14 r11 σ15 r17 σ18 h19), h20, trivial⟩
        · obtain ⟨e1, e2⟩ := z_ret hf
          subst e1
          subst e2
          exact gx_end 15 [.inl 0, .inl 0, .inl 0, .inl 0] [¬ (s0 = 0), ¬ (a3 < 0), ¬ ((15 : Int32) < a3), ¬ ((a1 * a3) ≤ (15 : Int32))] rfl ⟨h1, h2, h3, h4, trivial⟩
set_option maxHeartbeats 16000000 in
set_option maxRecDepth 20000 in
theorem vv_Sf_enough_E (D : Nat) (hD : 3 ≤ D + 1) (rr : Int64) (σ' : gx_R) (a1 : Int32) (a2 : Int32) (a3 : Int32) (a4 : Int32) (a5 : Int32) (σ : gx_R) (hf : Sf_enough a1 a2 a3 a4 a5 σ = some (rr, σ')) : gx_Ev lay0 (E0 D) tt_126 (some (.long rr)) σ' 0 [.ref 0, .int a1, .int a2, .int a3, .int a4, .int a5, .null, .null, .null, .null, .null, .null, .null, .null, .null, .null, .null] [] σ := by
  unfold Sf_enough at hf
  rcases z_if_inv hf with ⟨h1, hf⟩ | ⟨h1, hf⟩
  · exact gx_go_ 3 [.inl 1] [a1 < (1 : Int32)] 18 [.ref 0, .int a1, .int a2, .int a3, .int a4, .int a5, .null, .null, .null, .null, .null, .null, .null, .null, .null, .null, .null] [] σ rfl ⟨h1, trivial⟩ (gx_fgt (ls' := [.null, .int a1, .int a2, .int a3, .int a4, .int a5, .null, .null, .null, .null, .null, .null, .null, .null, .null, .null, .null]) ⟨Or.inl rfl, Or.inr rfl, Or.inr rfl, Or.inr rfl, Or.inr rfl, Or.inr rfl, Or.inl rfl, Or.inl rfl, Or.inl rfl, Or.inl rfl, Or.inl rfl, Or.inl rfl, Or.inl rfl, Or.inl rfl, Or.inl rfl, Or.inl rfl, Or.inl rfl, trivial⟩ (vv_Sf_enough_18 D hD rr σ' (Sf_enough_19) (vv_Sf_enough_19 D hD rr σ') a1 a2 a3 a4 a5 σ hf))
  · rcases z_if_inv hf with ⟨h2, hf⟩ | ⟨h2, hf⟩
    · exact gx_go_ 6 [.inl 0, .inl 1] [¬ (a1 < (1 : Int32)), (5 : Int32) < a1] 18 [.ref 0, .int a1, .int a2, .int a3, .int a4, .int a5, .null, .null, .null, .null, .null, .null, .null, .null, .null, .null, .null] [] σ rfl ⟨h1, h2, trivial⟩ (gx_fgt (ls' := [.null, .int a1, .int a2, .int a3, .int a4, .int a5, .null, .null, .null, .null, .null, .null, .null, .null, .null, .null, .null]) ⟨Or.inl rfl, Or.inr rfl, Or.inr rfl, Or.inr rfl, Or.inr rfl, Or.inr rfl, Or.inl rfl, Or.inl rfl, Or.inl rfl, Or.inl rfl, Or.inl rfl, Or.inl rfl, Or.inl rfl, Or.inl rfl, Or.inl rfl, Or.inl rfl, Or.inl rfl, trivial⟩ (vv_Sf_enough_18 D hD rr σ' (Sf_enough_19) (vv_Sf_enough_19 D hD rr σ') a1 a2 a3 a4 a5 σ hf))
    · rcases z_if_inv hf with ⟨h3, hf⟩ | ⟨h3, hf⟩
      · exact gx_go_ 8 [.inl 0, .inl 0, .inl 1] [¬ (a1 < (1 : Int32)), ¬ ((5 : Int32) < a1), a2 < 0] 18 [.ref 0, .int a1, .int a2, .int a3, .int a4, .int a5, .null, .null, .null, .null, .null, .null, .null, .null, .null, .null, .null] [] σ rfl ⟨h1, h2, h3, trivial⟩ (gx_fgt (ls' := [.null, .int a1, .int a2, .int a3, .int a4, .int a5, .null, .null, .null, .null, .null, .null, .null, .null, .null, .null, .null]) ⟨Or.inl rfl, Or.inr rfl, Or.inr rfl, Or.inr rfl, Or.inr rfl, Or.inr rfl, Or.inl rfl, Or.inl rfl, Or.inl rfl, Or.inl rfl, Or.inl rfl, Or.inl rfl, Or.inl rfl, Or.inl rfl, Or.inl rfl, Or.inl rfl, Or.inl rfl, trivial⟩ (vv_Sf_enough_18 D hD rr σ' (Sf_enough_19) (vv_Sf_enough_19 D hD rr σ') a1 a2 a3 a4 a5 σ hf))
      · rcases z_if_inv hf with ⟨h4, hf⟩ | ⟨h4, hf⟩
        · exact gx_go_ 11 [.inl 0, .inl 0, .inl 0, .inl 1] [¬ (a1 < (1 : Int32)), ¬ ((5 : Int32) < a1), ¬ (a2 < 0), (10 : Int32) < a2] 18 [.ref 0, .int a1, .int a2, .int a3, .int a4, .int a5, .null, .null, .null, .null, .null, .null, .null, .null, .null, .null, .null] [] σ rfl ⟨h1, h2, h3, h4, trivial⟩ (gx_fgt (ls' := [.null, .int a1, .int a2, .int a3, .int a4, .int a5, .null, .null, .null, .null, .null, .null, .null, .null, .null, .null, .null]) ⟨Or.inl rfl, Or.inr rfl, Or.inr rfl, Or.inr rfl, Or.inr rfl, Or.inr rfl, Or.inl rfl, Or.inl rfl, Or.inl rfl, Or.inl rfl, Or.inl rfl, Or.inl rfl, Or.inl rfl, Or.inl rfl, Or.inl rfl, Or.inl rfl, Or.inl rfl, trivial⟩ (vv_Sf_enough_18 D hD rr σ' (Sf_enough_19) (vv_Sf_enough_19 D hD rr σ') a1 a2 a3 a4 a5 σ hf))
        · rcases z_if_inv hf with ⟨h5, hf⟩ | ⟨h5, hf⟩
          · exact gx_go_ 13 [.inl 0, .inl 0, .inl 0, .inl 0, .inl 1] [¬ (a1 < (1 : Int32)), ¬ ((5 : Int32) < a1), ¬ (a2 < 0), ¬ ((10 : Int32) < a2), a4 < 0] 18 [.ref 0, .int a1, .int a2, .int a3, .int a4, .int a5, .null, .null, .null, .null, .null, .null, .null, .null, .null, .null, .null] [] σ rfl ⟨h1, h2, h3, h4, h5, trivial⟩ (gx_fgt (ls' := [.null, .int a1, .int a2, .int a3, .int a4, .int a5, .null, .null, .null, .null, .null, .null, .null, .null, .null, .null, .null]) ⟨Or.inl rfl, Or.inr rfl, Or.inr rfl, Or.inr rfl, Or.inr rfl, Or.inr rfl, Or.inl rfl, Or.inl rfl, Or.inl rfl, Or.inl rfl, Or.inl rfl, Or.inl rfl, Or.inl rfl, Or.inl rfl, Or.inl rfl, Or.inl rfl, Or.inl rfl, trivial⟩ (vv_Sf_enough_18 D hD rr σ' (Sf_enough_19) (vv_Sf_enough_19 D hD rr σ') a1 a2 a3 a4 a5 σ hf))
          · rcases z_if_inv hf with ⟨h6, hf⟩ | ⟨h6, hf⟩
            · exact gx_go_ 16 [.inl 0, .inl 0, .inl 0, .inl 0, .inl 0, .inl 1] [¬ (a1 < (1 : Int32)), ¬ ((5 : Int32) < a1), ¬ (a2 < 0), ¬ ((10 : Int32) < a2), ¬ (a4 < 0), (5 : Int32) < a4] 18 [.ref 0, .int a1, .int a2, .int a3, .int a4, .int a5, .null, .null, .null, .null, .null, .null, .null, .null, .null, .null, .null] [] σ rfl ⟨h1, h2, h3, h4, h5, h6, trivial⟩ (gx_fgt (ls' := [.null, .int a1, .int a2, .int a3, .int a4, .int a5, .null, .null, .null, .null, .null, .null, .null, .null, .null, .null, .null]) ⟨Or.inl rfl, Or.inr rfl, Or.inr rfl, Or.inr rfl, Or.inr rfl, Or.inr rfl, Or.inl rfl, Or.inl rfl, Or.inl rfl, Or.inl rfl, Or.inl rfl, Or.inl rfl, Or.inl rfl, Or.inl rfl, Or.inl rfl, Or.inl rfl, Or.inl rfl, trivial⟩ (vv_Sf_enough_18 D hD rr σ' (Sf_enough_19) (vv_Sf_enough_19 D hD rr σ') a1 a2 a3 a4 a5 σ hf))
            · exact gx_go_ 18 [.inl 0, .inl 0, .inl 0, .inl 0, .inl 0, .inl 0] [¬ (a1 < (1 : Int32)), ¬ ((5 : Int32) < a1), ¬ (a2 < 0), ¬ ((10 : Int32) < a2), ¬ (a4 < 0), ¬ ((5 : Int32) < a4)] 19 [.ref 0, .int a1, .int a2, .int a3, .int a4, .int a5, .null, .null, .null, .null, .null, .null, .null, .null, .null, .null, .null] [.int (1 : Int32)] σ rfl ⟨h1, h2, h3, h4, h5, h6, trivial⟩ (gx_fgt (ls' := [.null, .int a1, .int a2, .int a3, .int a4, .int a5, .null, .null, .null, .null, .null, .null, .null, .null, .null, .null, .null]) ⟨Or.inl rfl, Or.inr rfl, Or.inr rfl, Or.inr rfl, Or.inr rfl, Or.inr rfl, Or.inl rfl, Or.inl rfl, Or.inl rfl, Or.inl rfl, Or.inl rfl, Or.inl rfl, Or.inl rfl, Or.inl rfl, Or.inl rfl, Or.inl rfl, Or.inl rfl, trivial⟩ (vv_Sf_enough_19 D hD rr σ' a1 a2 a3 a4 a5 (1 : Int32) σ hf))
set_option maxHeartbeats 16000000 in
set_option maxRecDepth 20000 in
theorem ww_Sf_enough (D : Nat) (hD : 3 ≤ D) (a1 : Int32) (a2 : Int32) (a3 : Int32) (a4 : Int32) (a5 : Int32) (σ : gx_R) (rr : Int64) (σ' : gx_R) (hf : Sf_enough a1 a2 a3 a4 a5 σ = some (rr, σ')) : E0 D 126 [.ref 0, .int a1, .int a2, .int a3, .int a4, .int a5] σ (some (.long rr)) σ' := by
  cases D with
  | zero => omega
  | succ D => exact Or.inl ⟨Nat.le_of_ble_eq_true rfl, vv_Sf_enough_E D hD rr σ' a1 a2 a3 a4 a5 σ hf⟩
set_option maxHeartbeats 16000000 in
set_option maxRecDepth 20000 in
theorem vv_Sf_ring_6 (D : Nat) (hD : 4 ≤ D + 1) (rr : Int32) (σ' : gx_R) (σ : gx_R) (hf : Sf_ring_6  σ = some (rr, σ')) : gx_Ev lay0 (E0 D) tt_127 (some (.int rr)) σ' 6 [.null, .null] [] σ := by
  unfold Sf_ring_6 at hf
  obtain ⟨e1, e2⟩ := z_ret hf
  subst e1
  subst e2
  exact gx_end 3 [] [] rfl trivial
set_option maxHeartbeats 16000000 in
set_option maxRecDepth 20000 in
theorem vv_Sf_ring_E (D : Nat) (hD : 4 ≤ D + 1) (rr : Int32) (σ' : gx_R) (a1 : Int32) (σ : gx_R) (hf : Sf_ring a1 σ = some (rr, σ')) : gx_Ev lay0 (E0 D) tt_127 (some (.int rr)) σ' 0 [.ref 0, .int a1] [] σ := by
  unfold Sf_ring at hf
  rcases z_if_inv hf with ⟨h1, hf⟩ | ⟨h1, hf⟩
  · exact gx_go_ 3 [.inl 1] [a1 < (-2 : Int32)] 6 [.ref 0, .int a1] [] σ rfl ⟨h1, trivial⟩ (gx_fgt (ls' := [.null, .null]) ⟨Or.inl rfl, Or.inl rfl, trivial⟩ (vv_Sf_ring_6 D hD rr σ' σ hf))
  · rcases z_if_inv hf with ⟨h2, hf⟩ | ⟨h2, hf⟩
    · obtain ⟨r3, σ4, h5, hf⟩ := z_bd_inv hf
      obtain ⟨e1, e2⟩ := z_ret hf
      subst e1
      subst e2
      exact gx_end 11 [.inl 0, .inl 1, .inr (some (.int r3), σ4)] [¬ (a1 < (-2 : Int32)), a1 < (8 : Int32), E0 D 59 [.ref 77, .int a1] σ (some (.int r3)) σ4] rfl ⟨h1, h2, (ww_Qu_ofRing D (by omega) a1 σ r3 σ4 h5), trivial⟩
    · exact gx_go_ 6 [.inl 0, .inl 0] [¬ (a1 < (-2 : Int32)), ¬ (a1 < (8 : Int32))] 6 [.ref 0, .int a1] [] σ rfl ⟨h1, h2, trivial⟩ (gx_fgt (ls' := [.null, .null]) ⟨Or.inl rfl, Or.inl rfl, trivial⟩ (vv_Sf_ring_6 D hD rr σ' σ hf))
set_option maxHeartbeats 16000000 in
set_option maxRecDepth 20000 in
theorem ww_Sf_ring (D : Nat) (hD : 4 ≤ D) (a1 : Int32) (σ : gx_R) (rr : Int32) (σ' : gx_R) (hf : Sf_ring a1 σ = some (rr, σ')) : E0 D 127 [.ref 0, .int a1] σ (some (.int rr)) σ' := by
  cases D with
  | zero => omega
  | succ D => exact Or.inl ⟨Nat.le_of_ble_eq_true rfl, vv_Sf_ring_E D hD rr σ' a1 σ hf⟩
set_option maxHeartbeats 16000000 in
set_option maxRecDepth 20000 in
theorem vv_Sf_without_5 (D : Nat) (hD : 7 ≤ D + 1) (rr : Int32) (σ' : gx_R) (σ : gx_R) (hf : Sf_without_5  σ = some (rr, σ')) : gx_Ev lay0 (E0 D) tt_128 (some (.int rr)) σ' 5 [.null, .null] [] σ := by
  unfold Sf_without_5 at hf
  obtain ⟨e1, e2⟩ := z_ret hf
  subst e1
  subst e2
  exact gx_end 3 [] [] rfl trivial
set_option maxHeartbeats 16000000 in
set_option maxRecDepth 20000 in
theorem vv_Sf_without_E (D : Nat) (hD : 7 ≤ D + 1) (rr : Int32) (σ' : gx_R) (a1 : Int32) (σ : gx_R) (hf : Sf_without a1 σ = some (rr, σ')) : gx_Ev lay0 (E0 D) tt_128 (some (.int rr)) σ' 0 [.ref 0, .int a1] [] σ := by
  unfold Sf_without at hf
  rcases z_if_inv hf with ⟨h1, hf⟩ | ⟨h1, hf⟩
  · exact gx_go_ 2 [.inl 1] [a1 < 0] 5 [.ref 0, .int a1] [] σ rfl ⟨h1, trivial⟩ (gx_fgt (ls' := [.null, .null]) ⟨Or.inl rfl, Or.inl rfl, trivial⟩ (vv_Sf_without_5 D hD rr σ' σ hf))
  · rcases z_if_inv hf with ⟨h2, hf⟩ | ⟨h2, hf⟩
    · obtain ⟨r3, σ4, h5, hf⟩ := z_bd_inv hf
      obtain ⟨e1, e2⟩ := z_ret hf
      subst e1
      subst e2
      exact gx_end 10 [.inl 0, .inl 1, .inr (some (.int r3), σ4)] [¬ (a1 < 0), a1 ≤ (255 : Int32), E0 D 66 [.ref 77, .int a1] σ (some (.int r3)) σ4] rfl ⟨h1, h2, (ww_Qu_stoppedWithout D (by omega) a1 σ r3 σ4 h5), trivial⟩
    · exact gx_go_ 5 [.inl 0, .inl 0] [¬ (a1 < 0), ¬ (a1 ≤ (255 : Int32))] 5 [.ref 0, .int a1] [] σ rfl ⟨h1, h2, trivial⟩ (gx_fgt (ls' := [.null, .null]) ⟨Or.inl rfl, Or.inl rfl, trivial⟩ (vv_Sf_without_5 D hD rr σ' σ hf))
set_option maxHeartbeats 16000000 in
set_option maxRecDepth 20000 in
theorem ww_Sf_without (D : Nat) (hD : 7 ≤ D) (a1 : Int32) (σ : gx_R) (rr : Int32) (σ' : gx_R) (hf : Sf_without a1 σ = some (rr, σ')) : E0 D 128 [.ref 0, .int a1] σ (some (.int rr)) σ' := by
  cases D with
  | zero => omega
  | succ D => exact Or.inl ⟨Nat.le_of_ble_eq_true rfl, vv_Sf_without_E D hD rr σ' a1 σ hf⟩
set_option maxHeartbeats 16000000 in
set_option maxRecDepth 20000 in
theorem vv_Sf_strike_E (D : Nat) (hD : 7 ≤ D + 1) (rr : Int32) (σ' : gx_R) (a1 : Int32) (σ : gx_R) (hf : Sf_strike a1 σ = some (rr, σ')) : gx_Ev lay0 (E0 D) tt_129 (some (.int rr)) σ' 0 [.ref 0, .int a1] [] σ := by
  unfold Sf_strike at hf
  obtain ⟨r1, σ2, h3, hf⟩ := z_bd_inv hf
  rcases z_if_inv hf with ⟨h4, hf⟩ | ⟨h4, hf⟩
  · obtain ⟨e1, e2⟩ := z_ret hf
    subst e1
    subst e2
    exact gx_end 7 [.inr (some (.int r1), σ2), .inl 1] [E0 D 135 [.ref 0, .int a1, .int (1 : Int32)] σ (some (.int r1)) σ2, r1 = 0] rfl ⟨(ww_Sf_isDoing D (by omega) a1 (1 : Int32) σ r1 σ2 h3), h4, trivial⟩
  · obtain ⟨r5, σ6, h7, hf⟩ := z_bd_inv hf
    obtain ⟨e1, e2⟩ := z_ret hf
    subst e1
    subst e2
    exact gx_end 11 [.inr (some (.int r1), σ2), .inl 0, .inr (some (.int r5), σ6)] [E0 D 135 [.ref 0, .int a1, .int (1 : Int32)] σ (some (.int r1)) σ2, ¬ (r1 = 0), E0 D 67 [.ref 77, .int a1] σ2 (some (.int r5)) σ6] rfl ⟨(ww_Sf_isDoing D (by omega) a1 (1 : Int32) σ r1 σ2 h3), h4, (ww_Qu_leastStrike D (by omega) a1 σ2 r5 σ6 h7), trivial⟩
set_option maxHeartbeats 16000000 in
set_option maxRecDepth 20000 in
theorem ww_Sf_strike (D : Nat) (hD : 7 ≤ D) (a1 : Int32) (σ : gx_R) (rr : Int32) (σ' : gx_R) (hf : Sf_strike a1 σ = some (rr, σ')) : E0 D 129 [.ref 0, .int a1] σ (some (.int rr)) σ' := by
  cases D with
  | zero => omega
  | succ D => exact Or.inl ⟨Nat.le_of_ble_eq_true rfl, vv_Sf_strike_E D hD rr σ' a1 σ hf⟩
set_option maxHeartbeats 16000000 in
set_option maxRecDepth 20000 in
theorem vv_Sf_fits_E (D : Nat) (hD : 3 ≤ D + 1) (rr : Int32) (σ' : gx_R) (a1 : Int32) (σ : gx_R) (hf : Sf_fits a1 σ = some (rr, σ')) : gx_Ev lay0 (E0 D) tt_130 (some (.int rr)) σ' 0 [.ref 0, .int a1] [] σ := by
  unfold Sf_fits at hf
  obtain ⟨r1, σ2, h3, hf⟩ := z_bd_inv hf
  rcases z_if_inv hf with ⟨h4, hf⟩ | ⟨h4, hf⟩
  · obtain ⟨e1, e2⟩ := z_ret hf
    subst e1
    subst e2
    exact gx_end 8 [.inr (some (.int r1), σ2), .inl 1] [E0 D 1 [.ref 2, .int a1] σ (some (.int r1)) σ2, r1 = 0] rfl ⟨(ww_Fo_isPerson D (by omega) a1 σ r1 σ2 h3), h4, trivial⟩
  · obtain ⟨r5, σ6, h7, hf⟩ := z_bd_inv hf
    obtain ⟨e1, e2⟩ := z_ret hf
    subst e1
    subst e2
    exact gx_end 12 [.inr (some (.int r1), σ2), .inl 0, .inr (some (.int r5), σ6)] [E0 D 1 [.ref 2, .int a1] σ (some (.int r1)) σ2, ¬ (r1 = 0), E0 D 68 [.ref 77, .int a1] σ2 (some (.int r5)) σ6] rfl ⟨(ww_Fo_isPerson D (by omega) a1 σ r1 σ2 h3), h4, (ww_Qu_fitting D (by omega) a1 σ2 r5 σ6 h7), trivial⟩
set_option maxHeartbeats 16000000 in
set_option maxRecDepth 20000 in
theorem ww_Sf_fits (D : Nat) (hD : 3 ≤ D) (a1 : Int32) (σ : gx_R) (rr : Int32) (σ' : gx_R) (hf : Sf_fits a1 σ = some (rr, σ')) : E0 D 130 [.ref 0, .int a1] σ (some (.int rr)) σ' := by
  cases D with
  | zero => omega
  | succ D => exact Or.inl ⟨Nat.le_of_ble_eq_true rfl, vv_Sf_fits_E D hD rr σ' a1 σ hf⟩
set_option maxHeartbeats 16000000 in
set_option maxRecDepth 20000 in
theorem vv_Sf_forNobody_E (D : Nat) (hD : 3 ≤ D + 1) (rr : Int32) (σ' : gx_R) (σ : gx_R) (hf : Sf_forNobody  σ = some (rr, σ')) : gx_Ev lay0 (E0 D) tt_131 (some (.int rr)) σ' 0 [.ref 0] [] σ := by
  unfold Sf_forNobody at hf
  obtain ⟨r1, σ2, h3, hf⟩ := z_bd_inv hf
  obtain ⟨e1, e2⟩ := z_ret hf
  subst e1
  subst e2
  exact gx_end 4 [.inr (some (.int r1), σ2)] [E0 D 69 [.ref 77] σ (some (.int r1)) σ2] rfl ⟨(ww_Qu_asleepForNobody D (by omega) σ r1 σ2 h3), trivial⟩
set_option maxHeartbeats 16000000 in
set_option maxRecDepth 20000 in
theorem ww_Sf_forNobody (D : Nat) (hD : 3 ≤ D) (σ : gx_R) (rr : Int32) (σ' : gx_R) (hf : Sf_forNobody  σ = some (rr, σ')) : E0 D 131 [.ref 0] σ (some (.int rr)) σ' := by
  cases D with
  | zero => omega
  | succ D => exact Or.inl ⟨Nat.le_of_ble_eq_true rfl, vv_Sf_forNobody_E D hD rr σ' σ hf⟩
set_option maxHeartbeats 16000000 in
set_option maxRecDepth 20000 in
theorem vv_Sf_image_E (D : Nat) (hD : 3 ≤ D + 1) (rr : Int32) (σ' : gx_R) (σ : gx_R) (hf : Sf_image  σ = some (rr, σ')) : gx_Ev lay0 (E0 D) tt_132 (some (.int rr)) σ' 0 [.ref 0] [] σ := by
  unfold Sf_image at hf
  obtain ⟨⟨⟩, σ2, h3, hf⟩ := z_bd_inv hf
  obtain ⟨e1, e2⟩ := z_ret hf
  subst e1
  subst e2
  exact gx_end 10 [.inr (none, σ2)] [E0 D 23 [.ref 19, .ref 1] σ (none) σ2] rfl ⟨(ww_Va_copy D (by omega) 19 1 σ () σ2 (Or.inr rfl) (Or.inl rfl) h3), trivial⟩
set_option maxHeartbeats 16000000 in
set_option maxRecDepth 20000 in
theorem ww_Sf_image (D : Nat) (hD : 3 ≤ D) (σ : gx_R) (rr : Int32) (σ' : gx_R) (hf : Sf_image  σ = some (rr, σ')) : E0 D 132 [.ref 0] σ (some (.int rr)) σ' := by
  cases D with
  | zero => omega
  | succ D => exact Or.inl ⟨Nat.le_of_ble_eq_true rfl, vv_Sf_image_E D hD rr σ' σ hf⟩
set_option maxHeartbeats 16000000 in
set_option maxRecDepth 20000 in
theorem vv_Sf_back_E (D : Nat) (hD : 3 ≤ D + 1) (rr : Int32) (σ' : gx_R) (σ : gx_R) (hf : Sf_back  σ = some (rr, σ')) : gx_Ev lay0 (E0 D) tt_133 (some (.int rr)) σ' 0 [.ref 0] [] σ := by
  unfold Sf_back at hf
  obtain ⟨⟨⟩, σ2, h3, hf⟩ := z_bd_inv hf
  obtain ⟨e1, e2⟩ := z_ret hf
  subst e1
  subst e2
  exact gx_end 10 [.inr (none, σ2)] [E0 D 23 [.ref 1, .ref 19] σ (none) σ2] rfl ⟨(ww_Va_copy D (by omega) 1 19 σ () σ2 (Or.inl rfl) (Or.inr rfl) h3), trivial⟩
set_option maxHeartbeats 16000000 in
set_option maxRecDepth 20000 in
theorem ww_Sf_back (D : Nat) (hD : 3 ≤ D) (σ : gx_R) (rr : Int32) (σ' : gx_R) (hf : Sf_back  σ = some (rr, σ')) : E0 D 133 [.ref 0] σ (some (.int rr)) σ' := by
  cases D with
  | zero => omega
  | succ D => exact Or.inl ⟨Nat.le_of_ble_eq_true rfl, vv_Sf_back_E D hD rr σ' σ hf⟩
set_option maxHeartbeats 16000000 in
set_option maxRecDepth 20000 in
theorem vv_Sf_about_E (D : Nat) (hD : 2 ≤ D + 1) (rr : Int32) (σ' : gx_R) (a1 : Int32) (σ : gx_R) (hf : Sf_about a1 σ = some (rr, σ')) : gx_Ev lay0 (E0 D) tt_134 (some (.int rr)) σ' 0 [.ref 0, .int a1] [] σ := by
  unfold Sf_about at hf
  rcases z_if_inv hf with ⟨h1, hf⟩ | ⟨h1, hf⟩
  · obtain ⟨e1, e2⟩ := z_ret hf
    subst e1
    subst e2
    exact gx_end 7 [.inl 1] [a1.toInt = 0 + (0 : Nat)] rfl ⟨(z_sw_in h1 (by decide)), trivial⟩
  · skip
    rcases z_if_inv hf with ⟨h2, hf⟩ | ⟨h2, hf⟩
    · obtain ⟨e1, e2⟩ := z_ret hf
      subst e1
      subst e2
      exact gx_end 7 [.inl 2] [a1.toInt = 0 + (1 : Nat)] rfl ⟨(z_sw_in h2 (by decide)), trivial⟩
    · skip
      rcases z_if_inv hf with ⟨h3, hf⟩ | ⟨h3, hf⟩
      · obtain ⟨e1, e2⟩ := z_ret hf
        subst e1
        subst e2
        exact gx_end 7 [.inl 3] [a1.toInt = 0 + (2 : Nat)] rfl ⟨(z_sw_in h3 (by decide)), trivial⟩
      · skip
        rcases z_if_inv hf with ⟨h4, hf⟩ | ⟨h4, hf⟩
        · obtain ⟨e1, e2⟩ := z_ret hf
          subst e1
          subst e2
          exact gx_end 7 [.inl 4] [a1.toInt = 0 + (3 : Nat)] rfl ⟨(z_sw_in h4 (by decide)), trivial⟩
        · skip
          rcases z_if_inv hf with ⟨h5, hf⟩ | ⟨h5, hf⟩
          · obtain ⟨e1, e2⟩ := z_ret hf
            subst e1
            subst e2
            exact gx_end 6 [.inl 5] [a1.toInt = 0 + (4 : Nat)] rfl ⟨(z_sw_in h5 (by decide)), trivial⟩
          · skip
            rcases z_if_inv hf with ⟨h6, hf⟩ | ⟨h6, hf⟩
            · obtain ⟨e1, e2⟩ := z_ret hf
              subst e1
              subst e2
              exact gx_end 6 [.inl 6] [a1.toInt = 0 + (5 : Nat)] rfl ⟨(z_sw_in h6 (by decide)), trivial⟩
            · skip
              rcases z_if_inv hf with ⟨h7, hf⟩ | ⟨h7, hf⟩
              · obtain ⟨e1, e2⟩ := z_ret hf
                subst e1
                subst e2
                exact gx_end 7 [.inl 7] [a1.toInt = 0 + (6 : Nat)] rfl ⟨(z_sw_in h7 (by decide)), trivial⟩
              · skip
                rcases z_if_inv hf with ⟨h8, hf⟩ | ⟨h8, hf⟩
                · obtain ⟨r9, σ10, h11, hf⟩ := z_bd_inv hf
                  obtain ⟨e1, e2⟩ := z_ret hf
                  subst e1
                  subst e2
                  exact gx_end 8 [.inl 8, .inr (some (.int r9), σ10)] [a1.toInt = 0 + (7 : Nat), E0 D 7 [.ref 9, .int (1 : Int32)] σ (some (.int r9)) σ10] rfl ⟨(z_sw_in h8 (by decide)), (ww_Ni_those D (by omega) 9 (1 : Int32) σ r9 σ10 (Or.inl rfl) h11), trivial⟩
                · skip
                  rcases z_if_inv hf with ⟨h12, hf⟩ | ⟨h12, hf⟩
                  · obtain ⟨r13, σ14, h15, hf⟩ := z_bd_inv hf
                    obtain ⟨e1, e2⟩ := z_ret hf
                    subst e1
                    subst e2
                    exact gx_end 8 [.inl 9, .inr (some (.int r13), σ14)] [a1.toInt = 0 + (8 : Nat), E0 D 7 [.ref 9, .int (2 : Int32)] σ (some (.int r13)) σ14] rfl ⟨(z_sw_in h12 (by decide)), (ww_Ni_those D (by omega) 9 (2 : Int32) σ r13 σ14 (Or.inl rfl) h15), trivial⟩
                  · skip
                    rcases z_if_inv hf with ⟨h16, hf⟩ | ⟨h16, hf⟩
                    · obtain ⟨e1, e2⟩ := z_ret hf
                      subst e1
                      subst e2
                      exact gx_end 5 [.inl 10] [a1.toInt = 0 + (9 : Nat)] rfl ⟨(z_sw_in h16 (by decide)), trivial⟩
                    · skip
                      refine gx_go_ 1 [] [] 1 [.ref 0, .int a1] [.int a1] σ rfl trivial ?_
                      refine gx_sw (td := 50) (tt := [2, 7, 12, 17, 22, 26, 30, 35, 41, 47]) (lo := 0) rfl rfl ?_
                      rw [gx_swt_df (td := 50) (tt := [2, 7, 12, 17, 22, 26, 30, 35, 41, 47]) (lo := 0) ⟨Or.inr (z_sw_ne h1 (by decide)), Or.inr (z_sw_ne h2 (by decide)), Or.inr (z_sw_ne h3 (by decide)), Or.inr (z_sw_ne h4 (by decide)), Or.inr (z_sw_ne h5 (by decide)), Or.inr (z_sw_ne h6 (by decide)), Or.inr (z_sw_ne h7 (by decide)), Or.inr (z_sw_ne h8 (by decide)), Or.inr (z_sw_ne h12 (by decide)), Or.inr (z_sw_ne h16 (by decide)), trivial⟩]
                      obtain ⟨e1, e2⟩ := z_ret hf
                      subst e1
                      subst e2
                      exact gx_end 2 [] [] rfl trivial
set_option maxHeartbeats 16000000 in
set_option maxRecDepth 20000 in
theorem ww_Sf_about (D : Nat) (hD : 2 ≤ D) (a1 : Int32) (σ : gx_R) (rr : Int32) (σ' : gx_R) (hf : Sf_about a1 σ = some (rr, σ')) : E0 D 134 [.ref 0, .int a1] σ (some (.int rr)) σ' := by
  cases D with
  | zero => omega
  | succ D => exact Or.inl ⟨Nat.le_of_ble_eq_true rfl, vv_Sf_about_E D hD rr σ' a1 σ hf⟩
set_option maxHeartbeats 16000000 in
set_option maxRecDepth 20000 in
theorem vv_Md_in_E (D : Nat) (hD : 1 ≤ D + 1) (rr : Int32) (σ' : gx_R) (a0 : Int32) (a1 : Int32) (a2 : Int32) (σ : gx_R) (hf : Md_in a0 a1 a2 σ = some (rr, σ')) : gx_Ev lay0 (E0 D) tt_145 (some (.int rr)) σ' 0 [.int a0, .int a1, .int a2] [] σ := by
  unfold Md_in at hf
  rcases z_if_inv hf with ⟨h1, hf⟩ | ⟨h1, hf⟩
  · obtain ⟨e1, e2⟩ := z_ret hf
    subst e1
    subst e2
    exact gx_end 5 [.inl 1] [a0 < a1, (0 : Int32) &&& 1 = (0 : Int32)] rfl ⟨h1, rfl, trivial⟩
  · rcases z_if_inv hf with ⟨h2, hf⟩ | ⟨h2, hf⟩
    · obtain ⟨e1, e2⟩ := z_ret hf
      subst e1
      subst e2
      exact gx_end 8 [.inl 0, .inl 1] [¬ (a0 < a1), a2 < a0, (0 : Int32) &&& 1 = (0 : Int32)] rfl ⟨h1, h2, rfl, trivial⟩
    · obtain ⟨e1, e2⟩ := z_ret hf
      subst e1
      subst e2
      exact gx_end 9 [.inl 0, .inl 0] [¬ (a0 < a1), ¬ (a2 < a0), (1 : Int32) &&& 1 = (1 : Int32)] rfl ⟨h1, h2, rfl, trivial⟩
set_option maxHeartbeats 16000000 in
set_option maxRecDepth 20000 in
theorem ww_Md_in (D : Nat) (hD : 1 ≤ D) (a0 : Int32) (a1 : Int32) (a2 : Int32) (σ : gx_R) (rr : Int32) (σ' : gx_R) (hf : Md_in a0 a1 a2 σ = some (rr, σ')) : E0 D 145 [.int a0, .int a1, .int a2] σ (some (.int rr)) σ' := by
  cases D with
  | zero => omega
  | succ D => exact Or.inl ⟨Nat.le_of_ble_eq_true rfl, vv_Md_in_E D hD rr σ' a0 a1 a2 σ hf⟩
set_option maxHeartbeats 16000000 in
set_option maxRecDepth 20000 in
theorem vv_Md_has_E (D : Nat) (hD : 1 ≤ D + 1) (rr : Int32) (σ' : gx_R) (a0 : Int32) (a1 : Int32) (σ : gx_R) (hf : Md_has a0 a1 σ = some (rr, σ')) : gx_Ev lay0 (E0 D) tt_146 (some (.int rr)) σ' 0 [.int a0, .int a1] [] σ := by
  unfold Md_has at hf
  rcases z_if_inv hf with ⟨h1, hf⟩ | ⟨h1, hf⟩
  · obtain ⟨e1, e2⟩ := z_ret hf
    subst e1
    subst e2
    exact gx_end 10 [.inl 0] [¬ ¬ (((a0 >>> (a1 &&& 31)) &&& (1 : Int32)) = (1 : Int32)), (1 : Int32) &&& 1 = (1 : Int32)] rfl ⟨(fun q => q h1), rfl, trivial⟩
  · obtain ⟨e1, e2⟩ := z_ret hf
    subst e1
    subst e2
    exact gx_end 9 [.inl 1] [¬ (((a0 >>> (a1 &&& 31)) &&& (1 : Int32)) = (1 : Int32)), (0 : Int32) &&& 1 = (0 : Int32)] rfl ⟨h1, rfl, trivial⟩
set_option maxHeartbeats 16000000 in
set_option maxRecDepth 20000 in
theorem ww_Md_has (D : Nat) (hD : 1 ≤ D) (a0 : Int32) (a1 : Int32) (σ : gx_R) (rr : Int32) (σ' : gx_R) (hf : Md_has a0 a1 σ = some (rr, σ')) : E0 D 146 [.int a0, .int a1] σ (some (.int rr)) σ' := by
  cases D with
  | zero => omega
  | succ D => exact Or.inl ⟨Nat.le_of_ble_eq_true rfl, vv_Md_has_E D hD rr σ' a0 a1 σ hf⟩
set_option maxHeartbeats 16000000 in
set_option maxRecDepth 20000 in
theorem vv_Md_many_4_B (D : Nat) (hD : 1 ≤ D + 1) (rr : Int32) (σ' : gx_R) (K4 : Int32 → Int32 → gx_R → Option (Int32 × gx_R)) (hK4 : ∀ (a1 : Int32) (a2 : Int32) (σ : gx_R), K4 a1 a2 σ = some (rr, σ') → gx_Ev lay0 (E0 D) tt_147 (some (.int rr)) σ' 4 [.null, .int a1, .int a2] [] σ) (a1 : Int32) (a2 : Int32) (σ : gx_R) (hf : Md_many_4_B K4 a1 a2 σ = some (rr, σ')) : gx_Ev lay0 (E0 D) tt_147 (some (.int rr)) σ' 4 [.null, .int a1, .int a2] [] σ := by
  unfold Md_many_4_B at hf
  rcases z_if_inv hf with ⟨h1, hf⟩ | ⟨h1, hf⟩
  · obtain ⟨e1, e2⟩ := z_ret hf
    subst e1
    subst e2
    exact gx_end 4 [.inl 1] [a2 = 0] rfl ⟨h1, trivial⟩
  · exact gx_go_ 13 [.inl 0] [¬ (a2 = 0)] 4 [.null, .int (a1 + (a2 &&& (1 : Int32))), .int (a2 >>> ((1 : Int32) &&& 31))] [] σ rfl ⟨h1, trivial⟩ (gx_fgt (ls' := [.null, .int (a1 + (a2 &&& (1 : Int32))), .int (a2 >>> ((1 : Int32) &&& 31))]) ⟨Or.inl rfl, Or.inr rfl, Or.inr rfl, trivial⟩ (hK4 (a1 + (a2 &&& (1 : Int32))) (a2 >>> ((1 : Int32) &&& 31)) σ hf))
set_option maxHeartbeats 16000000 in
set_option maxRecDepth 20000 in
theorem vv_Md_many_4 (D : Nat) (hD : 1 ≤ D + 1) (rr : Int32) (σ' : gx_R) : ∀ (n : Nat) (a1 : Int32) (a2 : Int32) (σ : gx_R), Md_many_4 n a1 a2 σ = some (rr, σ') → gx_Ev lay0 (E0 D) tt_147 (some (.int rr)) σ' 4 [.null, .int a1, .int a2] [] σ := by
  intro n
  induction n with
  | zero => intro a1 a2 σ  hf; cases hf
  | succ n ih => intro a1 a2 σ  hf; exact vv_Md_many_4_B D hD rr σ'  (Md_many_4 n) ih a1 a2 σ  hf
set_option maxHeartbeats 16000000 in
set_option maxRecDepth 20000 in
theorem vv_Md_many_E (D : Nat) (hD : 1 ≤ D + 1) (rr : Int32) (σ' : gx_R) (a0 : Int32) (σ : gx_R) (hf : Md_many a0 σ = some (rr, σ')) : gx_Ev lay0 (E0 D) tt_147 (some (.int rr)) σ' 0 [.int a0, .null, .null] [] σ := by
  unfold Md_many at hf
  exact gx_go_ 4 [] [] 4 [.int a0, .int (0 : Int32), .int a0] [] σ rfl trivial (gx_fgt (ls' := [.null, .int (0 : Int32), .int a0]) ⟨Or.inl rfl, Or.inr rfl, Or.inr rfl, trivial⟩ (vv_Md_many_4 D hD rr σ' z_FU (0 : Int32) a0 σ hf))
set_option maxHeartbeats 16000000 in
set_option maxRecDepth 20000 in
theorem ww_Md_many (D : Nat) (hD : 1 ≤ D) (a0 : Int32) (σ : gx_R) (rr : Int32) (σ' : gx_R) (hf : Md_many a0 σ = some (rr, σ')) : E0 D 147 [.int a0] σ (some (.int rr)) σ' := by
  cases D with
  | zero => omega
  | succ D => exact Or.inl ⟨Nat.le_of_ble_eq_true rfl, vv_Md_many_E D hD rr σ' a0 σ hf⟩
set_option maxHeartbeats 16000000 in
set_option maxRecDepth 20000 in
theorem vv_Md_copies_24 (D : Nat) (hD : 1 ≤ D + 1) (rr : Unit) (σ' : gx_R) (K2 : Int32 → Int32 → gx_R → Option (Unit × gx_R)) (hK2 : ∀ (a1 : Int32) (a2 : Int32) (σ : gx_R), K2 a1 a2 σ = some (rr, σ') → gx_Ev lay0 (E0 D) tt_148 none σ' 2 [.ref 109, .int a1, .int a2] [] σ) (a1 : Int32) (a2 : Int32) (σ : gx_R) (hf : Md_copies_24 K2 a1 a2 σ = some (rr, σ')) : gx_Ev lay0 (E0 D) tt_148 none σ' 24 [.ref 109, .int a1, .int a2] [] σ := by
  unfold Md_copies_24 at hf
  exact gx_go_ 2 [] [] 2 [.ref 109, .int a1, .int (a2 + 1)] [] σ rfl trivial (gx_fgt (ls' := [.ref 109, .int a1, .int (a2 + 1)]) ⟨Or.inr rfl, Or.inr rfl, Or.inr rfl, trivial⟩ (hK2 a1 (a2 + 1) σ hf))
set_option maxHeartbeats 16000000 in
set_option maxRecDepth 20000 in
theorem vv_Md_copies_2_B (D : Nat) (hD : 1 ≤ D + 1) (rr : Unit) (σ' : gx_R) (K2 : Int32 → Int32 → gx_R → Option (Unit × gx_R)) (hK2 : ∀ (a1 : Int32) (a2 : Int32) (σ : gx_R), K2 a1 a2 σ = some (rr, σ') → gx_Ev lay0 (E0 D) tt_148 none σ' 2 [.ref 109, .int a1, .int a2] [] σ) (a1 : Int32) (a2 : Int32) (σ : gx_R) (hf : Md_copies_2_B K2 a1 a2 σ = some (rr, σ')) : gx_Ev lay0 (E0 D) tt_148 none σ' 2 [.ref 109, .int a1, .int a2] [] σ := by
  unfold Md_copies_2_B at hf
  rcases z_if_inv hf with ⟨h1, hf⟩ | ⟨h1, hf⟩
  · obtain ⟨e1, e2⟩ := z_ret hf
    subst e1
    subst e2
    exact gx_end 4 [.inl 1] [(8880 : Int32) ≤ a2] rfl ⟨h1, trivial⟩
  · rcases z_if_inv hf with ⟨h2, hf⟩ | ⟨h2, hf⟩
    · obtain ⟨h3, hf⟩ := z_ck_inv hf
      obtain ⟨h4, hf⟩ := z_ck_inv hf
      exact gx_go_ 13 [.inl 0, .inl 1] [¬ ((8880 : Int32) ≤ a2), a1 = 0, vp_in a2 8880, vp_in a2 8880] 24 [.ref 109, .int a1, .int a2] [] (gx_up σ 110 a2.toNatClampNeg (σ 111 a2.toNatClampNeg)) rfl ⟨h1, h2, (z_ix_in h3), (z_ix_in h4), trivial⟩ (gx_fgt (ls' := [.ref 109, .int a1, .int a2]) ⟨Or.inr rfl, Or.inr rfl, Or.inr rfl, trivial⟩ (vv_Md_copies_24 D hD rr σ' K2 hK2 a1 a2 (gx_up σ 110 a2.toNatClampNeg (σ 111 a2.toNatClampNeg)) hf))
    · obtain ⟨h5, hf⟩ := z_ck_inv hf
      obtain ⟨h6, hf⟩ := z_ck_inv hf
      exact gx_go_ 14 [.inl 0, .inl 0] [¬ ((8880 : Int32) ≤ a2), ¬ (a1 = 0), vp_in a2 8880, vp_in a2 8880] 24 [.ref 109, .int a1, .int a2] [] (gx_up σ 111 a2.toNatClampNeg (σ 110 a2.toNatClampNeg)) rfl ⟨h1, h2, (z_ix_in h5), (z_ix_in h6), trivial⟩ (gx_fgt (ls' := [.ref 109, .int a1, .int a2]) ⟨Or.inr rfl, Or.inr rfl, Or.inr rfl, trivial⟩ (vv_Md_copies_24 D hD rr σ' K2 hK2 a1 a2 (gx_up σ 111 a2.toNatClampNeg (σ 110 a2.toNatClampNeg)) hf))
set_option maxHeartbeats 16000000 in
set_option maxRecDepth 20000 in
theorem vv_Md_copies_2 (D : Nat) (hD : 1 ≤ D + 1) (rr : Unit) (σ' : gx_R) : ∀ (n : Nat) (a1 : Int32) (a2 : Int32) (σ : gx_R), Md_copies_2 n a1 a2 σ = some (rr, σ') → gx_Ev lay0 (E0 D) tt_148 none σ' 2 [.ref 109, .int a1, .int a2] [] σ := by
  intro n
  induction n with
  | zero => intro a1 a2 σ  hf; cases hf
  | succ n ih => intro a1 a2 σ  hf; exact vv_Md_copies_2_B D hD rr σ'  (Md_copies_2 n) ih a1 a2 σ  hf
set_option maxHeartbeats 16000000 in
set_option maxRecDepth 20000 in
theorem vv_Md_copies_E (D : Nat) (hD : 1 ≤ D + 1) (rr : Unit) (σ' : gx_R) (a1 : Int32) (σ : gx_R) (hf : Md_copies a1 σ = some (rr, σ')) : gx_Ev lay0 (E0 D) tt_148 none σ' 0 [.ref 109, .int a1, .null] [] σ := by
  unfold Md_copies at hf
  exact gx_go_ 2 [] [] 2 [.ref 109, .int a1, .int (0 : Int32)] [] σ rfl trivial (gx_fgt (ls' := [.ref 109, .int a1, .int (0 : Int32)]) ⟨Or.inr rfl, Or.inr rfl, Or.inr rfl, trivial⟩ (vv_Md_copies_2 D hD rr σ' z_FU a1 (0 : Int32) σ hf))
set_option maxHeartbeats 16000000 in
set_option maxRecDepth 20000 in
theorem ww_Md_copies (D : Nat) (hD : 1 ≤ D) (a1 : Int32) (σ : gx_R) (rr : Unit) (σ' : gx_R) (hf : Md_copies a1 σ = some (rr, σ')) : E0 D 148 [.ref 109, .int a1] σ none σ' := by
  cases D with
  | zero => omega
  | succ D => exact Or.inl ⟨Nat.le_of_ble_eq_true rfl, vv_Md_copies_E D hD rr σ' a1 σ hf⟩
set_option maxHeartbeats 16000000 in
set_option maxRecDepth 20000 in
theorem vv_Md_isPerson_E (D : Nat) (hD : 2 ≤ D + 1) (rr : Int32) (σ' : gx_R) (a1 : Int32) (σ : gx_R) (hf : Md_isPerson a1 σ = some (rr, σ')) : gx_Ev lay0 (E0 D) tt_149 (some (.int rr)) σ' 0 [.ref 109, .int a1] [] σ := by
  unfold Md_isPerson at hf
  obtain ⟨r1, σ2, h3, hf⟩ := z_bd_inv hf
  obtain ⟨h4, hf⟩ := z_ck_inv hf
  obtain ⟨e1, e2⟩ := z_ret hf
  subst e1
  subst e2
  exact gx_end 10 [.inr (some (.int r1), σ2)] [vp_in (0 : Int32) 8880, E0 D 145 [.int a1, .int (0 : Int32), .int ((σ 110 ((0 : Int32).toNatClampNeg)) - (1 : Int32))] σ (some (.int r1)) σ2, r1 &&& 1 = r1] rfl ⟨(z_ix_in rfl), (ww_Md_in D (by omega) a1 (0 : Int32) ((σ 110 ((0 : Int32).toNatClampNeg)) - (1 : Int32)) σ r1 σ2 h3), (z_bo_in h4), trivial⟩
set_option maxHeartbeats 16000000 in
set_option maxRecDepth 20000 in
theorem ww_Md_isPerson (D : Nat) (hD : 2 ≤ D) (a1 : Int32) (σ : gx_R) (rr : Int32) (σ' : gx_R) (hf : Md_isPerson a1 σ = some (rr, σ')) : E0 D 149 [.ref 109, .int a1] σ (some (.int rr)) σ' := by
  cases D with
  | zero => omega
  | succ D => exact Or.inl ⟨Nat.le_of_ble_eq_true rfl, vv_Md_isPerson_E D hD rr σ' a1 σ hf⟩
set_option maxHeartbeats 16000000 in
set_option maxRecDepth 20000 in
theorem vv_Md_isWork_E (D : Nat) (hD : 2 ≤ D + 1) (rr : Int32) (σ' : gx_R) (a1 : Int32) (σ : gx_R) (hf : Md_isWork a1 σ = some (rr, σ')) : gx_Ev lay0 (E0 D) tt_150 (some (.int rr)) σ' 0 [.ref 109, .int a1] [] σ := by
  unfold Md_isWork at hf
  obtain ⟨r1, σ2, h3, hf⟩ := z_bd_inv hf
  obtain ⟨h4, hf⟩ := z_ck_inv hf
  obtain ⟨e1, e2⟩ := z_ret hf
  subst e1
  subst e2
  exact gx_end 10 [.inr (some (.int r1), σ2)] [vp_in (1 : Int32) 8880, E0 D 145 [.int a1, .int (0 : Int32), .int ((σ 110 ((1 : Int32).toNatClampNeg)) - (1 : Int32))] σ (some (.int r1)) σ2, r1 &&& 1 = r1] rfl ⟨(z_ix_in rfl), (ww_Md_in D (by omega) a1 (0 : Int32) ((σ 110 ((1 : Int32).toNatClampNeg)) - (1 : Int32)) σ r1 σ2 h3), (z_bo_in h4), trivial⟩
set_option maxHeartbeats 16000000 in
set_option maxRecDepth 20000 in
theorem ww_Md_isWork (D : Nat) (hD : 2 ≤ D) (a1 : Int32) (σ : gx_R) (rr : Int32) (σ' : gx_R) (hf : Md_isWork a1 σ = some (rr, σ')) : E0 D 150 [.ref 109, .int a1] σ (some (.int rr)) σ' := by
  cases D with
  | zero => omega
  | succ D => exact Or.inl ⟨Nat.le_of_ble_eq_true rfl, vv_Md_isWork_E D hD rr σ' a1 σ hf⟩
set_option maxHeartbeats 16000000 in
set_option maxRecDepth 20000 in
theorem vv_Md_isSet_E (D : Nat) (hD : 2 ≤ D + 1) (rr : Int32) (σ' : gx_R) (a1 : Int32) (σ : gx_R) (hf : Md_isSet a1 σ = some (rr, σ')) : gx_Ev lay0 (E0 D) tt_151 (some (.int rr)) σ' 0 [.ref 109, .int a1] [] σ := by
  unfold Md_isSet at hf
  obtain ⟨r1, σ2, h3, hf⟩ := z_bd_inv hf
  obtain ⟨h4, hf⟩ := z_ck_inv hf
  obtain ⟨e1, e2⟩ := z_ret hf
  subst e1
  subst e2
  exact gx_end 12 [.inr (some (.int r1), σ2)] [vp_in (0 : Int32) 8880, E0 D 145 [.int a1, .int (1 : Int32), .int (((1 : Int32) <<< ((σ 110 ((0 : Int32).toNatClampNeg)) &&& 31)) - (1 : Int32))] σ (some (.int r1)) σ2, r1 &&& 1 = r1] rfl ⟨(z_ix_in rfl), (ww_Md_in D (by omega) a1 (1 : Int32) (((1 : Int32) <<< ((σ 110 ((0 : Int32).toNatClampNeg)) &&& 31)) - (1 : Int32)) σ r1 σ2 h3), (z_bo_in h4), trivial⟩
set_option maxHeartbeats 16000000 in
set_option maxRecDepth 20000 in
theorem ww_Md_isSet (D : Nat) (hD : 2 ≤ D) (a1 : Int32) (σ : gx_R) (rr : Int32) (σ' : gx_R) (hf : Md_isSet a1 σ = some (rr, σ')) : E0 D 151 [.ref 109, .int a1] σ (some (.int rr)) σ' := by
  cases D with
  | zero => omega
  | succ D => exact Or.inl ⟨Nat.le_of_ble_eq_true rfl, vv_Md_isSet_E D hD rr σ' a1 σ hf⟩
set_option maxHeartbeats 16000000 in
set_option maxRecDepth 20000 in
theorem vv_Md_person_66 (D : Nat) (hD : 2 ≤ D + 1) (rr : Int32) (σ' : gx_R) (a3 : Int32) (σ : gx_R) (hf : Md_person_66 a3 σ = some (rr, σ')) : gx_Ev lay0 (E0 D) tt_152 (some (.int rr)) σ' 66 [.ref 109, .null, .null, .int a3, .null] [] σ := by
  unfold Md_person_66 at hf
  obtain ⟨e1, e2⟩ := z_ret hf
  subst e1
  subst e2
  exact gx_end 10 [] [vp_in (0 : Int32) 8880, vp_in (0 : Int32) 8880] rfl ⟨(z_ix_in rfl), (z_ix_in rfl), trivial⟩
set_option maxHeartbeats 16000000 in
set_option maxRecDepth 20000 in
theorem vv_Md_person_43_B (D : Nat) (hD : 2 ≤ D + 1) (rr : Int32) (σ' : gx_R) (K43 : Int32 → Int32 → gx_R → Option (Int32 × gx_R)) (hK43 : ∀ (a3 : Int32) (a4 : Int32) (σ : gx_R), K43 a3 a4 σ = some (rr, σ') → gx_Ev lay0 (E0 D) tt_152 (some (.int rr)) σ' 43 [.ref 109, .null, .null, .int a3, .int a4] [] σ) (a3 : Int32) (a4 : Int32) (σ : gx_R) (hf : Md_person_43_B K43 a3 a4 σ = some (rr, σ')) : gx_Ev lay0 (E0 D) tt_152 (some (.int rr)) σ' 43 [.ref 109, .null, .null, .int a3, .int a4] [] σ := by
  unfold Md_person_43_B at hf
  rcases z_if_inv hf with ⟨h1, hf⟩ | ⟨h1, hf⟩
  · exact gx_go_ 6 [.inl 1] [vp_in (4 : Int32) 8880, (σ 110 ((4 : Int32).toNatClampNeg)) ≤ a4] 66 [.ref 109, .null, .null, .int a3, .int a4] [] σ rfl ⟨(z_ix_in rfl), h1, trivial⟩ (gx_fgt (ls' := [.ref 109, .null, .null, .int a3, .null]) ⟨Or.inr rfl, Or.inl rfl, Or.inl rfl, Or.inr rfl, Or.inl rfl, trivial⟩ (vv_Md_person_66 D hD rr σ' a3 σ hf))
  · obtain ⟨h2, hf⟩ := z_ck_inv hf
    exact gx_go_ 23 [.inl 0] [vp_in (4 : Int32) 8880, ¬ ((σ 110 ((4 : Int32).toNatClampNeg)) ≤ a4), vp_in (((((360 : Int32) + ((284 : Int32) * a4)) + (68 : Int32)) - (60 : Int32)) + a3) 8880] 43 [.ref 109, .null, .null, .int a3, .int (a4 + 1)] [] (gx_up σ 110 (((((360 : Int32) + ((284 : Int32) * a4)) + (68 : Int32)) - (60 : Int32)) + a3).toNatClampNeg (-1 : Int32)) rfl ⟨(z_ix_in rfl), h1, (z_ix_in h2), trivial⟩ (gx_fgt (ls' := [.ref 109, .null, .null, .int a3, .int (a4 + 1)]) ⟨Or.inr rfl, Or.inl rfl, Or.inl rfl, Or.inr rfl, Or.inr rfl, trivial⟩ (hK43 a3 (a4 + 1) (gx_up σ 110 (((((360 : Int32) + ((284 : Int32) * a4)) + (68 : Int32)) - (60 : Int32)) + a3).toNatClampNeg (-1 : Int32)) hf))
set_option maxHeartbeats 16000000 in
set_option maxRecDepth 20000 in
theorem vv_Md_person_43 (D : Nat) (hD : 2 ≤ D + 1) (rr : Int32) (σ' : gx_R) : ∀ (n : Nat) (a3 : Int32) (a4 : Int32) (σ : gx_R), Md_person_43 n a3 a4 σ = some (rr, σ') → gx_Ev lay0 (E0 D) tt_152 (some (.int rr)) σ' 43 [.ref 109, .null, .null, .int a3, .int a4] [] σ := by
  intro n
  induction n with
  | zero => intro a3 a4 σ  hf; cases hf
  | succ n ih => intro a3 a4 σ  hf; exact vv_Md_person_43_B D hD rr σ'  (Md_person_43 n) ih a3 a4 σ  hf
set_option maxHeartbeats 16000000 in
set_option maxRecDepth 20000 in
theorem vv_Md_person_E (D : Nat) (hD : 2 ≤ D + 1) (rr : Int32) (σ' : gx_R) (a1 : Int32) (a2 : Int32) (σ : gx_R) (hf : Md_person a1 a2 σ = some (rr, σ')) : gx_Ev lay0 (E0 D) tt_152 (some (.int rr)) σ' 0 [.ref 109, .int a1, .int a2, .null, .null] [] σ := by
  unfold Md_person at hf
  obtain ⟨r1, σ2, h3, hf⟩ := z_bd_inv hf
  rcases z_if_inv hf with ⟨h4, hf⟩ | ⟨h4, hf⟩
  · obtain ⟨e1, e2⟩ := z_ret hf
    subst e1
    subst e2
    exact gx_end 12 [.inr (some (.int r1), σ2), .inl 1] [vp_in (0 : Int32) 8880, E0 D 145 [.int a1, .int (0 : Int32), .int (9 : Int32)] σ (some (.int r1)) σ2, r1 = 0] rfl ⟨(z_ix_in rfl), (ww_Md_in D (by omega) a1 (0 : Int32) (9 : Int32) σ r1 σ2 h3), h4, trivial⟩
  · obtain ⟨r5, σ6, h7, hf⟩ := z_bd_inv hf
    rcases z_if_inv hf with ⟨h8, hf⟩ | ⟨h8, hf⟩
    · obtain ⟨e1, e2⟩ := z_ret hf
      subst e1
      subst e2
      exact gx_end 17 [.inr (some (.int r1), σ2), .inl 0, .inr (some (.int r5), σ6), .inl 1] [vp_in (0 : Int32) 8880, E0 D 145 [.int a1, .int (0 : Int32), .int (9 : Int32)] σ (some (.int r1)) σ2, ¬ (r1 = 0), E0 D 145 [.int a2, .int (0 : Int32), .int (9 : Int32)] σ2 (some (.int r5)) σ6, r5 = 0] rfl ⟨(z_ix_in rfl), (ww_Md_in D (by omega) a1 (0 : Int32) (9 : Int32) σ r1 σ2 h3), h4, (ww_Md_in D (by omega) a2 (0 : Int32) (9 : Int32) σ2 r5 σ6 h7), h8, trivial⟩
    · rcases z_if_inv hf with ⟨h9, hf⟩ | ⟨h9, hf⟩
      · obtain ⟨e1, e2⟩ := z_ret hf
        subst e1
        subst e2
        exact gx_end 20 [.inr (some (.int r1), σ2), .inl 0, .inr (some (.int r5), σ6), .inl 0, .inl 0] [vp_in (0 : Int32) 8880, E0 D 145 [.int a1, .int (0 : Int32), .int (9 : Int32)] σ (some (.int r1)) σ2, ¬ (r1 = 0), E0 D 145 [.int a2, .int (0 : Int32), .int (9 : Int32)] σ2 (some (.int r5)) σ6, ¬ (r5 = 0), ¬ ¬ ((σ 110 ((0 : Int32).toNatClampNeg)) = (8 : Int32))] rfl ⟨(z_ix_in rfl), (ww_Md_in D (by omega) a1 (0 : Int32) (9 : Int32) σ r1 σ2 h3), h4, (ww_Md_in D (by omega) a2 (0 : Int32) (9 : Int32) σ2 r5 σ6 h7), h8, (fun q => q h9), trivial⟩
      · obtain ⟨h10, hf⟩ := z_ck_inv hf
        obtain ⟨h11, hf⟩ := z_ck_inv hf
        obtain ⟨h12, hf⟩ := z_ck_inv hf
        exact gx_go_ 41 [.inr (some (.int r1), σ2), .inl 0, .inr (some (.int r5), σ6), .inl 0, .inl 1] [vp_in (0 : Int32) 8880, E0 D 145 [.int a1, .int (0 : Int32), .int (9 : Int32)] σ (some (.int r1)) σ2, ¬ (r1 = 0), E0 D 145 [.int a2, .int (0 : Int32), .int (9 : Int32)] σ2 (some (.int r5)) σ6, ¬ (r5 = 0), ¬ ((σ 110 ((0 : Int32).toNatClampNeg)) = (8 : Int32)), vp_in ((10 : Int32) + (σ 110 ((0 : Int32).toNatClampNeg))) 8880, vp_in ((18 : Int32) + (σ 110 ((0 : Int32).toNatClampNeg))) 8880, vp_in ((68 : Int32) + (σ 110 ((0 : Int32).toNatClampNeg))) 8880] 43 [.ref 109, .int a1, .int a2, .int (σ 110 ((0 : Int32).toNatClampNeg)), .int (0 : Int32)] [] (gx_up (gx_up (gx_up σ6 110 ((10 : Int32) + (σ 110 ((0 : Int32).toNatClampNeg))).toNatClampNeg a1) 110 ((18 : Int32) + (σ 110 ((0 : Int32).toNatClampNeg))).toNatClampNeg a2) 110 ((68 : Int32) + (σ 110 ((0 : Int32).toNatClampNeg))).toNatClampNeg (-1 : Int32)) rfl ⟨(z_ix_in rfl), (ww_Md_in D (by omega) a1 (0 : Int32) (9 : Int32) σ r1 σ2 h3), h4, (ww_Md_in D (by omega) a2 (0 : Int32) (9 : Int32) σ2 r5 σ6 h7), h8, h9, (z_ix_in h10), (z_ix_in h11), (z_ix_in h12), trivial⟩ (gx_fgt (ls' := [.ref 109, .null, .null, .int (σ 110 ((0 : Int32).toNatClampNeg)), .int (0 : Int32)]) ⟨Or.inr rfl, Or.inl rfl, Or.inl rfl, Or.inr rfl, Or.inr rfl, trivial⟩ (vv_Md_person_43 D hD rr σ' z_FU (σ 110 ((0 : Int32).toNatClampNeg)) (0 : Int32) (gx_up (gx_up (gx_up σ6 110 ((10 : Int32) + (σ 110 ((0 : Int32).toNatClampNeg))).toNatClampNeg a1) 110 ((18 : Int32) + (σ 110 ((0 : Int32).toNatClampNeg))).toNatClampNeg a2) 110 ((68 : Int32) + (σ 110 ((0 : Int32).toNatClampNeg))).toNatClampNeg (-1 : Int32)) hf))
set_option maxHeartbeats 16000000 in
set_option maxRecDepth 20000 in
theorem ww_Md_person (D : Nat) (hD : 2 ≤ D) (a1 : Int32) (a2 : Int32) (σ : gx_R) (rr : Int32) (σ' : gx_R) (hf : Md_person a1 a2 σ = some (rr, σ')) : E0 D 152 [.ref 109, .int a1, .int a2] σ (some (.int rr)) σ' := by
  cases D with
  | zero => omega
  | succ D => exact Or.inl ⟨Nat.le_of_ble_eq_true rfl, vv_Md_person_E D hD rr σ' a1 a2 σ hf⟩
set_option maxHeartbeats 16000000 in
set_option maxRecDepth 20000 in
theorem vv_Md_work_E (D : Nat) (hD : 2 ≤ D + 1) (rr : Int32) (σ' : gx_R) (a1 : Int32) (a2 : Int32) (σ : gx_R) (hf : Md_work a1 a2 σ = some (rr, σ')) : gx_Ev lay0 (E0 D) tt_153 (some (.int rr)) σ' 0 [.ref 109, .int a1, .int a2, .null] [] σ := by
  unfold Md_work at hf
  obtain ⟨r1, σ2, h3, hf⟩ := z_bd_inv hf
  rcases z_if_inv hf with ⟨h4, hf⟩ | ⟨h4, hf⟩
  · obtain ⟨e1, e2⟩ := z_ret hf
    subst e1
    subst e2
    exact gx_end 12 [.inr (some (.int r1), σ2), .inl 1] [vp_in (1 : Int32) 8880, E0 D 145 [.int a1, .int (1 : Int32), .int (99 : Int32)] σ (some (.int r1)) σ2, r1 = 0] rfl ⟨(z_ix_in rfl), (ww_Md_in D (by omega) a1 (1 : Int32) (99 : Int32) σ r1 σ2 h3), h4, trivial⟩
  · obtain ⟨r5, σ6, h7, hf⟩ := z_bd_inv hf
    rcases z_if_inv hf with ⟨h8, hf⟩ | ⟨h8, hf⟩
    · obtain ⟨e1, e2⟩ := z_ret hf
      subst e1
      subst e2
      exact gx_end 17 [.inr (some (.int r1), σ2), .inl 0, .inr (some (.int r5), σ6), .inl 1] [vp_in (1 : Int32) 8880, E0 D 145 [.int a1, .int (1 : Int32), .int (99 : Int32)] σ (some (.int r1)) σ2, ¬ (r1 = 0), E0 D 145 [.int a2, .int (0 : Int32), .int (9 : Int32)] σ2 (some (.int r5)) σ6, r5 = 0] rfl ⟨(z_ix_in rfl), (ww_Md_in D (by omega) a1 (1 : Int32) (99 : Int32) σ r1 σ2 h3), h4, (ww_Md_in D (by omega) a2 (0 : Int32) (9 : Int32) σ2 r5 σ6 h7), h8, trivial⟩
    · rcases z_if_inv hf with ⟨h9, hf⟩ | ⟨h9, hf⟩
      · obtain ⟨e1, e2⟩ := z_ret hf
        subst e1
        subst e2
        exact gx_end 20 [.inr (some (.int r1), σ2), .inl 0, .inr (some (.int r5), σ6), .inl 0, .inl 0] [vp_in (1 : Int32) 8880, E0 D 145 [.int a1, .int (1 : Int32), .int (99 : Int32)] σ (some (.int r1)) σ2, ¬ (r1 = 0), E0 D 145 [.int a2, .int (0 : Int32), .int (9 : Int32)] σ2 (some (.int r5)) σ6, ¬ (r5 = 0), ¬ ¬ ((σ 110 ((1 : Int32).toNatClampNeg)) = (6 : Int32))] rfl ⟨(z_ix_in rfl), (ww_Md_in D (by omega) a1 (1 : Int32) (99 : Int32) σ r1 σ2 h3), h4, (ww_Md_in D (by omega) a2 (0 : Int32) (9 : Int32) σ2 r5 σ6 h7), h8, (fun q => q h9), trivial⟩
      · obtain ⟨h10, hf⟩ := z_ck_inv hf
        obtain ⟨h11, hf⟩ := z_ck_inv hf
        obtain ⟨e1, e2⟩ := z_ret hf
        subst e1
        subst e2
        exact gx_end 42 [.inr (some (.int r1), σ2), .inl 0, .inr (some (.int r5), σ6), .inl 0, .inl 1] [vp_in (1 : Int32) 8880, E0 D 145 [.int a1, .int (1 : Int32), .int (99 : Int32)] σ (some (.int r1)) σ2, ¬ (r1 = 0), E0 D 145 [.int a2, .int (0 : Int32), .int (9 : Int32)] σ2 (some (.int r5)) σ6, ¬ (r5 = 0), ¬ ((σ 110 ((1 : Int32).toNatClampNeg)) = (6 : Int32)), vp_in ((42 : Int32) + (σ 110 ((1 : Int32).toNatClampNeg))) 8880, vp_in ((48 : Int32) + (σ 110 ((1 : Int32).toNatClampNeg))) 8880, vp_in (1 : Int32) 8880, vp_in (1 : Int32) 8880] rfl ⟨(z_ix_in rfl), (ww_Md_in D (by omega) a1 (1 : Int32) (99 : Int32) σ r1 σ2 h3), h4, (ww_Md_in D (by omega) a2 (0 : Int32) (9 : Int32) σ2 r5 σ6 h7), h8, h9, (z_ix_in h10), (z_ix_in h11), (z_ix_in rfl), (z_ix_in rfl), trivial⟩
set_option maxHeartbeats 16000000 in
set_option maxRecDepth 20000 in
theorem ww_Md_work (D : Nat) (hD : 2 ≤ D) (a1 : Int32) (a2 : Int32) (σ : gx_R) (rr : Int32) (σ' : gx_R) (hf : Md_work a1 a2 σ = some (rr, σ')) : E0 D 153 [.ref 109, .int a1, .int a2] σ (some (.int rr)) σ' := by
  cases D with
  | zero => omega
  | succ D => exact Or.inl ⟨Nat.le_of_ble_eq_true rfl, vv_Md_work_E D hD rr σ' a1 a2 σ hf⟩
