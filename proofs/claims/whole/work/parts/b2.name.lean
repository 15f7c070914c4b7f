/-! ===== the name of a clause ===== -/
theorem CR_43 {b : Nat → Nat} {nb T c0 : Nat} {σ0 σ : gx_R} {t n : Nat} {ck ca : Nat → Nat} (h : CR b nb T c0 σ0 σ t n ck ca) (x : Int32) : CR b nb T c0 (gx_up σ0 43 4 x) (gx_up σ 43 4 x) t n ck ca := by
  obtain ⟨⟨h1, h1b, h1c, h1d, h1e, h1f⟩, h2, h3, h4, h5, h6, h7, h8, h9⟩ := h
  have k : ∀ (ρ : gx_R) (y : Nat), y ≠ 43 → gx_up ρ 43 4 x y = ρ y := fun ρ y hy => gx_up_ne hy
  refine ⟨⟨h1, fun i hi => by rw [k σ0 41 (by omega), k σ0 40 (by omega), k σ0 42 (by omega)]; exact h1b i hi, h1c, by rw [k σ0 41 (by omega)]; exact h1d, by rw [k σ0 40 (by omega)]; exact h1e, by rw [k σ0 39 (by omega)]; exact h1f⟩, h2, by rw [k σ 39 (by omega)]; exact h3, by rw [k σ 39 (by omega)]; exact h4, ⟨by rw [up_p _ _ _ (by omega)]; exact h5.1, h5.2⟩, fun i hi => by rw [k σ 49 (by omega)]; exact h6 i hi, ⟨fun y y1 y2 y3 => by rw [k σ y y2, k σ0 y y2]; exact h7.1 y y1 y2 y3, fun i i1 i2 i3 i4 => by rw [k σ 39 (by omega), k σ0 39 (by omega)]; exact h7.2.1 i i1 i2 i3 i4, fun i hi => ?_⟩, by rw [k σ 39 (by omega), k σ0 39 (by omega)]; exact h8, fun i hi => by rw [k σ 49 (by omega), k σ0 49 (by omega)]; exact h9 i hi⟩
  by_cases z : i = 4
  · rw [z, up_e, up_e]
  · rw [up_p _ _ _ z, up_p _ _ _ z]; exact h7.2.2 i hi
theorem A_31 {b : Nat → Nat} {nb r0 : Nat} {τ0 τ : gx_R} {t : Nat} {fr ws : List (Nat × Nat)} {st n : Nat} {ck ca : Nat → Nat} (h : MR b nb r0 τ0 τ t fr ws st n ck ca) (x : Int32) : MR b nb r0 (gx_up τ0 109 31 x) (gx_up τ 109 31 x) t fr ws st n ck ca := by
  obtain ⟨m1, m2, m3, ⟨m4, m5⟩, m6, m7, m8, m9, m10, m11, m12⟩ := h
  refine ⟨TpM_c (gx_up_ne (by omega)) (up_p _ _ _ (by omega)) m1, ⟨by rw [up_p _ _ _ (by omega)]; exact m2.1, by rw [up_p _ _ _ (by omega)]; exact m2.2⟩, LexR_c (fun j _ _ => up_p _ _ _ (by omega)) m3, ⟨by rw [up_p _ _ _ (by omega)]; exact m4, by rw [up_p _ _ _ (by omega)]; exact m5⟩, FrR_c fr (fun i _ => ⟨up_c _ _ _ _ (by omega), up_c _ _ _ _ (by omega), up_c _ _ _ _ (by omega)⟩) m6, by rw [up_p _ _ _ (by omega)]; exact m7, WsR_c ws (fun i _ => ⟨up_c _ _ _ _ (by omega), up_c _ _ _ _ (by omega)⟩) m8, by rw [up_p _ _ _ (by omega)]; exact m9, by rw [up_p _ _ _ (by omega)]; exact m10, fun i hi => by rw [up_c _ _ _ _ (by omega), up_c _ _ _ _ (by omega)]; exact m11 i hi, fun c c1 c2 c3 c4 => by rw [gx_up_ne c1, gx_up_ne c1]; exact m12.1 c c1 c2 c3 c4, fun i hi => by rw [up_c _ _ _ _ (by omega), up_c _ _ _ _ (by omega), up_c _ _ _ _ (by omega), up_c _ _ _ _ (by omega)]; exact m12.2.1 i hi, fun j j1 j2 j3 j4 j5 j6 => ?_⟩
  by_cases z : j = 31
  · rw [z, up_e, up_e]
  · rw [up_p _ _ _ z, up_p _ _ _ z]; exact m12.2.2 j j1 j2 j3 j4 j5 j6
theorem nm_x {b : Nat → Nat} {nb t : Nat} {τ : gx_R} (h : LexR τ b nb t) (h9 : kd b nb t ≤ 9) : τ 109 17 = 1 ∧ τ 109 18 = nI (kd b nb t) := by
  have := (kr_w (w := kd b nb t) h.2.2.2 (by omega)).mpr rfl
  rw [(rI_9 (kd b nb t) (by omega)).2.1 h9] at this
  exact this
/-- a deed's name -/
theorem name_d {b : Nat → Nat} {nb T cn rn q : Nat} {σ τ : gx_R} {t : Nat} {ck ca ck' ca' : Nat → Nat} (hC : CR b nb T cn σ σ t 0 ck ca) (hM : MR b nb rn τ τ t [] [] 4 0 ck' ca') (hq : σ 43 4 = nI q ∧ τ 109 30 = nI q) (hq2 : q < 24) (hx : 4 ≤ kd b nb t ∧ kd b nb t ≤ 9) : ∃ σ1 τ1, CR b nb T cn (gx_up (gx_up σ 43 4 (nI (q + 1))) 44 q (nI (kd b nb t))) σ1 (t + 1) 0 ck ca ∧ MR b nb rn (gx_up (gx_up (gx_up τ 109 31 (nI (kd b nb t))) 126 q (nI (kd b nb t))) 127 q (nI rn)) τ1 (t + 1) [] [] 4 0 ck' ca' ∧ Re_clause σ = DW (nI (kd b nb t)) (nI q) σ1 ∧ Md_clause τ = DD τ1 := by
  have h8 : σ 39 8 = nI (kd b nb t) := hC.2.2.2.1
  obtain ⟨σ1, a1, a2⟩ := adv_v (CR_base (CR_43 hC (nI (q + 1))) (c := 44) (j := q) (nI (kd b nb t)) (by omega)) (by omega)
  obtain ⟨τ1, x1, x2⟩ := C_36 (x := kd b nb t) (q := q) (A_31 hM (nI (kd b nb t))) (up_e _ _ _ _) (by rw [up_p _ _ _ (by omega)]; exact hq.2) hq2 (by omega) (by omega)
  rw [if_pos (by omega)] at x2
  obtain ⟨l1, l2⟩ := nm_x hM.2.2.1 hx.2
  refine ⟨σ1, τ1, a2, x1, ?_, ?_⟩
  · rw [Re_clause, h8, if_pos (show nI (kd b nb t) ≤ 9 from (nI_leI (b := 9) (by omega) (by omega)).mpr hx.2), if_pos (show (4 : Int32) ≤ nI (kd b nb t) from (nI_leI (a := 4) (by omega) (by omega)).mpr hx.1), hq.1, Re_clause_28, if_pos (show nI q < 24 from (nI_ltI (b := 24) (by omega) (by omega)).mpr hq2), ix_n (by omega), decide_eq_true hq2, w_ck, cl_n (by omega), show nI q + 1 = nI (q + 1) from nI_add _ 1, a1, w_bd, if_pos (show (4 : Int32) ≤ nI (kd b nb t) from (nI_leI (a := 4) (by omega) (by omega)).mpr hx.1)]
    rfl
  · rw [Md_clause, if_pos l1, l2, if_pos (show nI (kd b nb t) ≤ 9 from (nI_leI (b := 9) (by omega) (by omega)).mpr hx.2), up_e, if_pos (show (3 : Int32) < nI (kd b nb t) from (nI_ltI (a := 3) (by omega) (by omega)).mpr (by omega)), Md_clause_29, up_p _ _ _ (show (30 : Nat) ≠ 31 by omega), hq.2, if_neg (show ¬ nI q = 24 from fun z => by have := (nI_eq (b := 24) (by omega) (by omega)).mp z; omega)]
    exact x2
