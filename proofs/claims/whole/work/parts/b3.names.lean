/-! ===== the name of a law; names that fail ===== -/
theorem CR_39 {b : Nat → Nat} {nb T c0 : Nat} {σ0 σ : gx_R} {t n : Nat} {ck ca : Nat → Nat} (h : CR b nb T c0 σ0 σ t n ck ca) (x : Int32) : CR b nb T c0 (gx_up σ0 39 9 x) (gx_up σ 39 9 x) t n ck ca := by
  obtain ⟨⟨h1, h1b, h1c, h1d, h1e, h1f⟩, h2, h3, h4, h5, h6, h7, h8, h9⟩ := h
  have k : ∀ (ρ : gx_R) (y : Nat), y ≠ 39 → gx_up ρ 39 9 x y = ρ y := fun ρ y hy => gx_up_ne hy
  refine ⟨⟨h1, fun i hi => by rw [k σ0 41 (by omega), k σ0 40 (by omega), k σ0 42 (by omega)]; exact h1b i hi, h1c, by rw [k σ0 41 (by omega)]; exact h1d, by rw [k σ0 40 (by omega)]; exact h1e, by rw [up_p _ _ _ (by omega)]; exact h1f⟩, h2, by rw [up_p _ _ _ (by omega)]; exact h3, by rw [up_p _ _ _ (by omega)]; exact h4, ⟨by rw [k σ 43 (by omega)]; exact h5.1, h5.2⟩, fun i hi => by rw [k σ 49 (by omega)]; exact h6 i hi, ⟨fun y y1 y2 y3 => by rw [k σ y y1, k σ0 y y1]; exact h7.1 y y1 y2 y3, fun i i1 i2 i3 i4 => ?_, fun i hi => by rw [k σ 43 (by omega), k σ0 43 (by omega)]; exact h7.2.2 i hi⟩, by rw [up_p _ _ _ (by omega), up_p _ _ _ (by omega), up_p _ _ _ (by omega), up_p _ _ _ (by omega)]; exact h8, fun i hi => by rw [k σ 49 (by omega), k σ0 49 (by omega)]; exact h9 i hi⟩
  by_cases z : i = 9
  · rw [z, up_e, up_e]
  · rw [up_p _ _ _ z, up_p _ _ _ z]; exact h7.2.1 i i1 i2 i3 i4
theorem told_v {b : Nat → Nat} {nb rn q x : Nat} {τ : gx_R} {t : Nat} {ck' ca' : Nat → Nat} (hM : MR b nb rn τ τ t [] [] 4 0 ck' ca') (hq : τ 109 30 = nI q) (hq2 : q ≤ 24) : ((∀ k, k < q → ¬ τ 126 k = nI x) → Md_wasTold (nI x) (gx_up τ 109 31 (nI x)) = some (0, gx_up τ 109 31 (nI x))) ∧ ((∃ k, k < q ∧ τ 126 k = nI x) → Md_wasTold (nI x) (gx_up τ 109 31 (nI x)) = some (1, gx_up τ 109 31 (nI x))) := by
  have hFU := z_FU_ge
  have e126 : ∀ k, gx_up τ 109 31 (nI x) 126 k = τ 126 k := fun k => up_c _ _ _ _ (by omega)
  obtain ⟨w1, w2⟩ := wt_0 (τ := gx_up τ 109 31 (nI x)) (q := q) (by rw [up_p _ _ _ (by omega)]; exact hq) hq2 (nI x) 24 0 z_FU (by omega) (by omega) (by omega)
  exact ⟨fun h => w1 (fun k _ k2 => by rw [e126]; exact h k k2), fun ⟨k, k1, k2⟩ => w2 ⟨k, Nat.zero_le _, k1, by rw [e126]; exact k2⟩⟩
/-- a law's name -/
theorem name_l {b : Nat → Nat} {nb T cn rn q : Nat} {σ τ : gx_R} {t : Nat} {ck ca ck' ca' : Nat → Nat} (hC : CR b nb T cn σ σ t 0 ck ca) (hM : MR b nb rn τ τ t [] [] 4 0 ck' ca') (hq : σ 43 4 = nI q ∧ τ 109 30 = nI q) (hq2 : q < 24) (hx : kd b nb t < 4) (h48 : σ 48 (kd b nb t) = -1) (hw : ∀ k, k < q → ¬ τ 126 k = nI (kd b nb t)) : ∃ σ1 τ1, CR b nb T cn (gx_up (gx_up (gx_up (gx_up σ 43 4 (nI (q + 1))) 44 q (nI (kd b nb t))) 39 9 (nI (kd b nb t))) 48 (kd b nb t) (nI cn)) σ1 (t + 1) 0 ck ca ∧ MR b nb rn (gx_up (gx_up (gx_up τ 109 31 (nI (kd b nb t))) 126 q (nI (kd b nb t))) 127 q (nI rn)) τ1 (t + 1) [(1, 0)] [] 1 0 ck' ca' ∧ Re_clause σ = LW σ1 ∧ Md_clause τ = some ((), τ1) := by
  have h8 : σ 39 8 = nI (kd b nb t) := hC.2.2.2.1
  obtain ⟨σ1, a1, a2⟩ := adv_v (CR_base (CR_43 hC (nI (q + 1))) (c := 44) (j := q) (nI (kd b nb t)) (by omega)) (by omega)
  have z7 : σ1 43 7 = nI cn := a2.2.2.2.2.1.1
  have a3 := CR_base (CR_39 a2 (nI (kd b nb t))) (c := 48) (j := kd b nb t) (nI cn) (by omega)
  obtain ⟨τ1, x1, x2⟩ := C_36 (x := kd b nb t) (q := q) (A_31 hM (nI (kd b nb t))) (up_e _ _ _ _) (by rw [up_p _ _ _ (by omega)]; exact hq.2) hq2 (by omega) (by omega)
  rw [if_neg (by omega)] at x2
  obtain ⟨τ2, p1, p2⟩ := A_push (x := 1) x1 (by show 0 < 39; omega) ⟨by omega, by omega⟩ (Or.inl (by omega))
  rw [if_pos (show (1 : Nat) = 1 ∨ (1 : Nat) = 4 by omega)] at p1
  have p1 : Md_opensFrame 1 τ1 = some ((), τ2) := p1
  rw [p1, w_bd] at x2
  obtain ⟨l1, l2⟩ := nm_x hM.2.2.1 (show kd b nb t ≤ 9 by omega)
  have k9 : nI (kd b nb t) ≤ 9 := (nI_leI (b := 9) (by omega) (by omega)).mpr (by omega)
  have k4 : ¬ (4 : Int32) ≤ nI (kd b nb t) := fun z => by have := (nI_leI (a := 4) (by omega) (by omega)).mp z; omega
  refine ⟨_, _, a3, A_state p2 1, ?_, ?_⟩
  · rw [Re_clause, h8, if_pos k9, if_neg k4, ix_n (by omega), decide_eq_true hx, w_ck, cl_n (by omega), h48, if_pos rfl, hq.1, Re_clause_28, if_pos (show nI q < 24 from (nI_ltI (b := 24) (by omega) (by omega)).mpr hq2), ix_n (by omega), decide_eq_true hq2, w_ck, cl_n (by omega), show nI q + 1 = nI (q + 1) from nI_add _ 1, a1, w_bd, if_neg k4, Re_lawOf, ix_n (by omega), decide_eq_true hx, w_ck, cl_n (by omega), up_c _ _ _ _ (show (43 : Nat) ≠ 39 by omega), z7]
    rfl
  · rw [Md_clause, if_pos l1, l2, if_pos k9, up_e, if_neg (show ¬ (3 : Int32) < nI (kd b nb t) from fun z => by have := (nI_ltI (a := 3) (by omega) (by omega)).mp z; omega), (told_v hM hq.2 (by omega)).1 hw, w_bd, if_pos rfl, Md_clause_29, up_p _ _ _ (show (30 : Nat) ≠ 31 by omega), hq.2, if_neg (show ¬ nI q = 24 from fun z => by have := (nI_eq (b := 24) (by omega) (by omega)).mp z; omega), x2]
    rfl
/-- the reference goes on behind a fault in the name -/
theorem EM_36 {b : Nat → Nat} {nb : Nat} {τ0 τ : gx_R} {f t : Nat} (h : EM b nb τ0 τ f t) : Md_clause_36 τ = some ((), τ) := by
  rw [Md_clause_36, if_neg (fun z => by
    have h2 := (EM_n h).2
    obtain ⟨⟨h1, h3, h4⟩, -⟩ := h
    rw [h1] at z
    have := (n_le0 (by omega)).mp z
    omega)]
/-- a name that is none, a law told twice, a clause too many: the class -/
theorem name_F {b : Nat → Nat} {nb T cn q : Nat} {σ : gx_R} {t : Nat} {ck ca : Nat → Nat} (hC : CR b nb T cn σ σ t 0 ck ca) (hq : σ 43 4 = nI q) (hq2 : q ≤ 24) : (¬ kd b nb t ≤ 9 → FC b nb σ (Re_clause σ) 1 t) ∧ (kd b nb t < 4 → σ 48 (kd b nb t) ≠ -1 → FC b nb σ (Re_clause σ) 4 t) ∧ (q = 24 → kd b nb t ≤ 9 → (kd b nb t < 4 → σ 48 (kd b nb t) = -1) → FC b nb σ (Re_clause σ) 6 t) := by
  have h8 : σ 39 8 = nI (kd b nb t) := hC.2.2.2.1
  have h100 := @kd_100 b nb t
  have r : ∀ f, ∃ σ1, z_bd (Re_refuse (nI f) σ) (fun r5 σ6 => z_ck (z_bo r5) (some (r5, σ6))) = some (0, σ1) ∧ FS b nb σ σ1 f t := fun f => by
    obtain ⟨σ1, p1, p2⟩ := ref_v hC f
    exact ⟨σ1, by rw [p1, w_bd, bo_0, w_ck], p2⟩
  have k9 : (nI (kd b nb t) ≤ 9) ↔ kd b nb t ≤ 9 := nI_leI (b := 9) (by omega) (by omega)
  have k4 : ((4 : Int32) ≤ nI (kd b nb t)) ↔ 4 ≤ kd b nb t := nI_leI (a := 4) (by omega) (by omega)
  refine ⟨fun c => ?_, fun c d => ?_, fun c d e => ?_⟩
  · obtain ⟨σ1, p1, p2⟩ := r 1
    exact ⟨σ1, by rw [Re_clause, h8, if_neg (fun z => c (k9.mp z))]; exact p1, p2⟩
  · obtain ⟨σ1, p1, p2⟩ := r 4
    exact ⟨σ1, by rw [Re_clause, h8, if_pos (k9.mpr (by omega)), if_neg (fun z => by have := k4.mp z; omega), ix_n (by omega), decide_eq_true c, w_ck, cl_n (by omega), if_neg d]; exact p1, p2⟩
  · obtain ⟨σ1, p1, p2⟩ := r 6
    have e28 : Re_clause_28 (nI (kd b nb t)) (σ 43 4) σ = some (0, σ1) := by
      rw [hq, c, Re_clause_28, if_neg (show ¬ nI 24 < 24 by decide)]; exact p1
    refine ⟨σ1, ?_, p2⟩
    rw [Re_clause, h8, if_pos (k9.mpr d)]
    by_cases f : 4 ≤ kd b nb t
    · rw [if_pos (k4.mpr f), e28]
    · rw [if_neg (fun z => f (k4.mp z)), ix_n (by omega), decide_eq_true (show kd b nb t < 4 by omega), w_ck, cl_n (by omega), e (by omega), if_pos rfl, e28]
