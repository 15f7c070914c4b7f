/-! ===== the whole descent ===== -/
theorem one_minus {b : Nat → Nat} {nb T c0 r0 lw : Nat} {σ0 τ0 : gx_R} {d o : Nat} (ho : o < 8) (hO : SpO b nb T c0 r0 lw σ0 τ0 (Re_rec d 4 (nI (o + 1))) (o + 1) (fun _ => true)) : SpO b nb T c0 r0 lw σ0 τ0 (Re_one_E (Re_rec d) (nI o)) o (fun k => decide (k = 38)) := by
  intro fx fr ws t n ck ca S σ τ hp hpre
  have hk := of_decide_eq_true hp
  obtain ⟨⟨b1, b2, b3, b4⟩, b5, b6, b7, ⟨b8, b9⟩, b10, hM, hC⟩ := hpre
  have hT := hC.1.1
  have htT : t ≤ T := hC.2.1
  have hFU := z_FU_ge
  have h8 : σ 39 8 = nI (kd b nb t) := hC.2.2.2.1
  rw [List.length_cons] at b3 b7 b10
  have b6 : ∀ w, w ∈ ws → w.2 ≤ fr.length + 1 := b6
  obtain ⟨τ1, m1, m2⟩ := O_open (x := 7) hM (Or.inr (Or.inr ⟨hk, rfl⟩)) (by rw [List.length_cons]; omega) (by omega)
  rw [if_neg (by omega)] at m2
  obtain ⟨σ1, a1, a2⟩ := adv_v hC (by omega)
  have ht1 : t + 1 ≤ T := a2.2.1
  have e0 : Re_one_E (Re_rec d) (nI o) σ = z_bd (Re_rec d 4 (nI (o + 1)) σ1) (fun r42 σ43 => z_bd (Te_put 46 σ43) (fun _ σ46 => z_ck (z_bo r42) (some (r42, σ46)))) := by
    rw [one_18 _ _ h8 (by omega) (by omega), one_34 _ _ h8 (by omega), Re_one_34, if_pos (show nI o < 8 from (nI_ltI (b := 8) (by omega) (by omega)).mpr ho), h8, hk, if_neg (show ¬ nI 38 = 14 by decide), if_pos (show nI 38 = 38 from rfl), Re_one_58, a1, w_bd, if_neg (show ¬ (1 : Int32) = 0 by decide), show nI o + 1 = nI (o + 1) from nI_add _ 1]
  have hp1 : Pre b nb T c0 r0 σ0 τ0 1 3 5 (o + 1) ((7, 0) :: fx :: fr) ws (t + 1) n ck ca S σ1 τ1 := ⟨⟨by rw [opN_c (by omega), b1], by omega, by rw [List.length_cons, List.length_cons]; omega, by rw [List.length_cons]; omega⟩, fl_5 ws, fun w hw => by have := b6 w hw; rw [List.length_cons, List.length_cons]; omega, by rw [List.length_cons, List.length_cons]; omega, ⟨b8, by rw [pnd, if_pos (by show ((7 : Nat) = 3 ∨ (7 : Nat) = 5 ∨ (7 : Nat) = 7); omega)]; omega⟩, by rw [List.length_cons, List.length_cons]; omega, m2, a2⟩
  rcases hO _ _ _ _ _ _ _ _ _ _ rfl hp1 with ⟨ef, tf, kf, f1, f2, f3, ⟨σ2, f4, f5⟩, f6⟩ | ⟨σ2, τ2, t2, k2, g2, s1, s2, s3, s4, st', N, K, A, u1, u2, u3, u4, u5, u6, u7⟩
  · obtain ⟨σ3, g1, g2⟩ := put_F f5 46
    refine Or.inl ⟨ef, tf, kf + 1, by omega, f2, by omega, ⟨σ3, ?_, g2⟩, fun f => ?_⟩
    · rw [e0, f4, w_bd, g1, w_bd, bo_0, w_ck]
    · rw [show f + (kf + 1) = f + kf + 1 by omega, m1]; exact f6 f
  · have ht2 : t2 ≤ T := u2.2.1
    rw [pnd, if_pos (by show ((7 : Nat) = 3 ∨ (7 : Nat) = 5 ∨ (7 : Nat) = 7); omega)] at u3
    obtain ⟨σ3, g3, g4⟩ := wput_v (k := 46) (a := 0) (w := 46) u2 (by omega) (by unfold aI; rw [if_neg (by omega)]; rfl)
    obtain ⟨g2, rfl⟩ : ∃ x, g2 = x + 1 := ⟨g2 - 1, by omega⟩
    obtain ⟨τ3, v1, v2⟩ := over_7 u1 (by rw [List.length_cons]; omega) (by omega) (by omega)
    refine Or.inr ⟨σ3, τ3, t2, k2 + 1, g2, ?_, fun f => ?_, by omega, by omega, st', N + 1, fset K N 46, fset A N 0, v2, g4, by omega, by omega, by omega, fun j hj => by rw [fset_n _ _ (by omega), fset_n _ _ (by omega)]; exact u6 j hj, ?_⟩
    · rw [e0, s1, w_bd, g3, w_bd, bo_1, w_ck]
    · rw [show f + (k2 + 1) = f + k2 + 1 by omega, m1, s2, v1]
    · refine Sg_glue (Sg_c u7 (fun j j1 j2 => by rw [fset_n _ _ (by omega), fset_n _ _ (by omega)]; exact ⟨rfl, rfl⟩)) (Sg_one (by rw [List.length_cons]; omega) (by rw [List.length_cons]; omega) (fun tp t1 t2 => ?_)) (by omega) (by omega)
      exact Or.inr (Or.inr (Or.inl ⟨S, fset_e _ _ _, fset_e _ _ _, t1, by rw [t1, t2]⟩))
theorem one_paren {b : Nat → Nat} {nb T c0 r0 lw : Nat} {σ0 τ0 : gx_R} {d o : Nat} (ho : o < 8) (hS : Spec b nb T c0 r0 lw σ0 τ0 1 2 7 3 3 false nopS (Re_rec d 6 (nI (o + 1))) (o + 1)) : SpO b nb T c0 r0 lw σ0 τ0 (Re_one_E (Re_rec d) (nI o)) o (fun k => decide (k = 41)) := by
  intro fx fr ws t n ck ca S σ τ hp hpre
  have hk := of_decide_eq_true hp
  obtain ⟨⟨b1, b2, b3, b4⟩, b5, b6, b7, ⟨b8, b9⟩, b10, hM, hC⟩ := hpre
  have hT := hC.1.1
  have htT : t ≤ T := hC.2.1
  have hFU := z_FU_ge
  have h100 := @kd_100 b nb
  have h8 : σ 39 8 = nI (kd b nb t) := hC.2.2.2.1
  rw [List.length_cons] at b3 b7 b10
  have b6 : ∀ w, w ∈ ws → w.2 ≤ fr.length + 1 := b6
  obtain ⟨τ1, m1, m2⟩ := O_open (x := 6) hM (Or.inr (Or.inl ⟨hk, rfl⟩)) (by rw [List.length_cons]; omega) (by omega)
  rw [if_neg (by omega)] at m2
  obtain ⟨σ1, a1, a2⟩ := adv_v hC (by omega)
  have ht1 : t + 1 ≤ T := a2.2.1
  have e0 : Re_one_E (Re_rec d) (nI o) σ = z_bd (Re_rec d 6 (nI (o + 1)) σ1) (fun r34 σ35 => if r34 = 0 then some ((0 : Int32), σ35) else z_bd (Re_take (42 : Int32) σ35) (fun r38 σ39 => if r38 = 0 then some ((0 : Int32), σ39) else some ((1 : Int32), σ39))) := by
    rw [one_18 _ _ h8 (by omega) (by omega), one_34 _ _ h8 (by omega), Re_one_34, if_pos (show nI o < 8 from (nI_ltI (b := 8) (by omega) (by omega)).mpr ho), h8, hk, if_neg (show ¬ nI 41 = 14 by decide), if_neg (show ¬ nI 41 = 38 by decide), Re_one_58, a1, w_bd, if_pos rfl, show nI o + 1 = nI (o + 1) from nI_add _ 1]
  have hp1 : Pre b nb T c0 r0 σ0 τ0 1 3 3 (o + 1) ((6, 0) :: fx :: fr) ws (t + 1) n ck ca S σ1 τ1 := ⟨⟨by rw [opN_c (by omega), b1], by omega, by rw [List.length_cons, List.length_cons]; omega, by rw [List.length_cons]; omega⟩, fl_new (fun w hw => by have := b6 w hw; rw [List.length_cons, List.length_cons]; omega), fun w hw => by have := b6 w hw; rw [List.length_cons, List.length_cons]; omega, by rw [List.length_cons, List.length_cons]; omega, ⟨b8, by rw [pnd_c (by omega)]; omega⟩, by rw [List.length_cons, List.length_cons]; omega, m2, a2⟩
  rcases hS _ _ _ _ _ _ _ _ _ _ (by show (6 : Nat) ≠ 7; omega) hp1 with ⟨ef, tf, kf, f1, f2, f3, ⟨σ2, f4, f5⟩, f6⟩ | ⟨σ2, τ2, t2, k2, s1, s2, s3, ⟨n2, ck2, ca2, ws2, ls2, N2, K2, A2, u1, u2, u3, ⟨u4, u5, u6⟩, u7, u8, u9, u10, u11, u12⟩, s0⟩
  · refine Or.inl ⟨ef, tf, kf + 1, by omega, f2, by omega, ⟨σ2, ?_, f5⟩, fun f => ?_⟩
    · rw [e0, f4, w_bd, if_pos rfl]
    · rw [show f + (kf + 1) = f + kf + 1 by omega, m1]; exact f6 f
  have ht2 : t2 ≤ T := u7.2.1
  have hno := nopS_v s0
  have hfl2 := fl_len 3 ((6, 0) :: fx :: fr).length ws2
  rw [u2] at hfl2
  have hfl2 : ws.length + ls2.length = ws2.length := hfl2
  rw [pnd_c (by omega)] at u8
  by_cases c : kd b nb t2 = 42
  · obtain ⟨τ3, v1, v2⟩ := G_paren u1 (by rw [List.length_cons]; omega) c (by omega) (by omega) (by omega)
    have u2' : fl 3 ((fx :: fr).length + 1) ws2 = (ws, ls2) := u2
    rw [u2'] at v2
    have v2 : MR b nb r0 τ0 τ3 (t2 + 1) (fx :: fr) ws 2 (n2 + ls2.length) (emK n2 ck2 ls2) (emA n2 ca2 ls2) := v2
    rw [← u4, ← u5, ← u6] at v2
    obtain ⟨σ3, p1, p2⟩ := take_v u7 c (by omega)
    have p1 : Re_take 42 σ2 = some (1, σ3) := p1
    refine Or.inr ⟨σ3, τ3, t2 + 1, 1 + k2 + 1, z_FU, ?_, fun f => ?_, by omega, by omega, 2, N2, K2, A2, v2, p2, by omega, by omega, by omega, u11, u12⟩
    · rw [e0, s1, w_bd, if_neg (show ¬ (1 : Int32) = 0 by decide), p1, w_bd, if_neg (show ¬ (1 : Int32) = 0 by decide)]
    · rw [show f + (1 + k2 + 1) = f + 1 + k2 + 1 by omega, m1, s2, v1]; rfl
  · obtain ⟨σ3, p1, p2⟩ := take_F u7 (k := 42) c ⟨h100 t2, by omega⟩
    have p1 : Re_take 42 σ2 = some (0, σ3) := p1
    refine Or.inl ⟨1, t2, 2 + k2 + 1, by omega, ht2, by omega, ⟨σ3, ?_, p2⟩, fun f => ?_⟩
    · rw [e0, s1, w_bd, if_neg (show ¬ (1 : Int32) = 0 by decide), p1, w_bd, if_pos rfl]
    · rw [show f + (2 + k2 + 1) = f + 2 + k2 + 1 by omega, m1, s2]
      exact G_err u1 (by rw [List.length_cons]; omega) hno (fun z => c z.2) (fun z => by have z : (6 : Nat) = 8 ∧ _ := z; omega) (fun z => by have z : (6 : Nat) = 9 ∧ _ := z; omega) (fun z => by have z : (6 : Nat) = 4 ∧ _ := z; omega) (by show (6 : Nat) ≠ 5; omega) (fun z => by have z : (6 : Nat) = 1 ∧ _ := z; omega) f
theorem one_if {b : Nat → Nat} {nb T c0 r0 lw : Nat} {σ0 τ0 : gx_R} {d o : Nat} (ho : o < 8) (hC : SpO b nb T c0 r0 lw σ0 τ0 (Re_rec d 2 (nI (o + 1))) o (fun k => decide (k = 14))) : SpO b nb T c0 r0 lw σ0 τ0 (Re_one_E (Re_rec d) (nI o)) o (fun k => decide (k = 14)) := by
  intro fx fr ws t n ck ca S σ τ hp hpre
  have hk := of_decide_eq_true hp
  have h8 : σ 39 8 = nI (kd b nb t) := hpre.2.2.2.2.2.2.2.2.2.2.1
  have e0 : Re_one_E (Re_rec d) (nI o) σ = z_bd (Re_rec d 2 (nI (o + 1)) σ) (fun r21 σ22 => z_ck (z_bo r21) (some (r21, σ22))) := by
    rw [one_18 _ _ h8 (by omega) (by omega), one_34 _ _ h8 (by omega), Re_one_34, if_pos (show nI o < 8 from (nI_ltI (b := 8) (by omega) (by omega)).mpr ho), h8, hk, if_pos (show nI 14 = 14 from rfl), show nI o + 1 = nI (o + 1) from nI_add _ 1]
  rcases hC fx fr ws t n ck ca S σ τ hp hpre with ⟨ef, tf, kf, f1, f2, f3, ⟨σ2, f4, f5⟩, f6⟩ | ⟨σ2, τ2, t2, k2, g2, s1, s2⟩
  · refine Or.inl ⟨ef, tf, kf, f1, f2, f3, ⟨σ2, ?_, f5⟩, f6⟩
    rw [e0, f4, w_bd, bo_0, w_ck]
  · refine Or.inr ⟨σ2, τ2, t2, k2, g2, ?_, s2⟩
    rw [e0, s1, w_bd, bo_1, w_ck]
theorem one_all {b : Nat → Nat} {nb T c0 r0 lw : Nat} {σ0 τ0 : gx_R} {rc : gx_R → Option (Int32 × gx_R)} {o : Nat} (h1 : SpO b nb T c0 r0 lw σ0 τ0 rc o (fun k => decide (k = 30))) (h2 : SpO b nb T c0 r0 lw σ0 τ0 rc o (fun k => decide (21 ≤ k ∧ k ≤ 29))) (h3 : SpO b nb T c0 r0 lw σ0 τ0 rc o (fun k => decide (k ≠ 30 ∧ ¬ (21 ≤ k ∧ k ≤ 29) ∧ k ≠ 14 ∧ k ≠ 41 ∧ k ≠ 38))) (h4 : SpO b nb T c0 r0 lw σ0 τ0 rc o (fun k => decide (k = 14))) (h5 : SpO b nb T c0 r0 lw σ0 τ0 rc o (fun k => decide (k = 41))) (h6 : SpO b nb T c0 r0 lw σ0 τ0 rc o (fun k => decide (k = 38))) : SpO b nb T c0 r0 lw σ0 τ0 rc o (fun _ => true) := by
  intro fx fr ws t n ck ca S σ τ hp hpre
  by_cases c1 : kd b nb t = 30
  · exact h1 _ _ _ _ _ _ _ _ _ _ (decide_eq_true c1) hpre
  by_cases c2 : 21 ≤ kd b nb t ∧ kd b nb t ≤ 29
  · exact h2 _ _ _ _ _ _ _ _ _ _ (decide_eq_true c2) hpre
  by_cases c4 : kd b nb t = 14
  · exact h4 _ _ _ _ _ _ _ _ _ _ (decide_eq_true c4) hpre
  by_cases c5 : kd b nb t = 41
  · exact h5 _ _ _ _ _ _ _ _ _ _ (decide_eq_true c5) hpre
  by_cases c6 : kd b nb t = 38
  · exact h6 _ _ _ _ _ _ _ _ _ _ (decide_eq_true c6) hpre
  exact h3 _ _ _ _ _ _ _ _ _ _ (decide_eq_true ⟨c1, c2, c4, c5, c6⟩) hpre
theorem sum_d {b : Nat → Nat} {nb T c0 r0 lw : Nat} {σ0 τ0 : gx_R} {m o : Nat} (h : ∀ d, 7 * m + 1 ≤ d → SpO b nb T c0 r0 lw σ0 τ0 (Re_rec d 4 (nI o)) o (fun _ => true)) : ∀ d, 7 * m + 3 ≤ d → Spec b nb T c0 r0 lw σ0 τ0 1 2 7 3 3 false nopS (Re_rec d 6 (nI o)) o := by
  intro d hd
  obtain ⟨d, rfl⟩ : ∃ x, d = x + 2 := ⟨d - 2, by omega⟩
  exact sum_v (prod_v (one_5 (h d (by omega))))
theorem all_v {b : Nat → Nat} {nb T c0 r0 lw : Nat} {σ0 τ0 : gx_R} (hl : lw < 4) (h9 : σ0 39 9 = nI lw) (h31 : τ0 109 31 = nI lw) : ∀ m o, o + m = 8 → (∀ d, 7 * m + 1 ≤ d → SpO b nb T c0 r0 lw σ0 τ0 (Re_rec d 4 (nI o)) o (fun _ => true)) ∧ (∀ d, 7 * m + 4 ≤ d → SpQ b nb T c0 r0 lw σ0 τ0 (Re_rec d 0 (nI o)) o) := by
  intro m
  induction m with
  | zero =>
    intro o ho
    have ho : o = 8 := by omega
    subst ho
    have p1 : ∀ d, 7 * 0 + 1 ≤ d → SpO b nb T c0 r0 lw σ0 τ0 (Re_rec d 4 (nI 8)) 8 (fun _ => true) := by
      intro d hd
      obtain ⟨d, rfl⟩ : ∃ x, d = x + 1 := ⟨d - 1, by omega⟩
      have hd' := @one_deep b nb T c0 r0 lw σ0 τ0 (Re_rec d)
      have sub : ∀ k0, k0 = 14 ∨ k0 = 41 ∨ k0 = 38 → SpO b nb T c0 r0 lw σ0 τ0 (Re_one_E (Re_rec d) (nI 8)) 8 (fun k => decide (k = k0)) := fun k0 h0 fx fr ws t n ck ca S σ τ hp hpre => hd' fx fr ws t n ck ca S σ τ (decide_eq_true (by have := of_decide_eq_true hp; omega)) hpre
      exact one_all (one_num _ _ _) (one_name _ _ _ hl h9 h31) (one_bad _ _ _) (sub 14 (by omega)) (sub 41 (by omega)) (sub 38 (by omega))
    refine ⟨p1, fun d hd => ?_⟩
    obtain ⟨d, rfl⟩ : ∃ x, d = x + 1 := ⟨d - 1, by omega⟩
    exact ask_v (fun h => absurd h (by omega)) (sum_d p1 d (by omega))
  | succ m ih =>
    intro o ho
    obtain ⟨i1, i2⟩ := ih (o + 1) (by omega)
    have iS := sum_d i1
    have p1 : ∀ d, 7 * (m + 1) + 1 ≤ d → SpO b nb T c0 r0 lw σ0 τ0 (Re_rec d 4 (nI o)) o (fun _ => true) := by
      intro d hd
      obtain ⟨d, rfl⟩ : ∃ x, d = x + 5 := ⟨d - 5, by omega⟩
      exact one_all (one_num _ _ _) (one_name _ _ _ hl h9 h31) (one_bad _ _ _) (one_if (by omega) (choice_v (by omega) (either_v (both_v (ask_lv (i2 (d + 1) (by omega))))) (iS (d + 3) (by omega)))) (one_paren (by omega) (iS (d + 4) (by omega))) (one_minus (by omega) (i1 (d + 4) (by omega)))
    refine ⟨p1, fun d hd => ?_⟩
    obtain ⟨d, rfl⟩ : ∃ x, d = x + 1 := ⟨d - 1, by omega⟩
    exact ask_v (fun _ => i2 d (by omega)) (sum_d p1 d (by omega))
/-- a law's SUM, read by both -/
theorem sum_R {b : Nat → Nat} {nb T c0 r0 lw : Nat} {σ0 τ0 : gx_R} (hl : lw < 4) (h9 : σ0 39 9 = nI lw) (h31 : τ0 109 31 = nI lw) : Spec b nb T c0 r0 lw σ0 τ0 1 2 7 3 3 false nopS (Re_sum 0) 0 := sum_d (all_v hl h9 h31 8 0 (by omega)).1 120 (by omega)
