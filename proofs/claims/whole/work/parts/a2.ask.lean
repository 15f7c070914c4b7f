/-! ===== a question ===== -/
def OKQ (b : Nat → Nat) (nb T c0 r0 lw : Nat) (σ0 τ0 : gx_R) (fr ws : List (Nat × Nat)) (t n : Nat) (ck ca : Nat → Nat) (S : List Bool) (σ' τ' : gx_R) (t' : Nat) : Prop := ∃ st' N K A, MR b nb r0 τ0 τ' t' fr ws st' N K A ∧ CR b nb T c0 σ0 σ' t' N K A ∧ r0 + N + ws.length + pnd fr ≤ t' ∧ t < t' ∧ n < N ∧ (∀ j, j < n → K j = ck j ∧ A j = ca j) ∧ Sg lw K A n N S (true :: S)
def SpQ (b : Nat → Nat) (nb T c0 r0 lw : Nat) (σ0 τ0 : gx_R) (rc : gx_R → Option (Int32 × gx_R)) (o : Nat) : Prop := ∀ fx fr ws t n ck ca S σ τ, Pre b nb T c0 r0 σ0 τ0 0 1 3 o (fx :: fr) ws t n ck ca S σ τ → Fail b nb T σ0 τ0 10 t τ (rc σ) ∨ ∃ σ' τ' t' k g, rc σ = some (1, σ') ∧ (∀ f, Md_text_44 (f + k) τ = z_bd (Md_askIsOver_0 g τ') (fun _ σ => Md_text_44 f σ)) ∧ z_FU ≤ g + (t' - t) ∧ k ≤ 8 * (t' - t) ∧ OKQ b nb T c0 r0 lw σ0 τ0 (fx :: fr) ws t n ck ca S σ' τ' t'
theorem ask_lv {b : Nat → Nat} {nb T c0 r0 lw : Nat} {σ0 τ0 : gx_R} {rc : gx_R → Option (Int32 × gx_R)} {o : Nat} (h : SpQ b nb T c0 r0 lw σ0 τ0 rc o) : Spec b nb T c0 r0 lw σ0 τ0 0 3 3 1 3 true nop0 rc o := by
  intro fx fr ws t n ck ca S σ τ htb hpre
  have hFU := z_FU_ge
  obtain ⟨b1, b2, b3, b4⟩ := hpre.1
  have hfl := hpre.2.1
  rcases h fx fr ws t n ck ca S σ τ hpre with hf | ⟨σ', τ', t', k, g, s1, s2, s3, s4, st', N, K, A, u1, u2, u3, u4, u5, u6, u7⟩
  · exact Or.inl hf
  · have hT := u2.1.1
    have htT : t' ≤ T := u2.2.1
    rw [List.length_cons] at b3
    obtain ⟨g, rfl⟩ : ∃ x, g = x + 1 := ⟨g - 1, by omega⟩
    obtain ⟨v1, v2⟩ := ask_0 u1 (by omega) htb
    refine Or.inr ⟨σ', _, t', k, s1, fun f => ?_, s4, ⟨N, K, A, ws, [], N, K, A, v2, hfl, Nat.le_refl _, ⟨rfl, rfl, rfl⟩, u2, u3, u4, u5, u6, u7⟩, rfl⟩
    rw [s2, v1 g, w_bd]
theorem ask_v {b : Nat → Nat} {nb T c0 r0 lw : Nat} {σ0 τ0 : gx_R} {d o : Nat} (hN : o < 8 → SpQ b nb T c0 r0 lw σ0 τ0 (Re_rec d 0 (nI (o + 1))) (o + 1)) (hS : Spec b nb T c0 r0 lw σ0 τ0 1 2 7 3 3 false nopS (Re_rec d 6 (nI o)) o) : SpQ b nb T c0 r0 lw σ0 τ0 (Re_rec (d + 1) 0 (nI o)) o := by
  intro fx fr ws t n ck ca S σ τ hpre
  obtain ⟨⟨b1, b2, b3, b4⟩, b5, b6, b7, ⟨b8, b9⟩, b10, hM, hC⟩ := hpre
  have hT := hC.1.1
  have htT : t ≤ T := hC.2.1
  have hFU := z_FU_ge
  have h100 := @kd_100 b nb
  have h8 : σ 39 8 = nI (kd b nb t) := hC.2.2.2.1
  rw [List.length_cons] at b3 b7 b10
  have b6 : ∀ w, w ∈ ws → w.2 ≤ fr.length + 1 := b6
  have fnew : ∀ y : Nat × Nat, fl 3 (y :: fx :: fr).length ws = (ws, []) := fun y => fl_new (fun w hw => by have := b6 w hw; rw [List.length_cons, List.length_cons]; omega)
  show Fail b nb T σ0 τ0 10 t τ (Re_ask_E (Re_rec d) (nI o) σ) ∨ _
  by_cases c : kd b nb t = 20
  · have h8' : σ 39 8 = 20 := by rw [h8, c]; rfl
    by_cases c8 : o < 8
    · obtain ⟨τ1, m1, m2⟩ := Q_not hM c (by rw [List.length_cons]; omega) (by omega)
      obtain ⟨σ1, a1, a2⟩ := adv_v hC (by omega)
      have ht1 : t + 1 ≤ T := a2.2.1
      have e0 : Re_ask_E (Re_rec d) (nI o) σ = z_bd (Re_rec d 0 (nI (o + 1)) σ1) (fun r6 σ7 => z_bd (Te_put 20 σ7) (fun _ σ10 => z_ck (z_bo r6) (some (r6, σ10)))) := by
        rw [Re_ask_E, if_pos h8', if_pos (show nI o < 8 from (nI_ltI (b := 8) (by omega) (by omega)).mpr c8), a1, w_bd, show nI o + 1 = nI (o + 1) from nI_add _ 1]
      have hp1 : Pre b nb T c0 r0 σ0 τ0 0 1 3 (o + 1) ((3, 0) :: fx :: fr) ws (t + 1) n ck ca S σ1 τ1 := ⟨⟨by rw [opN, b1, if_neg (by show ¬ ((3 : Nat) = 1 ∨ (3 : Nat) = 4 ∨ (3 : Nat) = 5); omega)], by omega, by rw [List.length_cons, List.length_cons]; omega, by rw [List.length_cons]; omega⟩, fnew _, fun w hw => by have := b6 w hw; rw [List.length_cons, List.length_cons]; omega, by rw [List.length_cons, List.length_cons]; omega, ⟨b8, by rw [pnd, if_pos (Or.inl rfl)]; omega⟩, by rw [List.length_cons, List.length_cons]; omega, m2, a2⟩
      rcases hN c8 _ _ _ _ _ _ _ _ _ _ hp1 with ⟨ef, tf, kf, f1, f2, f3, ⟨σ2, f4, f5⟩, f6⟩ | ⟨σ2, τ2, t2, k2, g2, s1, s2, s3, s4, st', N, K, A, u1, u2, u3, u4, u5, u6, u7⟩
      · obtain ⟨σ3, g1, g2⟩ := put_F f5 20
        refine Or.inl ⟨ef, tf, kf + 1, by omega, f2, by omega, ⟨σ3, ?_, g2⟩, fun f => ?_⟩
        · rw [e0, f4, w_bd, g1, w_bd, bo_0, w_ck]
        · rw [show f + (kf + 1) = f + kf + 1 by omega, m1]; exact f6 f
      · have ht2 : t2 ≤ T := u2.2.1
        rw [pnd, if_pos (Or.inl rfl)] at u3
        obtain ⟨σ3, g3, g4⟩ := wput_v (k := 20) (a := 0) (w := 20) u2 (by omega) (by unfold aI; rw [if_neg (by omega)]; rfl)
        obtain ⟨g2, rfl⟩ : ∃ x, g2 = x + 1 := ⟨g2 - 1, by omega⟩
        obtain ⟨τ3, v1, v2⟩ := ask_3 u1 (by rw [List.length_cons]; omega) (by omega) (by omega)
        refine Or.inr ⟨σ3, τ3, t2, k2 + 1, g2, ?_, fun f => ?_, by omega, by omega, st', N + 1, fset K N 20, fset A N 0, v2, g4, by omega, by omega, by omega, fun j hj => by rw [fset_n _ _ (by omega), fset_n _ _ (by omega)]; exact u6 j hj, ?_⟩
        · show Re_ask_E (Re_rec d) (nI o) σ = _
          rw [e0, s1, w_bd, g3, w_bd, bo_1, w_ck]
        · rw [show f + (k2 + 1) = f + k2 + 1 by omega, m1, s2, v1]
        · refine Sg_glue (Sg_c u7 (fun j j1 j2 => by rw [fset_n _ _ (by omega), fset_n _ _ (by omega)]; exact ⟨rfl, rfl⟩)) (Sg_one (by rw [List.length_cons]; omega) (by rw [List.length_cons]; omega) (fun tp t1 t2 => ?_)) (by omega) (by omega)
          exact Or.inr (Or.inr (Or.inr (Or.inl ⟨S, fset_e _ _ _, fset_e _ _ _, t1, by rw [t1, t2]⟩)))
    · obtain ⟨σ1, p1, p2⟩ := ref_v hC 3
      have p1 : Re_refuse 3 σ = some (0, σ1) := p1
      refine Or.inl ⟨3, t, 2, Nat.le_refl _, htT, by omega, ⟨σ1, ?_, p2⟩, fun f => Q_not8 hM c (by omega) f⟩
      rw [Re_ask_E, if_pos h8', if_neg (show ¬ nI o < 8 from fun z => c8 ((nI_ltI (b := 8) (by omega) (by omega)).mp z)), p1, w_bd, bo_0, w_ck]
  · have h8' : ¬ σ 39 8 = 20 := fun z => by rw [h8] at z; exact c ((kI (h100 t) 20 (by omega)).mp z)
    obtain ⟨τ1, m1, m2⟩ := Q_left hM c (by rw [List.length_cons]; omega)
    have e0 : Re_ask_E (Re_rec d) (nI o) σ = z_bd (Re_rec d 6 (nI o) σ) (fun r17 σ18 => if r17 = 0 then some ((0 : Int32), σ18) else if (σ18 39 8) < (31 : Int32) then Re_ask_40 (Re_rec d) σ18 else if (σ18 39 8) ≤ (36 : Int32) then z_bd (Re_advance σ18) (fun _ σ24 => z_bd (Re_rec d 6 (nI o) σ24) (fun r26 σ27 => z_bd (Te_put (σ18 39 8) σ27) (fun _ σ30 => z_ck (z_bo r26) (some (r26, σ30))))) else Re_ask_40 (Re_rec d) σ18) := by
      rw [Re_ask_E, if_neg h8']
    have hp1 : Pre b nb T c0 r0 σ0 τ0 1 3 3 o ((4, 0) :: fx :: fr) ws t n ck ca S σ τ1 := ⟨⟨by rw [opN, b1, if_pos (by show ((4 : Nat) = 1 ∨ (4 : Nat) = 4 ∨ (4 : Nat) = 5); omega)]; rfl, by omega, by rw [List.length_cons, List.length_cons]; omega, by rw [List.length_cons]; omega⟩, fnew _, fun w hw => by have := b6 w hw; rw [List.length_cons, List.length_cons]; omega, by rw [List.length_cons, List.length_cons]; omega, ⟨b8, by rw [pnd, if_neg (by show ¬ ((4 : Nat) = 3 ∨ (4 : Nat) = 5 ∨ (4 : Nat) = 7); omega)]; omega⟩, by rw [List.length_cons, List.length_cons]; omega, m2, hC⟩
    rcases hS _ _ _ _ _ _ _ _ _ _ (by show (4 : Nat) ≠ 7; omega) hp1 with ⟨ef, tf, kf, f1, f2, f3, ⟨σ2, f4, f5⟩, f6⟩ | ⟨σ2, τ2, t2, k2, s1, s2, s3, ⟨n2, ck2, ca2, ws2, ls2, N2, K2, A2, u1, u2, u3, ⟨u4, u5, u6⟩, u7, u8, u9, u10, u11, u12⟩, s0⟩
    · refine Or.inl ⟨ef, tf, kf + 1, by omega, f2, by omega, ⟨σ2, ?_, f5⟩, fun f => ?_⟩
      · rw [e0, f4, w_bd, if_pos rfl]
      · rw [show f + (kf + 1) = f + kf + 1 by omega, m1]; exact f6 f
    · have ht2 : t2 ≤ T := u7.2.1
      have hno := nopS_v s0
      have hfl2 := fl_len 3 ((4, 0) :: fx :: fr).length ws2
      rw [u2] at hfl2
      have hfl2 : ws.length + ls2.length = ws2.length := hfl2
      rw [pnd, if_neg (by show ¬ ((4 : Nat) = 3 ∨ (4 : Nat) = 5 ∨ (4 : Nat) = 7); omega)] at u8
      have h82 : σ2 39 8 = nI (kd b nb t2) := u7.2.2.2.1
      rw [s1, w_bd, if_neg (show ¬ (1 : Int32) = 0 by decide), h82] at e0
      by_cases ca : 31 ≤ kd b nb t2 ∧ kd b nb t2 ≤ 36
      · obtain ⟨τ3, g1, g2⟩ := G_ask u1 (by rw [List.length_cons]; omega) ca (by omega) (by omega)
        have u2' : fl 3 ((fx :: fr).length + 1) ws2 = (ws, ls2) := u2
        rw [u2'] at g2
        have g2 : MR b nb r0 τ0 τ3 (t2 + 1) ((5, kd b nb t2) :: fx :: fr) ws 1 (n2 + ls2.length) (emK n2 ck2 ls2) (emA n2 ca2 ls2) := g2
        rw [← u4, ← u5, ← u6] at g2
        obtain ⟨σ3, a1, a2⟩ := adv_v u7 (by omega)
        have ht3 : t2 + 1 ≤ T := a2.2.1
        have hp2 : Pre b nb T c0 r0 σ0 τ0 1 3 3 o ((5, kd b nb t2) :: fx :: fr) ws (t2 + 1) N2 K2 A2 (false :: S) σ3 τ3 := ⟨⟨by rw [opN, b1, if_pos (by show ((5 : Nat) = 1 ∨ (5 : Nat) = 4 ∨ (5 : Nat) = 5); omega)]; rfl, by omega, by rw [List.length_cons, List.length_cons]; omega, by rw [List.length_cons]; omega⟩, fnew _, fun w hw => by have := b6 w hw; rw [List.length_cons, List.length_cons]; omega, by rw [List.length_cons, List.length_cons]; omega, ⟨b8, by rw [pnd, if_pos (by show ((5 : Nat) = 3 ∨ (5 : Nat) = 5 ∨ (5 : Nat) = 7); omega)]; omega⟩, by rw [List.length_cons, List.length_cons, List.length_cons]; omega, g2, a2⟩
        rw [if_neg (show ¬ nI (kd b nb t2) < 31 from fun z => by have := (nI_ltI (b := 31) (by omega) (by omega)).mp z; omega), if_pos (show nI (kd b nb t2) ≤ 36 from (nI_leI (b := 36) (by omega) (by omega)).mpr ca.2), a1, w_bd] at e0
        rcases hS _ _ _ _ _ _ _ _ _ _ (by show (5 : Nat) ≠ 7; omega) hp2 with ⟨ef, tf, kf, f1, f2, f3, ⟨σ4, f4, f5⟩, f6⟩ | ⟨σ4, τ4, t4, k4, x1, x2, x3, ⟨n4, ck4, ca4, ws4, ls4, N4, K4, A4, y1, y2, y3, ⟨y4, y5, y6⟩, y7, y8, y9, y10, y11, y12⟩, x0⟩
        · obtain ⟨σ5, z1, z2⟩ := put_F f5 (nI (kd b nb t2))
          refine Or.inl ⟨ef, tf, kf + 1 + k2 + 1, by omega, f2, by omega, ⟨σ5, ?_, z2⟩, fun f => ?_⟩
          · rw [e0, f4, w_bd, z1, w_bd, bo_0, w_ck]
          · rw [show f + (kf + 1 + k2 + 1) = f + kf + 1 + k2 + 1 by omega, m1, s2, g1]; exact f6 f
        · have ht4 : t4 ≤ T := y7.2.1
          have hno4 := nopS_v x0
          have hfl4 := fl_len 3 ((5, kd b nb t2) :: fx :: fr).length ws4
          rw [y2] at hfl4
          have hfl4 : ws.length + ls4.length = ws4.length := hfl4
          rw [pnd, if_pos (by show ((5 : Nat) = 3 ∨ (5 : Nat) = 5 ∨ (5 : Nat) = 7); omega)] at y8
          obtain ⟨τ5, v1, v2⟩ := G_right y1 (by rw [List.length_cons]; omega) hno4 ca (by omega) (by omega)
          have y2' : fl 3 ((fx :: fr).length + 1) ws4 = (ws, ls4) := y2
          rw [y2'] at v2
          have v2 : MR b nb r0 τ0 τ5 t4 (fx :: fr) ws 2 (n4 + ls4.length + 1) (fset (emK n4 ck4 ls4) (n4 + ls4.length) (kd b nb t2)) (fset (emA n4 ca4 ls4) (n4 + ls4.length) 0) := v2
          rw [← y4, ← y5, ← y6] at v2
          obtain ⟨σ5, z1, z2⟩ := wput_v (k := kd b nb t2) (a := 0) (w := nI (kd b nb t2)) y7 (by omega) (by unfold aI; rw [if_neg (by omega), Nat.mul_zero, Nat.zero_add])
          refine Or.inr ⟨σ5, τ5, t4, 1 + k4 + 1 + k2 + 1, z_FU, ?_, fun f => ?_, by omega, by omega, 2, N4 + 1, _, _, v2, z2, by omega, by omega, by omega, fun j hj => by rw [fset_n _ _ (by omega), fset_n _ _ (by omega), (y11 j (by omega)).1, (y11 j (by omega)).2]; exact u11 j hj, ?_⟩
          · show Re_ask_E (Re_rec d) (nI o) σ = _
            rw [e0, x1, w_bd, z1, w_bd, bo_1, w_ck]
          · rw [show f + (1 + k4 + 1 + k2 + 1) = f + 1 + k4 + 1 + k2 + 1 by omega, m1, s2, g1, x2, v1]; rfl
          · refine Sg_glue (Sg_glue (Sg_c u12 (fun j j1 j2 => by rw [fset_n _ _ (by omega), fset_n _ _ (by omega)]; exact y11 j j2)) (Sg_c y12 (fun j j1 j2 => by rw [fset_n _ _ (by omega), fset_n _ _ (by omega)]; exact ⟨rfl, rfl⟩)) (by omega) (by omega)) (Sg_one (by rw [List.length_cons, List.length_cons]; omega) (by rw [List.length_cons]; omega) (fun tp t1 t2 => ?_)) (by omega) (by omega)
            exact Or.inr (Or.inr (Or.inr (Or.inr (Or.inr (Or.inr ⟨false, true, S, by rw [fset_e]; exact Or.inr (Or.inl ⟨ca.1, ca.2, rfl, rfl⟩), fset_e _ _ _, t1, t2⟩)))))
      · obtain ⟨σ3, p1, p2⟩ := ref_v u7 1
        have p1 : Re_refuse 1 σ2 = some (0, σ3) := p1
        have e40 : Re_ask_40 (Re_rec d) σ2 = some (0, σ3) := by rw [Re_ask_40, p1, w_bd, bo_0, w_ck]
        refine Or.inl ⟨1, t2, 2 + k2 + 1, by omega, ht2, by omega, ⟨σ3, ?_, p2⟩, fun f => ?_⟩
        · rw [e0, e40]
          by_cases c31 : kd b nb t2 < 31
          · rw [if_pos (show nI (kd b nb t2) < 31 from (nI_ltI (b := 31) (by omega) (by omega)).mpr c31)]
          · have := h100 t2
            rw [if_neg (show ¬ nI (kd b nb t2) < 31 from fun z => c31 ((nI_ltI (b := 31) (by omega) (by omega)).mp z)), if_neg (show ¬ nI (kd b nb t2) ≤ 36 from fun z => by have := (nI_leI (b := 36) (by omega) (by omega)).mp z; omega)]
        · rw [show f + (2 + k2 + 1) = f + 2 + k2 + 1 by omega, m1, s2]
          exact G_err u1 (by rw [List.length_cons]; omega) hno (fun z => by have z : (4 : Nat) = 6 ∧ _ := z; omega) (fun z => by have z : (4 : Nat) = 8 ∧ _ := z; omega) (fun z => by have z : (4 : Nat) = 9 ∧ _ := z; omega) (fun z => ca z.2) (by show (4 : Nat) ≠ 5; omega) (fun z => by have z : (4 : Nat) = 1 ∧ _ := z; omega) f
